def w_X2_thrown (thr : Int32) (post : Int32 → Prop) : Prop := post thr

set_option maxHeartbeats 4000000 in
set_option maxRecDepth 100000 in
theorem c_X2_thrown (l : Launch) (dC : Nat → ClassId) (dI : Nat → Nat → Nat) (cI cZ : ClassId) (y : Nat) (bH : Nat) (bS : Nat) (bL : Nat) (bO : Nat) (bK : Nat) (bZ : Nat) (bR : Nat) (bG : Nat) (bB : Nat) (bX : Nat) (sz : Nat) (thr : Int32) (mel : Int32) (sea : Int32) (rnd : Int32) (bas : Int32) (lim : Int32) (post : Int32 → Prop) (hw : w_X2_thrown thr post) : Met l yX2_thrown wsX2_thrown ({ frames := 0, cells := 0, slots := 0, locals := 0 } : Room) (va_Pc [.ref y] (fun U => U.heap.size = sz ∧ va_P (dC, dI) vwCl [(y, .inr (2, [.int thr, .ref bH, .ref bS, .ref bL, .int mel, .ref bO, .ref bK, .ref bZ, .int sea, .int rnd, .int bas, .int lim, .ref bR, .ref bG, .ref bB, .ref bX]))] U.heap ∧ va_K (dC, dI) vwCl [(cI, .int), (cZ, .boolean)] U ∧ va_D (fun _ => True) [(y, .inr (2, [.int thr, .ref bH, .ref bS, .ref bL, .int mel, .ref bO, .ref bK, .ref bZ, .int sea, .int rnd, .int bas, .int lim, .ref bR, .ref bG, .ref bB, .ref bX]))])) (va_Qi (fun (r9 : Int32) (u9 : Unit) => post r9) (fun (u9 : Unit) (t9 : State) => va_P (dC, dI) vwCl [(y, .inr (2, [.int thr, .ref bH, .ref bS, .ref bL, .int mel, .ref bO, .ref bK, .ref bZ, .int sea, .int rnd, .int bas, .int lim, .ref bR, .ref bG, .ref bB, .ref bX]))] t9.heap ∧ va_K (dC, dI) vwCl [(cI, .int), (cZ, .boolean)] t9 ∧ va_D (va_A [(y, .inr (2, [.int thr, .ref bH, .ref bS, .ref bL, .int mel, .ref bO, .ref bK, .ref bZ, .int sea, .int rnd, .int bas, .int lim, .ref bR, .ref bG, .ref bB, .ref bX]))] sz) [(y, .inr (2, [.int thr, .ref bH, .ref bS, .ref bL, .int mel, .ref bO, .ref bK, .ref bZ, .int sea, .int rnd, .int bas, .int lim, .ref bR, .ref bG, .ref bB, .ref bX]))]) (va_A [(y, .inr (2, [.int thr, .ref bH, .ref bS, .ref bL, .int mel, .ref bO, .ref bK, .ref bZ, .int sea, .int rnd, .int bas, .int lim, .ref bR, .ref bG, .ref bB, .ref bX]))] sz)) 0 0 (va_A [(y, .inr (2, [.int thr, .ref bH, .ref bS, .ref bL, .int mel, .ref bO, .ref bK, .ref bZ, .int sea, .int rnd, .int bas, .int lim, .ref bR, .ref bG, .ref bB, .ref bX]))] sz) := by
  refine Met.ofW (cc := cX2_thrown) (maxL := 1) (ret := (some .int)) (by decide) rfl ?_
  intro p e s m args below meth c s₁ B hml hv
  obtain ⟨rfl, hsz, hP, hK, hD0⟩ := hv
  have hx := B.exec
  have hb := B.bytes
  have hr := B.returns
  have hts := atoms_spec (ws := wsX2_thrown) B.pre
  have hown : s.vm.findClass RX2 = some m.cls := findClass_of_methodNamed B.named
  have hlocks := B.notSynchronized
  have hinX2 : ∀ w ∈ u_ws RX2 TX2 16, w ∈ wsX2_thrown := by decide +kernel
  subst hsz
  have hD := hD0.self (sz := s.heap.size)
  generalize hAe : va_A [(y, .inr (2, [.int thr, .ref bH, .ref bS, .ref bL, .int mel, .ref bO, .ref bK, .ref bZ, .int sea, .int rnd, .int bas, .int lim, .ref bR, .ref bG, .ref bB, .ref bX]))] s.heap.size = A at hD ⊢
  have hA : ∀ q : Nat, s.heap.size ≤ q → A q := fun q h => by rw [← hAe]; exact Or.inr h
  have hS : va_S A s.heap s.heap [] := va_S.rf
  have hl := lv_entry ([.ref y]) (n := 1) (Nat.le_of_ble_eq_true rfl)
  rw [lg_entry_eq]
  generalize (lg_sl ([.ref y]) ++ List.replicate (1 - (lg_sl ([.ref y])).length) Slot.unset).toArray = ls at hl ⊢
  have hl : lv_has ls 1 [(0, .ref y)] := hl
  refine (?_ : ∀ Q9 : State → Prop, MQ below _ _ s _ _ _ = Q9 → W p l e ({ frames := 0, cells := 0, slots := 0, locals := 0 } : Room) s m _ below meth c s.heap [] 0 0 Q9 (F0 m 0 ls [])) _ rfl
  intro Q9 hQ9
  have hw : post thr := hw
  refine lv_aload_n hx hb dX2_thrown_0 rfl (lv_at hl 0 rfl) ?_
  refine va_get (D := (dC, dI)) (ci := 2) (v := .int thr) (C := RX2) (T := TX2) (N := 16) hx hb hts hinX2 hown hK hP 0 rfl rfl 0 (by decide) (hts (.fieldLink RX2 54 "TileHandModel" "thrown" "I") (by decide +kernel)) (fun _ h9 => h9) rfl dX2_thrown_1 ?_
  rw [← hQ9]
  exact W.iret (v := thr) hx hb hr (fun t ht hW => ⟨⟨thr, (), rfl, hw, by rw [ht]; exact hP, va_K.moved hW.alike hK, hD⟩, hS.F ht⟩) hS.2.2 dX2_thrown_4

def w_X2_fail (thr : Int32) (p0 : Int32) (post : Int32 → Int32 → Prop) : Prop := post (0 : Int32) p0

set_option maxHeartbeats 4000000 in
set_option maxRecDepth 100000 in
theorem c_X2_fail (l : Launch) (dC : Nat → ClassId) (dI : Nat → Nat → Nat) (cI cZ : ClassId) (y : Nat) (bH : Nat) (bS : Nat) (bL : Nat) (bO : Nat) (bK : Nat) (bZ : Nat) (bR : Nat) (bG : Nat) (bB : Nat) (bX : Nat) (sz : Nat) (thr : Int32) (mel : Int32) (sea : Int32) (rnd : Int32) (bas : Int32) (lim : Int32) (p0 : Int32) (post : Int32 → Int32 → Prop) (hw : w_X2_fail thr p0 post) : Met l yX2_fail wsX2_fail ({ frames := 0, cells := 0, slots := 0, locals := 0 } : Room) (va_Pc [.ref y, .int p0] (fun U => U.heap.size = sz ∧ va_P (dC, dI) vwCl [(y, .inr (2, [.int thr, .ref bH, .ref bS, .ref bL, .int mel, .ref bO, .ref bK, .ref bZ, .int sea, .int rnd, .int bas, .int lim, .ref bR, .ref bG, .ref bB, .ref bX]))] U.heap ∧ va_K (dC, dI) vwCl [(cI, .int), (cZ, .boolean)] U ∧ va_D (fun _ => True) [(y, .inr (2, [.int thr, .ref bH, .ref bS, .ref bL, .int mel, .ref bO, .ref bK, .ref bZ, .int sea, .int rnd, .int bas, .int lim, .ref bR, .ref bG, .ref bB, .ref bX]))])) (va_Qi (fun (r9 : Int32) (u9 : Int32) => post r9 u9) (fun (u9 : Int32) (t9 : State) => va_P (dC, dI) vwCl [(y, .inr (2, [.int u9, .ref bH, .ref bS, .ref bL, .int mel, .ref bO, .ref bK, .ref bZ, .int sea, .int rnd, .int bas, .int lim, .ref bR, .ref bG, .ref bB, .ref bX]))] t9.heap ∧ va_K (dC, dI) vwCl [(cI, .int), (cZ, .boolean)] t9 ∧ va_D (va_A [(y, .inr (2, [.int thr, .ref bH, .ref bS, .ref bL, .int mel, .ref bO, .ref bK, .ref bZ, .int sea, .int rnd, .int bas, .int lim, .ref bR, .ref bG, .ref bB, .ref bX]))] sz) [(y, .inr (2, [.int u9, .ref bH, .ref bS, .ref bL, .int mel, .ref bO, .ref bK, .ref bZ, .int sea, .int rnd, .int bas, .int lim, .ref bR, .ref bG, .ref bB, .ref bX]))]) (va_A [(y, .inr (2, [.int thr, .ref bH, .ref bS, .ref bL, .int mel, .ref bO, .ref bK, .ref bZ, .int sea, .int rnd, .int bas, .int lim, .ref bR, .ref bG, .ref bB, .ref bX]))] sz)) 0 0 (va_A [(y, .inr (2, [.int thr, .ref bH, .ref bS, .ref bL, .int mel, .ref bO, .ref bK, .ref bZ, .int sea, .int rnd, .int bas, .int lim, .ref bR, .ref bG, .ref bB, .ref bX]))] sz) := by
  refine Met.ofW (cc := cX2_fail) (maxL := 2) (ret := (some .int)) (by decide) rfl ?_
  intro p e s m args below meth c s₁ B hml hv
  obtain ⟨rfl, hsz, hP, hK, hD0⟩ := hv
  have hx := B.exec
  have hb := B.bytes
  have hr := B.returns
  have hts := atoms_spec (ws := wsX2_fail) B.pre
  have hown : s.vm.findClass RX2 = some m.cls := findClass_of_methodNamed B.named
  have hlocks := B.notSynchronized
  have hinX2 : ∀ w ∈ u_ws RX2 TX2 16, w ∈ wsX2_fail := by decide +kernel
  subst hsz
  have hD := hD0.self (sz := s.heap.size)
  generalize hAe : va_A [(y, .inr (2, [.int thr, .ref bH, .ref bS, .ref bL, .int mel, .ref bO, .ref bK, .ref bZ, .int sea, .int rnd, .int bas, .int lim, .ref bR, .ref bG, .ref bB, .ref bX]))] s.heap.size = A at hD ⊢
  have hA : ∀ q : Nat, s.heap.size ≤ q → A q := fun q h => by rw [← hAe]; exact Or.inr h
  have hS : va_S A s.heap s.heap [] := va_S.rf
  have hl := lv_entry ([.ref y, .int p0]) (n := 2) (Nat.le_of_ble_eq_true rfl)
  rw [lg_entry_eq]
  generalize (lg_sl ([.ref y, .int p0]) ++ List.replicate (2 - (lg_sl ([.ref y, .int p0])).length) Slot.unset).toArray = ls at hl ⊢
  have hl : lv_has ls 2 [(0, .ref y), (1, .int p0)] := hl
  refine (?_ : ∀ Q9 : State → Prop, MQ below _ _ s _ _ _ = Q9 → W p l e ({ frames := 0, cells := 0, slots := 0, locals := 0 } : Room) s m _ below meth c s.heap [] 0 0 Q9 (F0 m 0 ls [])) _ rfl
  intro Q9 hQ9
  have hw : post (0 : Int32) p0 := hw
  refine lv_aload_n hx hb dX2_fail_0 rfl (lv_at hl 0 rfl) ?_
  refine lv_iload_n hx hb dX2_fail_1 rfl (lv_at hl 1 rfl) ?_
  refine va_put (D := (dC, dI)) (ci := 2) (v := .int p0) (ty := .int) (C := RX2) (T := TX2) (N := 16) hx hb hts hinX2 tyX2 tyX2_ok nmX2 hown hK hP hD hS 0 rfl rfl 0 (by decide) (hts (.fieldLink RX2 54 "TileHandModel" "thrown" "I") (by decide +kernel)) (fun _ h9 => h9) rfl (by decide +kernel) rfl rfl (Nat.le_of_ble_eq_true rfl) dX2_fail_2 (fun H locs hP hD hS => ?_)
  have hP : va_P (dC, dI) vwCl [(y, .inr (2, [.int p0, .ref bH, .ref bS, .ref bL, .int mel, .ref bO, .ref bK, .ref bZ, .int sea, .int rnd, .int bas, .int lim, .ref bR, .ref bG, .ref bB, .ref bX]))] H := hP
  have hD : va_D A [(y, .inr (2, [.int p0, .ref bH, .ref bS, .ref bL, .int mel, .ref bO, .ref bK, .ref bZ, .int sea, .int rnd, .int bas, .int lim, .ref bR, .ref bG, .ref bB, .ref bX]))] := hD
  refine lv_iconst (v := 0) hx hb dX2_fail_5 (by decide) ?_
  rw [← hQ9]
  exact W.iret (v := (0 : Int32)) hx hb hr (fun t ht hW => ⟨⟨(0 : Int32), (p0), rfl, hw, by rw [ht]; exact hP, va_K.moved hW.alike hK, hD⟩, hS.F ht⟩) hS.2.2 dX2_fail_6

def w_X2_isIn (p0 : Int32) (p1 : Int32) (p2 : Int32) (post : Int32 → Prop) : Prop := ((p0 < p1 → (post (0 : Int32))) ∧ (¬ p0 < p1 → (((p2 < p0 → (post (0 : Int32))) ∧ (¬ p2 < p0 → (post (1 : Int32)))))))

set_option maxHeartbeats 4000000 in
set_option maxRecDepth 100000 in
theorem c_X2_isIn (l : Launch) (dC : Nat → ClassId) (dI : Nat → Nat → Nat) (cI cZ : ClassId) (sz : Nat) (p0 : Int32) (p1 : Int32) (p2 : Int32) (post : Int32 → Prop) (hw : w_X2_isIn p0 p1 p2 post) : Met l yX2_isIn wsX2_isIn ({ frames := 0, cells := 0, slots := 0, locals := 0 } : Room) (va_Pc [.int p0, .int p1, .int p2] (fun U => U.heap.size = sz ∧ va_P (dC, dI) vwCl [] U.heap ∧ va_K (dC, dI) vwCl [(cI, .int), (cZ, .boolean)] U ∧ va_D (fun _ => True) [])) (va_Qi (fun (r9 : Int32) (u9 : Unit) => post r9) (fun (u9 : Unit) (t9 : State) => va_P (dC, dI) vwCl [] t9.heap ∧ va_K (dC, dI) vwCl [(cI, .int), (cZ, .boolean)] t9 ∧ va_D (va_A [] sz) []) (va_A [] sz)) 0 0 (va_A [] sz) := by
  refine Met.ofW (cc := cX2_isIn) (maxL := 3) (ret := (some .boolean)) (by decide) rfl ?_
  intro p e s m args below meth c s₁ B hml hv
  obtain ⟨rfl, hsz, hP, hK, hD0⟩ := hv
  have hx := B.exec
  have hb := B.bytes
  have hr := B.returns
  have hts := atoms_spec (ws := wsX2_isIn) B.pre
  have hown : s.vm.findClass RX2 = some m.cls := findClass_of_methodNamed B.named
  have hlocks := B.notSynchronized
  subst hsz
  have hD := hD0.self (sz := s.heap.size)
  generalize hAe : va_A [] s.heap.size = A at hD ⊢
  have hA : ∀ q : Nat, s.heap.size ≤ q → A q := fun q h => by rw [← hAe]; exact Or.inr h
  have hS : va_S A s.heap s.heap [] := va_S.rf
  have hl := lv_entry ([.int p0, .int p1, .int p2]) (n := 3) (Nat.le_of_ble_eq_true rfl)
  rw [lg_entry_eq]
  generalize (lg_sl ([.int p0, .int p1, .int p2]) ++ List.replicate (3 - (lg_sl ([.int p0, .int p1, .int p2])).length) Slot.unset).toArray = ls at hl ⊢
  have hl : lv_has ls 3 [(0, .int p0), (1, .int p1), (2, .int p2)] := hl
  refine (?_ : ∀ Q9 : State → Prop, MQ below _ _ s _ _ _ = Q9 → W p l e ({ frames := 0, cells := 0, slots := 0, locals := 0 } : Room) s m _ below meth c s.heap [] 0 0 Q9 (F0 m 0 ls [])) _ rfl
  intro Q9 hQ9
  have hw : ((p0 < p1 → (post (0 : Int32))) ∧ (¬ p0 < p1 → (((p2 < p0 → (post (0 : Int32))) ∧ (¬ p2 < p0 → (post (1 : Int32))))))) := hw
  refine lv_iload_n hx hb dX2_isIn_0 rfl (lv_at hl 0 rfl) ?_
  refine lv_iload_n hx hb dX2_isIn_1 rfl (lv_at hl 1 rfl) ?_
  refine lv_icmp_lt (tgt := 14) hx hb dX2_isIn_2 (by decide) (fun c1 => ?_) (fun c1 => ?_)
  · have hw := hw.1 c1
    refine lv_iconst (v := 0) hx hb dX2_isIn_14 (by decide) ?_
    rw [← hQ9]
    exact W.zret (v := (0 : Int32)) hx hb hr rfl (fun t ht hW => ⟨⟨(0 : Int32), (), rfl, hw, by rw [ht]; exact hP, va_K.moved hW.alike hK, hD⟩, hS.F ht⟩) hS.2.2 dX2_isIn_15
  · have hw := hw.2 c1
    refine lv_iload_n hx hb dX2_isIn_5 rfl (lv_at hl 0 rfl) ?_
    refine lv_iload_n hx hb dX2_isIn_6 rfl (lv_at hl 2 rfl) ?_
    refine lv_icmp_gt (tgt := 14) hx hb dX2_isIn_7 (by decide) (fun c2 => ?_) (fun c2 => ?_)
    · have hw := hw.1 c2
      refine lv_iconst (v := 0) hx hb dX2_isIn_14 (by decide) ?_
      rw [← hQ9]
      exact W.zret (v := (0 : Int32)) hx hb hr rfl (fun t ht hW => ⟨⟨(0 : Int32), (), rfl, hw, by rw [ht]; exact hP, va_K.moved hW.alike hK, hD⟩, hS.F ht⟩) hS.2.2 dX2_isIn_15
    · have hw := hw.2 c2
      refine lv_iconst (v := 1) hx hb dX2_isIn_10 (by decide) ?_
      refine lv_goto (tgt := 15) hx hb dX2_isIn_11 (by decide) ?_
      rw [← hQ9]
      exact W.zret (v := (1 : Int32)) hx hb hr rfl (fun t ht hW => ⟨⟨(1 : Int32), (), rfl, hw, by rw [ht]; exact hP, va_K.moved hW.alike hK, hD⟩, hS.F ht⟩) hS.2.2 dX2_isIn_15

def w_X2_isKind (p0 : Int32) (post : Int32 → Prop) : Prop := w_X2_isIn p0 (0 : Int32) (33 : Int32) (fun r1 => (narrow .boolean (.int r1) = .int r1 ∧ post r1))

set_option maxHeartbeats 4000000 in
set_option maxRecDepth 100000 in
theorem c_X2_isKind (l : Launch) (dC : Nat → ClassId) (dI : Nat → Nat → Nat) (cI cZ : ClassId) (sz : Nat) (p0 : Int32) (post : Int32 → Prop) (hw : w_X2_isKind p0 post) : Met l yX2_isKind wsX2_isKind ({ frames := 2, cells := 0, slots := 0, locals := 40 } : Room) (va_Pc [.int p0] (fun U => U.heap.size = sz ∧ va_P (dC, dI) vwCl [] U.heap ∧ va_K (dC, dI) vwCl [(cI, .int), (cZ, .boolean)] U ∧ va_D (fun _ => True) [])) (va_Qi (fun (r9 : Int32) (u9 : Unit) => post r9) (fun (u9 : Unit) (t9 : State) => va_P (dC, dI) vwCl [] t9.heap ∧ va_K (dC, dI) vwCl [(cI, .int), (cZ, .boolean)] t9 ∧ va_D (va_A [] sz) []) (va_A [] sz)) 0 0 (va_A [] sz) := by
  refine Met.ofW (cc := cX2_isKind) (maxL := 1) (ret := (some .boolean)) (by decide) rfl ?_
  intro p e s m args below meth c s₁ B hml hv
  obtain ⟨rfl, hsz, hP, hK, hD0⟩ := hv
  have hx := B.exec
  have hb := B.bytes
  have hr := B.returns
  have hts := atoms_spec (ws := wsX2_isKind) B.pre
  have hown : s.vm.findClass RX2 = some m.cls := findClass_of_methodNamed B.named
  have hlocks := B.notSynchronized
  subst hsz
  have hD := hD0.self (sz := s.heap.size)
  generalize hAe : va_A [] s.heap.size = A at hD ⊢
  have hA : ∀ q : Nat, s.heap.size ≤ q → A q := fun q h => by rw [← hAe]; exact Or.inr h
  have hS : va_S A s.heap s.heap [] := va_S.rf
  have hl := lv_entry ([.int p0]) (n := 1) (Nat.le_of_ble_eq_true rfl)
  rw [lg_entry_eq]
  generalize (lg_sl ([.int p0]) ++ List.replicate (1 - (lg_sl ([.int p0])).length) Slot.unset).toArray = ls at hl ⊢
  have hl : lv_has ls 1 [(0, .int p0)] := hl
  refine (?_ : ∀ Q9 : State → Prop, MQ below _ _ s _ _ _ = Q9 → W p l e ({ frames := 2, cells := 0, slots := 0, locals := 40 } : Room) s m _ below meth c s.heap [] 0 0 Q9 (F0 m 0 ls [])) _ rfl
  intro Q9 hQ9
  have hw : w_X2_isIn p0 (0 : Int32) (33 : Int32) (fun r1 => (narrow .boolean (.int r1) = .int r1 ∧ post r1)) := hw
  refine lv_iload_n hx hb dX2_isKind_0 rfl (lv_at hl 0 rfl) ?_
  refine lv_iconst (v := 0) hx hb dX2_isKind_1 (by decide) ?_
  refine lv_bipush (v := 33) hx hb dX2_isKind_2 (by decide) ?_
  have hPc := hP.sub (ws' := []) [] rfl
  have hDc := hD.sub (ws' := []) [] (by decide) rfl
  have hFc := va_free (wc := []) hD hS hA [] rfl
  refine va_calli (va_runS (As := [.int p0, .int (0 : Int32), .int (33 : Int32)]) (rest := []) ⟨hx, hb, hml, hown, hts⟩ (c_X2_isIn l dC dI cI cZ s.heap.size p0 (0 : Int32) (33 : Int32) _ hw) (va_cwS 3 hts gX2_isKind_X2_isIn rfl rfl rfl (by decide +kernel) ⟨Nat.le_of_ble_eq_true rfl, Nat.le_of_ble_eq_true rfl⟩) ⟨fun a U g mk q => by obtain ⟨q0, q1, qP, qK, qD⟩ := q; exact ⟨q0, q1, qP, va_K.moved (u := U) (U := U.calling g mk a) (Vm.Alike.refl U.vm) qK, qD⟩, fun U hU hW => ⟨rfl, by rw [hU], by rw [hU]; exact hPc, va_K.moved hW.alike hK, hDc.weaken (fun _ _ _ _ => trivial)⟩⟩ rfl rfl hl.1 rfl (lv_room (Nat.le_of_ble_eq_true rfl)) dX2_isKind_4 ⟨Nat.le_of_ble_eq_true rfl, Nat.le_of_ble_eq_true rfl⟩) hS (fun q _ h => hFc q h) hFc (fun r1 u t H1 locs ht hvm hw hB hz1 hk1 hS => ?_)
  obtain ⟨hP1, -, hD1⟩ := hB
  have hw := And.intro hw trivial
  try dsimp only at hw
  have hw := hw.1
  rw [ht] at hP1
  obtain ⟨hP, hD⟩ := va_join (wr := []) (w1 := []) hP hD [] [] rfl rfl (by decide) (by decide) hk1 hFc hP1 hD1
  generalize H1 = H at hP hS ⊢
  have hP : va_P (dC, dI) vwCl [] H := hP
  have hD : va_D A [] := hD
  obtain ⟨h2, hw⟩ := hw
  rw [← hQ9]
  exact W.zret (v := r1) hx hb hr h2 (fun t ht hW => ⟨⟨r1, (), rfl, hw, by rw [ht]; exact hP, va_K.moved hW.alike hK, hD⟩, hS.F ht⟩) hS.2.2 dX2_isKind_7

def w_X2_isEnd_b22 (post : Int32 → Prop) (p0 : Int32) : Prop := post (1 : Int32)

def w_X2_isEnd (p0 : Int32) (post : Int32 → Prop) : Prop := (((27 : Int32) ≤ p0 → (post (0 : Int32))) ∧ (¬ (27 : Int32) ≤ p0 → ((((p0 - p0 / (9 : Int32) * (9 : Int32)) = 0 → (w_X2_isEnd_b22 post p0)) ∧ (¬ (p0 - p0 / (9 : Int32) * (9 : Int32)) = 0 → ((((p0 - p0 / (9 : Int32) * (9 : Int32)) = (8 : Int32) → (w_X2_isEnd_b22 post p0)) ∧ (¬ (p0 - p0 / (9 : Int32) * (9 : Int32)) = (8 : Int32) → (post (0 : Int32))))))))))

set_option maxHeartbeats 4000000 in
set_option maxRecDepth 100000 in
theorem c_X2_isEnd (l : Launch) (dC : Nat → ClassId) (dI : Nat → Nat → Nat) (cI cZ : ClassId) (sz : Nat) (p0 : Int32) (post : Int32 → Prop) (hw : w_X2_isEnd p0 post) : Met l yX2_isEnd wsX2_isEnd ({ frames := 0, cells := 0, slots := 0, locals := 0 } : Room) (va_Pc [.int p0] (fun U => U.heap.size = sz ∧ va_P (dC, dI) vwCl [] U.heap ∧ va_K (dC, dI) vwCl [(cI, .int), (cZ, .boolean)] U ∧ va_D (fun _ => True) [])) (va_Qi (fun (r9 : Int32) (u9 : Unit) => post r9) (fun (u9 : Unit) (t9 : State) => va_P (dC, dI) vwCl [] t9.heap ∧ va_K (dC, dI) vwCl [(cI, .int), (cZ, .boolean)] t9 ∧ va_D (va_A [] sz) []) (va_A [] sz)) 0 0 (va_A [] sz) := by
  refine Met.ofW (cc := cX2_isEnd) (maxL := 1) (ret := (some .boolean)) (by decide) rfl ?_
  intro p e s m args below meth c s₁ B hml hv
  obtain ⟨rfl, hsz, hP, hK, hD0⟩ := hv
  have hx := B.exec
  have hb := B.bytes
  have hr := B.returns
  have hts := atoms_spec (ws := wsX2_isEnd) B.pre
  have hown : s.vm.findClass RX2 = some m.cls := findClass_of_methodNamed B.named
  have hlocks := B.notSynchronized
  subst hsz
  have hD := hD0.self (sz := s.heap.size)
  generalize hAe : va_A [] s.heap.size = A at hD ⊢
  have hA : ∀ q : Nat, s.heap.size ≤ q → A q := fun q h => by rw [← hAe]; exact Or.inr h
  have hS : va_S A s.heap s.heap [] := va_S.rf
  have hl := lv_entry ([.int p0]) (n := 1) (Nat.le_of_ble_eq_true rfl)
  rw [lg_entry_eq]
  generalize (lg_sl ([.int p0]) ++ List.replicate (1 - (lg_sl ([.int p0])).length) Slot.unset).toArray = ls at hl ⊢
  have hl : lv_has ls 1 [(0, .int p0)] := hl
  refine (?_ : ∀ Q9 : State → Prop, MQ below _ _ s _ _ _ = Q9 → W p l e ({ frames := 0, cells := 0, slots := 0, locals := 0 } : Room) s m _ below meth c s.heap [] 0 0 Q9 (F0 m 0 ls [])) _ rfl
  intro Q9 hQ9
  have hw : (((27 : Int32) ≤ p0 → (post (0 : Int32))) ∧ (¬ (27 : Int32) ≤ p0 → ((((p0 - p0 / (9 : Int32) * (9 : Int32)) = 0 → (w_X2_isEnd_b22 post p0)) ∧ (¬ (p0 - p0 / (9 : Int32) * (9 : Int32)) = 0 → ((((p0 - p0 / (9 : Int32) * (9 : Int32)) = (8 : Int32) → (w_X2_isEnd_b22 post p0)) ∧ (¬ (p0 - p0 / (9 : Int32) * (9 : Int32)) = (8 : Int32) → (post (0 : Int32)))))))))) := hw
  have L22 : ∀ (H : Heap) (locs : List Loc) (ls : Array Slot), w_X2_isEnd_b22 post p0 → va_P (dC, dI) vwCl [] H → va_D A [] → va_S A s.heap H locs → lv_has ls 1 [] → W p l e ({ frames := 0, cells := 0, slots := 0, locals := 0 } : Room) s m ([.int p0] : List Value).toArray below meth c H locs 0 0 Q9 (F0 m 22 ls []) := by
    intro H locs ls hw hP hD hS hl
    refine lv_iconst (v := 1) hx hb dX2_isEnd_22 (by decide) ?_
    refine lv_goto (tgt := 27) hx hb dX2_isEnd_23 (by decide) ?_
    rw [← hQ9]
    exact W.zret (v := (1 : Int32)) hx hb hr rfl (fun t ht hW => ⟨⟨(1 : Int32), (), rfl, hw, by rw [ht]; exact hP, va_K.moved hW.alike hK, hD⟩, hS.F ht⟩) hS.2.2 dX2_isEnd_27
  refine lv_iload_n hx hb dX2_isEnd_0 rfl (lv_at hl 0 rfl) ?_
  refine lv_bipush (v := 27) hx hb dX2_isEnd_1 (by decide) ?_
  refine lv_icmp_ge (tgt := 26) hx hb dX2_isEnd_3 (by decide) (fun c1 => ?_) (fun c1 => ?_)
  · have hw := hw.1 c1
    refine lv_iconst (v := 0) hx hb dX2_isEnd_26 (by decide) ?_
    rw [← hQ9]
    exact W.zret (v := (0 : Int32)) hx hb hr rfl (fun t ht hW => ⟨⟨(0 : Int32), (), rfl, hw, by rw [ht]; exact hP, va_K.moved hW.alike hK, hD⟩, hS.F ht⟩) hS.2.2 dX2_isEnd_27
  · have hw := hw.2 c1
    refine lv_iload_n hx hb dX2_isEnd_6 rfl (lv_at hl 0 rfl) ?_
    refine lv_bipush (v := 9) hx hb dX2_isEnd_7 (by decide) ?_
    refine lv_irem hx hb dX2_isEnd_9 (by decide) ?_
    refine lv_if_eq (tgt := 22) hx hb dX2_isEnd_10 (by decide) (fun c2 => ?_) (fun c2 => ?_)
    · have hw := hw.1 c2
      exact L22 _ _ _ hw hP hD hS (lv_sub hl [] rfl)
    · have hw := hw.2 c2
      refine lv_iload_n hx hb dX2_isEnd_13 rfl (lv_at hl 0 rfl) ?_
      refine lv_bipush (v := 9) hx hb dX2_isEnd_14 (by decide) ?_
      refine lv_irem hx hb dX2_isEnd_16 (by decide) ?_
      refine lv_bipush (v := 8) hx hb dX2_isEnd_17 (by decide) ?_
      refine lv_icmp_ne (tgt := 26) hx hb dX2_isEnd_19 (by decide) (fun c3 => ?_) (fun c3 => ?_)
      · have hw := hw.2 c3
        refine lv_iconst (v := 0) hx hb dX2_isEnd_26 (by decide) ?_
        rw [← hQ9]
        exact W.zret (v := (0 : Int32)) hx hb hr rfl (fun t ht hW => ⟨⟨(0 : Int32), (), rfl, hw, by rw [ht]; exact hP, va_K.moved hW.alike hK, hD⟩, hS.F ht⟩) hS.2.2 dX2_isEnd_27
      · have hw := hw.1 c3
        exact L22 _ _ _ hw hP hD hS (lv_sub hl [] rfl)

def w_X2_isOuter_b13 (post : Int32 → Prop) (p0 : Int32) : Prop := post (1 : Int32)

def w_X2_isOuter (p0 : Int32) (post : Int32 → Prop) : Prop := (((27 : Int32) ≤ p0 → (w_X2_isOuter_b13 post p0)) ∧ (¬ (27 : Int32) ≤ p0 → (w_X2_isEnd p0 (fun r2 => (((r2 = 0 → (post (0 : Int32))) ∧ (¬ r2 = 0 → (w_X2_isOuter_b13 post p0))))))))

set_option maxHeartbeats 4000000 in
set_option maxRecDepth 100000 in
theorem c_X2_isOuter (l : Launch) (dC : Nat → ClassId) (dI : Nat → Nat → Nat) (cI cZ : ClassId) (sz : Nat) (p0 : Int32) (post : Int32 → Prop) (hw : w_X2_isOuter p0 post) : Met l yX2_isOuter wsX2_isOuter ({ frames := 2, cells := 0, slots := 0, locals := 40 } : Room) (va_Pc [.int p0] (fun U => U.heap.size = sz ∧ va_P (dC, dI) vwCl [] U.heap ∧ va_K (dC, dI) vwCl [(cI, .int), (cZ, .boolean)] U ∧ va_D (fun _ => True) [])) (va_Qi (fun (r9 : Int32) (u9 : Unit) => post r9) (fun (u9 : Unit) (t9 : State) => va_P (dC, dI) vwCl [] t9.heap ∧ va_K (dC, dI) vwCl [(cI, .int), (cZ, .boolean)] t9 ∧ va_D (va_A [] sz) []) (va_A [] sz)) 0 0 (va_A [] sz) := by
  refine Met.ofW (cc := cX2_isOuter) (maxL := 1) (ret := (some .boolean)) (by decide) rfl ?_
  intro p e s m args below meth c s₁ B hml hv
  obtain ⟨rfl, hsz, hP, hK, hD0⟩ := hv
  have hx := B.exec
  have hb := B.bytes
  have hr := B.returns
  have hts := atoms_spec (ws := wsX2_isOuter) B.pre
  have hown : s.vm.findClass RX2 = some m.cls := findClass_of_methodNamed B.named
  have hlocks := B.notSynchronized
  subst hsz
  have hD := hD0.self (sz := s.heap.size)
  generalize hAe : va_A [] s.heap.size = A at hD ⊢
  have hA : ∀ q : Nat, s.heap.size ≤ q → A q := fun q h => by rw [← hAe]; exact Or.inr h
  have hS : va_S A s.heap s.heap [] := va_S.rf
  have hl := lv_entry ([.int p0]) (n := 1) (Nat.le_of_ble_eq_true rfl)
  rw [lg_entry_eq]
  generalize (lg_sl ([.int p0]) ++ List.replicate (1 - (lg_sl ([.int p0])).length) Slot.unset).toArray = ls at hl ⊢
  have hl : lv_has ls 1 [(0, .int p0)] := hl
  refine (?_ : ∀ Q9 : State → Prop, MQ below _ _ s _ _ _ = Q9 → W p l e ({ frames := 2, cells := 0, slots := 0, locals := 40 } : Room) s m _ below meth c s.heap [] 0 0 Q9 (F0 m 0 ls [])) _ rfl
  intro Q9 hQ9
  have hw : (((27 : Int32) ≤ p0 → (w_X2_isOuter_b13 post p0)) ∧ (¬ (27 : Int32) ≤ p0 → (w_X2_isEnd p0 (fun r2 => (((r2 = 0 → (post (0 : Int32))) ∧ (¬ r2 = 0 → (w_X2_isOuter_b13 post p0)))))))) := hw
  have L13 : ∀ (H : Heap) (locs : List Loc) (ls : Array Slot), w_X2_isOuter_b13 post p0 → va_P (dC, dI) vwCl [] H → va_D A [] → va_S A s.heap H locs → lv_has ls 1 [] → W p l e ({ frames := 2, cells := 0, slots := 0, locals := 40 } : Room) s m ([.int p0] : List Value).toArray below meth c H locs 0 0 Q9 (F0 m 13 ls []) := by
    intro H locs ls hw hP hD hS hl
    refine lv_iconst (v := 1) hx hb dX2_isOuter_13 (by decide) ?_
    refine lv_goto (tgt := 18) hx hb dX2_isOuter_14 (by decide) ?_
    rw [← hQ9]
    exact W.zret (v := (1 : Int32)) hx hb hr rfl (fun t ht hW => ⟨⟨(1 : Int32), (), rfl, hw, by rw [ht]; exact hP, va_K.moved hW.alike hK, hD⟩, hS.F ht⟩) hS.2.2 dX2_isOuter_18
  refine lv_iload_n hx hb dX2_isOuter_0 rfl (lv_at hl 0 rfl) ?_
  refine lv_bipush (v := 27) hx hb dX2_isOuter_1 (by decide) ?_
  refine lv_icmp_ge (tgt := 13) hx hb dX2_isOuter_3 (by decide) (fun c1 => ?_) (fun c1 => ?_)
  · have hw := hw.1 c1
    exact L13 _ _ _ hw hP hD hS (lv_sub hl [] rfl)
  · have hw := hw.2 c1
    refine lv_iload_n hx hb dX2_isOuter_6 rfl (lv_at hl 0 rfl) ?_
    have hPc := hP.sub (ws' := []) [] rfl
    have hDc := hD.sub (ws' := []) [] (by decide) rfl
    have hFc := va_free (wc := []) hD hS hA [] rfl
    refine va_calli (va_runS (As := [.int p0]) (rest := []) ⟨hx, hb, hml, hown, hts⟩ (c_X2_isEnd l dC dI cI cZ s.heap.size p0 _ hw) (va_cwS 1 hts gX2_isOuter_X2_isEnd rfl rfl rfl (by decide +kernel) ⟨Nat.le_of_ble_eq_true rfl, Nat.le_of_ble_eq_true rfl⟩) ⟨fun a U g mk q => by obtain ⟨q0, q1, qP, qK, qD⟩ := q; exact ⟨q0, q1, qP, va_K.moved (u := U) (U := U.calling g mk a) (Vm.Alike.refl U.vm) qK, qD⟩, fun U hU hW => ⟨rfl, by rw [hU], by rw [hU]; exact hPc, va_K.moved hW.alike hK, hDc.weaken (fun _ _ _ _ => trivial)⟩⟩ rfl rfl hl.1 rfl (lv_room (Nat.le_of_ble_eq_true rfl)) dX2_isOuter_7 ⟨Nat.le_of_ble_eq_true rfl, Nat.le_of_ble_eq_true rfl⟩) hS (fun q _ h => hFc q h) hFc (fun r2 u t H1 locs ht hvm hw hB hz1 hk1 hS => ?_)
    obtain ⟨hP1, -, hD1⟩ := hB
    have hw := And.intro hw trivial
    try dsimp only at hw
    have hw := hw.1
    rw [ht] at hP1
    obtain ⟨hP, hD⟩ := va_join (wr := []) (w1 := []) hP hD [] [] rfl rfl (by decide) (by decide) hk1 hFc hP1 hD1
    generalize H1 = H at hP hS ⊢
    have hP : va_P (dC, dI) vwCl [] H := hP
    have hD : va_D A [] := hD
    refine lv_if_eq (tgt := 17) hx hb dX2_isOuter_10 (by decide) (fun c3 => ?_) (fun c3 => ?_)
    · have hw := hw.1 c3
      refine lv_iconst (v := 0) hx hb dX2_isOuter_17 (by decide) ?_
      rw [← hQ9]
      exact W.zret (v := (0 : Int32)) hx hb hr rfl (fun t ht hW => ⟨⟨(0 : Int32), (), rfl, hw, by rw [ht]; exact hP, va_K.moved hW.alike hK, hD⟩, hS.F ht⟩) hS.2.2 dX2_isOuter_18
    · have hw := hw.2 c3
      exact L13 _ _ _ hw hP hD hS (lv_sub hl [] rfl)

def w_X2_beginsRow (p0 : Int32) (post : Int32 → Prop) : Prop := (((27 : Int32) ≤ p0 → (post (0 : Int32))) ∧ (¬ (27 : Int32) ≤ p0 → ((((7 : Int32) ≤ (p0 - p0 / (9 : Int32) * (9 : Int32)) → (post (0 : Int32))) ∧ (¬ (7 : Int32) ≤ (p0 - p0 / (9 : Int32) * (9 : Int32)) → (post (1 : Int32)))))))

set_option maxHeartbeats 4000000 in
set_option maxRecDepth 100000 in
theorem c_X2_beginsRow (l : Launch) (dC : Nat → ClassId) (dI : Nat → Nat → Nat) (cI cZ : ClassId) (sz : Nat) (p0 : Int32) (post : Int32 → Prop) (hw : w_X2_beginsRow p0 post) : Met l yX2_beginsRow wsX2_beginsRow ({ frames := 0, cells := 0, slots := 0, locals := 0 } : Room) (va_Pc [.int p0] (fun U => U.heap.size = sz ∧ va_P (dC, dI) vwCl [] U.heap ∧ va_K (dC, dI) vwCl [(cI, .int), (cZ, .boolean)] U ∧ va_D (fun _ => True) [])) (va_Qi (fun (r9 : Int32) (u9 : Unit) => post r9) (fun (u9 : Unit) (t9 : State) => va_P (dC, dI) vwCl [] t9.heap ∧ va_K (dC, dI) vwCl [(cI, .int), (cZ, .boolean)] t9 ∧ va_D (va_A [] sz) []) (va_A [] sz)) 0 0 (va_A [] sz) := by
  refine Met.ofW (cc := cX2_beginsRow) (maxL := 1) (ret := (some .boolean)) (by decide) rfl ?_
  intro p e s m args below meth c s₁ B hml hv
  obtain ⟨rfl, hsz, hP, hK, hD0⟩ := hv
  have hx := B.exec
  have hb := B.bytes
  have hr := B.returns
  have hts := atoms_spec (ws := wsX2_beginsRow) B.pre
  have hown : s.vm.findClass RX2 = some m.cls := findClass_of_methodNamed B.named
  have hlocks := B.notSynchronized
  subst hsz
  have hD := hD0.self (sz := s.heap.size)
  generalize hAe : va_A [] s.heap.size = A at hD ⊢
  have hA : ∀ q : Nat, s.heap.size ≤ q → A q := fun q h => by rw [← hAe]; exact Or.inr h
  have hS : va_S A s.heap s.heap [] := va_S.rf
  have hl := lv_entry ([.int p0]) (n := 1) (Nat.le_of_ble_eq_true rfl)
  rw [lg_entry_eq]
  generalize (lg_sl ([.int p0]) ++ List.replicate (1 - (lg_sl ([.int p0])).length) Slot.unset).toArray = ls at hl ⊢
  have hl : lv_has ls 1 [(0, .int p0)] := hl
  refine (?_ : ∀ Q9 : State → Prop, MQ below _ _ s _ _ _ = Q9 → W p l e ({ frames := 0, cells := 0, slots := 0, locals := 0 } : Room) s m _ below meth c s.heap [] 0 0 Q9 (F0 m 0 ls [])) _ rfl
  intro Q9 hQ9
  have hw : (((27 : Int32) ≤ p0 → (post (0 : Int32))) ∧ (¬ (27 : Int32) ≤ p0 → ((((7 : Int32) ≤ (p0 - p0 / (9 : Int32) * (9 : Int32)) → (post (0 : Int32))) ∧ (¬ (7 : Int32) ≤ (p0 - p0 / (9 : Int32) * (9 : Int32)) → (post (1 : Int32))))))) := hw
  refine lv_iload_n hx hb dX2_beginsRow_0 rfl (lv_at hl 0 rfl) ?_
  refine lv_bipush (v := 27) hx hb dX2_beginsRow_1 (by decide) ?_
  refine lv_icmp_ge (tgt := 19) hx hb dX2_beginsRow_3 (by decide) (fun c1 => ?_) (fun c1 => ?_)
  · have hw := hw.1 c1
    refine lv_iconst (v := 0) hx hb dX2_beginsRow_19 (by decide) ?_
    rw [← hQ9]
    exact W.zret (v := (0 : Int32)) hx hb hr rfl (fun t ht hW => ⟨⟨(0 : Int32), (), rfl, hw, by rw [ht]; exact hP, va_K.moved hW.alike hK, hD⟩, hS.F ht⟩) hS.2.2 dX2_beginsRow_20
  · have hw := hw.2 c1
    refine lv_iload_n hx hb dX2_beginsRow_6 rfl (lv_at hl 0 rfl) ?_
    refine lv_bipush (v := 9) hx hb dX2_beginsRow_7 (by decide) ?_
    refine lv_irem hx hb dX2_beginsRow_9 (by decide) ?_
    refine lv_bipush (v := 7) hx hb dX2_beginsRow_10 (by decide) ?_
    refine lv_icmp_ge (tgt := 19) hx hb dX2_beginsRow_12 (by decide) (fun c2 => ?_) (fun c2 => ?_)
    · have hw := hw.1 c2
      refine lv_iconst (v := 0) hx hb dX2_beginsRow_19 (by decide) ?_
      rw [← hQ9]
      exact W.zret (v := (0 : Int32)) hx hb hr rfl (fun t ht hW => ⟨⟨(0 : Int32), (), rfl, hw, by rw [ht]; exact hP, va_K.moved hW.alike hK, hD⟩, hS.F ht⟩) hS.2.2 dX2_beginsRow_20
    · have hw := hw.2 c2
      refine lv_iconst (v := 1) hx hb dX2_beginsRow_15 (by decide) ?_
      refine lv_goto (tgt := 20) hx hb dX2_beginsRow_16 (by decide) ?_
      rw [← hQ9]
      exact W.zret (v := (1 : Int32)) hx hb hr rfl (fun t ht hW => ⟨⟨(1 : Int32), (), rfl, hw, by rw [ht]; exact hP, va_K.moved hW.alike hK, hD⟩, hS.F ht⟩) hS.2.2 dX2_beginsRow_20

def w_X2_tiles_b13 (post : Int32 → Prop) (hM : (Nat → Int32)) : Nat → Int32 → Int32 → Int32 → Prop
  | 0, _, _, _ => False
  | n + 1, v1, v3, v4 => ((v3 ≤ v4 → (post v1)) ∧ (¬ v3 ≤ v4 → (vp_in v4 34 ∧ (∀ t3 : Int32, t3 = v1 + (hM v4.toNatClampNeg) → (w_X2_tiles_b13 post hM n t3 v3 (v4 + 1))))))

def w_X2_tiles (hM : (Nat → Int32)) (post : Int32 → Prop) : Prop := ∃ n9, w_X2_tiles_b13 post hM n9 (0 : Int32) (34 : Int32) (0 : Int32)

set_option maxHeartbeats 4000000 in
set_option maxRecDepth 100000 in
theorem c_X2_tiles (l : Launch) (dC : Nat → ClassId) (dI : Nat → Nat → Nat) (cI cZ : ClassId) (y : Nat) (bH : Nat) (bS : Nat) (bL : Nat) (bO : Nat) (bK : Nat) (bZ : Nat) (bR : Nat) (bG : Nat) (bB : Nat) (bX : Nat) (sz : Nat) (thr : Int32) (mel : Int32) (sea : Int32) (rnd : Int32) (bas : Int32) (lim : Int32) (hM : (Nat → Int32)) (post : Int32 → Prop) (hw : w_X2_tiles hM post) : Met l yX2_tiles wsX2_tiles ({ frames := 0, cells := 0, slots := 0, locals := 0 } : Room) (va_Pc [.ref y] (fun U => U.heap.size = sz ∧ va_P (dC, dI) vwCl [(y, .inr (2, [.int thr, .ref bH, .ref bS, .ref bL, .int mel, .ref bO, .ref bK, .ref bZ, .int sea, .int rnd, .int bas, .int lim, .ref bR, .ref bG, .ref bB, .ref bX])), (bH, .inl (cI, 34, .inl hM))] U.heap ∧ va_K (dC, dI) vwCl [(cI, .int), (cZ, .boolean)] U ∧ va_D (fun _ => True) [(y, .inr (2, [.int thr, .ref bH, .ref bS, .ref bL, .int mel, .ref bO, .ref bK, .ref bZ, .int sea, .int rnd, .int bas, .int lim, .ref bR, .ref bG, .ref bB, .ref bX])), (bH, .inl (cI, 34, .inl hM))])) (va_Qi (fun (r9 : Int32) (u9 : Unit) => post r9) (fun (u9 : Unit) (t9 : State) => va_P (dC, dI) vwCl [(y, .inr (2, [.int thr, .ref bH, .ref bS, .ref bL, .int mel, .ref bO, .ref bK, .ref bZ, .int sea, .int rnd, .int bas, .int lim, .ref bR, .ref bG, .ref bB, .ref bX])), (bH, .inl (cI, 34, .inl hM))] t9.heap ∧ va_K (dC, dI) vwCl [(cI, .int), (cZ, .boolean)] t9 ∧ va_D (va_A [(y, .inr (2, [.int thr, .ref bH, .ref bS, .ref bL, .int mel, .ref bO, .ref bK, .ref bZ, .int sea, .int rnd, .int bas, .int lim, .ref bR, .ref bG, .ref bB, .ref bX])), (bH, .inl (cI, 34, .inl hM))] sz) [(y, .inr (2, [.int thr, .ref bH, .ref bS, .ref bL, .int mel, .ref bO, .ref bK, .ref bZ, .int sea, .int rnd, .int bas, .int lim, .ref bR, .ref bG, .ref bB, .ref bX])), (bH, .inl (cI, 34, .inl hM))]) (va_A [(y, .inr (2, [.int thr, .ref bH, .ref bS, .ref bL, .int mel, .ref bO, .ref bK, .ref bZ, .int sea, .int rnd, .int bas, .int lim, .ref bR, .ref bG, .ref bB, .ref bX])), (bH, .inl (cI, 34, .inl hM))] sz)) 0 0 (va_A [(y, .inr (2, [.int thr, .ref bH, .ref bS, .ref bL, .int mel, .ref bO, .ref bK, .ref bZ, .int sea, .int rnd, .int bas, .int lim, .ref bR, .ref bG, .ref bB, .ref bX])), (bH, .inl (cI, 34, .inl hM))] sz) := by
  refine Met.ofW (cc := cX2_tiles) (maxL := 6) (ret := (some .int)) (by decide) rfl ?_
  intro p e s m args below meth c s₁ B hml hv
  obtain ⟨rfl, hsz, hP, hK, hD0⟩ := hv
  have hx := B.exec
  have hb := B.bytes
  have hr := B.returns
  have hts := atoms_spec (ws := wsX2_tiles) B.pre
  have hown : s.vm.findClass RX2 = some m.cls := findClass_of_methodNamed B.named
  have hlocks := B.notSynchronized
  have hinX2 : ∀ w ∈ u_ws RX2 TX2 16, w ∈ wsX2_tiles := by decide +kernel
  subst hsz
  have hD := hD0.self (sz := s.heap.size)
  generalize hAe : va_A [(y, .inr (2, [.int thr, .ref bH, .ref bS, .ref bL, .int mel, .ref bO, .ref bK, .ref bZ, .int sea, .int rnd, .int bas, .int lim, .ref bR, .ref bG, .ref bB, .ref bX])), (bH, .inl (cI, 34, .inl hM))] s.heap.size = A at hD ⊢
  have hA : ∀ q : Nat, s.heap.size ≤ q → A q := fun q h => by rw [← hAe]; exact Or.inr h
  have hS : va_S A s.heap s.heap [] := va_S.rf
  have hl := lv_entry ([.ref y]) (n := 6) (Nat.le_of_ble_eq_true rfl)
  rw [lg_entry_eq]
  generalize (lg_sl ([.ref y]) ++ List.replicate (6 - (lg_sl ([.ref y])).length) Slot.unset).toArray = ls at hl ⊢
  have hl : lv_has ls 6 [(0, .ref y)] := hl
  refine (?_ : ∀ Q9 : State → Prop, MQ below _ _ s _ _ _ = Q9 → W p l e ({ frames := 0, cells := 0, slots := 0, locals := 0 } : Room) s m _ below meth c s.heap [] 0 0 Q9 (F0 m 0 ls [])) _ rfl
  intro Q9 hQ9
  have hw : ∃ n9, w_X2_tiles_b13 post hM n9 (0 : Int32) (34 : Int32) (0 : Int32) := hw
  have L13 : ∀ (n : Nat), ∀ (v1 : Int32) (v3 : Int32) (v4 : Int32) (H : Heap) (locs : List Loc) (ls : Array Slot), w_X2_tiles_b13 post hM n v1 v3 v4 → va_P (dC, dI) vwCl [(y, .inr (2, [.int thr, .ref bH, .ref bS, .ref bL, .int mel, .ref bO, .ref bK, .ref bZ, .int sea, .int rnd, .int bas, .int lim, .ref bR, .ref bG, .ref bB, .ref bX])), (bH, .inl (cI, 34, .inl hM))] H → va_D A [(y, .inr (2, [.int thr, .ref bH, .ref bS, .ref bL, .int mel, .ref bO, .ref bK, .ref bZ, .int sea, .int rnd, .int bas, .int lim, .ref bR, .ref bG, .ref bB, .ref bX])), (bH, .inl (cI, 34, .inl hM))] → va_S A s.heap H locs → lv_has ls 6 [(0, .ref y), (1, .int v1), (2, .ref bH), (3, .int v3), (4, .int v4)] → W p l e ({ frames := 0, cells := 0, slots := 0, locals := 0 } : Room) s m ([.ref y] : List Value).toArray below meth c H locs 0 0 Q9 (F0 m 13 ls []) := by
    intro n
    induction n with
    | zero => intro v1 v3 v4 H locs ls hw _ _ _ _; exact False.elim hw
    | succ n ih =>
      intro v1 v3 v4 H locs ls hw hP hD hS hl
      refine lv_iload hx hb dX2_tiles_13 (lv_at hl 4 rfl) ?_
      refine lv_iload_n hx hb dX2_tiles_15 rfl (lv_at hl 3 rfl) ?_
      refine lv_icmp_ge (tgt := 36) hx hb dX2_tiles_16 (by decide) (fun c1 => ?_) (fun c1 => ?_)
      · have hw := hw.1 c1
        refine lv_iload_n hx hb dX2_tiles_36 rfl (lv_at hl 1 rfl) ?_
        rw [← hQ9]
        exact W.iret (v := v1) hx hb hr (fun t ht hW => ⟨⟨v1, (), rfl, hw, by rw [ht]; exact hP, va_K.moved hW.alike hK, hD⟩, hS.F ht⟩) hS.2.2 dX2_tiles_37
      · have hw := hw.2 c1
        refine lv_aload_n hx hb dX2_tiles_19 rfl (lv_at hl 2 rfl) ?_
        refine lv_iload hx hb dX2_tiles_20 (lv_at hl 4 rfl) ?_
        obtain ⟨h2, hw⟩ := hw
        refine va_iald hx hb hK hP 1 0 rfl rfl h2 dX2_tiles_22 ?_
        refine lv_istore (lv' := [(5, .int (hM v4.toNatClampNeg)), (0, .ref y), (1, .int v1), (2, .ref bH), (3, .int v3), (4, .int v4)]) hx hb dX2_tiles_23 hl (by decide) rfl (fun ls hl => ?_)
        refine lv_iload_n hx hb dX2_tiles_25 rfl (lv_at hl 2 rfl) ?_
        refine lv_iload hx hb dX2_tiles_26 (lv_at hl 0 rfl) ?_
        refine lv_iadd hx hb dX2_tiles_28 ?_
        refine lv_topi (fun t3 et3 => ?_)
        have hw := hw t3 et3
        refine lv_istore_n (lv' := [(1, .int t3), (5, .int (hM v4.toNatClampNeg)), (0, .ref y), (2, .ref bH), (3, .int v3), (4, .int v4)]) hx hb dX2_tiles_29 rfl hl (by decide) rfl (fun ls hl => ?_)
        refine lv_iinc (v := v4 + 1) (lv' := [(4, .int (v4 + 1)), (1, .int t3), (5, .int (hM v4.toNatClampNeg)), (0, .ref y), (2, .ref bH), (3, .int v3)]) hx hb dX2_tiles_30 hl (k := 5) rfl rfl (by decide) rfl (fun ls hl => ?_)
        refine lv_goto (tgt := 13) hx hb dX2_tiles_33 (by decide) ?_
        exact ih t3 v3 (v4 + 1) _ _ _ hw hP hD hS (lv_sub hl [3, 1, 4, 5, 0] rfl)
  refine lv_iconst (v := 0) hx hb dX2_tiles_0 (by decide) ?_
  refine lv_istore_n (lv' := [(1, .int (0 : Int32)), (0, .ref y)]) hx hb dX2_tiles_1 rfl hl (by decide) rfl (fun ls hl => ?_)
  refine lv_aload_n hx hb dX2_tiles_2 rfl (lv_at hl 1 rfl) ?_
  refine va_get (D := (dC, dI)) (ci := 2) (v := .ref bH) (C := RX2) (T := TX2) (N := 16) hx hb hts hinX2 hown hK hP 0 rfl rfl 1 (by decide) (hts (.fieldLink RX2 9 "TileHandModel" "hand" "[I") (by decide +kernel)) (fun _ h9 => h9) rfl dX2_tiles_3 ?_
  refine lv_astore_n (lv' := [(2, .ref bH), (1, .int (0 : Int32)), (0, .ref y)]) hx hb dX2_tiles_6 rfl hl (by decide) rfl (fun ls hl => ?_)
  refine lv_aload_n hx hb dX2_tiles_7 rfl (lv_at hl 0 rfl) ?_
  refine va_alen (v := (34 : Int32)) hx hb hK hP 1 0 rfl rfl rfl dX2_tiles_8 ?_
  refine lv_istore_n (lv' := [(3, .int (34 : Int32)), (2, .ref bH), (1, .int (0 : Int32)), (0, .ref y)]) hx hb dX2_tiles_9 rfl hl (by decide) rfl (fun ls hl => ?_)
  refine lv_iconst (v := 0) hx hb dX2_tiles_10 (by decide) ?_
  refine lv_istore (lv' := [(4, .int (0 : Int32)), (3, .int (34 : Int32)), (2, .ref bH), (1, .int (0 : Int32)), (0, .ref y)]) hx hb dX2_tiles_11 hl (by decide) rfl (fun ls hl => ?_)
  obtain ⟨n9, hw⟩ := hw
  exact L13 n9 (0 : Int32) (34 : Int32) (0 : Int32) _ _ _ hw hP hD hS (lv_sub hl [4, 3, 2, 1, 0] rfl)

def w_X2_sizeOf (mel : Int32) (hM : (Nat → Int32)) (post : Int32 → Prop) : Prop := w_X2_tiles hM (fun r1 => (post (r1 + ((3 : Int32) * mel))))

set_option maxHeartbeats 4000000 in
set_option maxRecDepth 100000 in
theorem c_X2_sizeOf (l : Launch) (dC : Nat → ClassId) (dI : Nat → Nat → Nat) (cI cZ : ClassId) (y : Nat) (bH : Nat) (bS : Nat) (bL : Nat) (bO : Nat) (bK : Nat) (bZ : Nat) (bR : Nat) (bG : Nat) (bB : Nat) (bX : Nat) (sz : Nat) (thr : Int32) (mel : Int32) (sea : Int32) (rnd : Int32) (bas : Int32) (lim : Int32) (hM : (Nat → Int32)) (post : Int32 → Prop) (hw : w_X2_sizeOf mel hM post) : Met l yX2_sizeOf wsX2_sizeOf ({ frames := 2, cells := 0, slots := 0, locals := 40 } : Room) (va_Pc [.ref y] (fun U => U.heap.size = sz ∧ va_P (dC, dI) vwCl [(y, .inr (2, [.int thr, .ref bH, .ref bS, .ref bL, .int mel, .ref bO, .ref bK, .ref bZ, .int sea, .int rnd, .int bas, .int lim, .ref bR, .ref bG, .ref bB, .ref bX])), (bH, .inl (cI, 34, .inl hM))] U.heap ∧ va_K (dC, dI) vwCl [(cI, .int), (cZ, .boolean)] U ∧ va_D (fun _ => True) [(y, .inr (2, [.int thr, .ref bH, .ref bS, .ref bL, .int mel, .ref bO, .ref bK, .ref bZ, .int sea, .int rnd, .int bas, .int lim, .ref bR, .ref bG, .ref bB, .ref bX])), (bH, .inl (cI, 34, .inl hM))])) (va_Qi (fun (r9 : Int32) (u9 : Unit) => post r9) (fun (u9 : Unit) (t9 : State) => va_P (dC, dI) vwCl [(y, .inr (2, [.int thr, .ref bH, .ref bS, .ref bL, .int mel, .ref bO, .ref bK, .ref bZ, .int sea, .int rnd, .int bas, .int lim, .ref bR, .ref bG, .ref bB, .ref bX])), (bH, .inl (cI, 34, .inl hM))] t9.heap ∧ va_K (dC, dI) vwCl [(cI, .int), (cZ, .boolean)] t9 ∧ va_D (va_A [(y, .inr (2, [.int thr, .ref bH, .ref bS, .ref bL, .int mel, .ref bO, .ref bK, .ref bZ, .int sea, .int rnd, .int bas, .int lim, .ref bR, .ref bG, .ref bB, .ref bX])), (bH, .inl (cI, 34, .inl hM))] sz) [(y, .inr (2, [.int thr, .ref bH, .ref bS, .ref bL, .int mel, .ref bO, .ref bK, .ref bZ, .int sea, .int rnd, .int bas, .int lim, .ref bR, .ref bG, .ref bB, .ref bX])), (bH, .inl (cI, 34, .inl hM))]) (va_A [(y, .inr (2, [.int thr, .ref bH, .ref bS, .ref bL, .int mel, .ref bO, .ref bK, .ref bZ, .int sea, .int rnd, .int bas, .int lim, .ref bR, .ref bG, .ref bB, .ref bX])), (bH, .inl (cI, 34, .inl hM))] sz)) 0 0 (va_A [(y, .inr (2, [.int thr, .ref bH, .ref bS, .ref bL, .int mel, .ref bO, .ref bK, .ref bZ, .int sea, .int rnd, .int bas, .int lim, .ref bR, .ref bG, .ref bB, .ref bX])), (bH, .inl (cI, 34, .inl hM))] sz) := by
  refine Met.ofW (cc := cX2_sizeOf) (maxL := 1) (ret := (some .int)) (by decide) rfl ?_
  intro p e s m args below meth c s₁ B hml hv
  obtain ⟨rfl, hsz, hP, hK, hD0⟩ := hv
  have hx := B.exec
  have hb := B.bytes
  have hr := B.returns
  have hts := atoms_spec (ws := wsX2_sizeOf) B.pre
  have hown : s.vm.findClass RX2 = some m.cls := findClass_of_methodNamed B.named
  have hlocks := B.notSynchronized
  have hinX2 : ∀ w ∈ u_ws RX2 TX2 16, w ∈ wsX2_sizeOf := by decide +kernel
  subst hsz
  have hD := hD0.self (sz := s.heap.size)
  generalize hAe : va_A [(y, .inr (2, [.int thr, .ref bH, .ref bS, .ref bL, .int mel, .ref bO, .ref bK, .ref bZ, .int sea, .int rnd, .int bas, .int lim, .ref bR, .ref bG, .ref bB, .ref bX])), (bH, .inl (cI, 34, .inl hM))] s.heap.size = A at hD ⊢
  have hA : ∀ q : Nat, s.heap.size ≤ q → A q := fun q h => by rw [← hAe]; exact Or.inr h
  have hS : va_S A s.heap s.heap [] := va_S.rf
  have hl := lv_entry ([.ref y]) (n := 1) (Nat.le_of_ble_eq_true rfl)
  rw [lg_entry_eq]
  generalize (lg_sl ([.ref y]) ++ List.replicate (1 - (lg_sl ([.ref y])).length) Slot.unset).toArray = ls at hl ⊢
  have hl : lv_has ls 1 [(0, .ref y)] := hl
  refine (?_ : ∀ Q9 : State → Prop, MQ below _ _ s _ _ _ = Q9 → W p l e ({ frames := 2, cells := 0, slots := 0, locals := 40 } : Room) s m _ below meth c s.heap [] 0 0 Q9 (F0 m 0 ls [])) _ rfl
  intro Q9 hQ9
  have hw : w_X2_tiles hM (fun r1 => (post (r1 + ((3 : Int32) * mel)))) := hw
  refine lv_aload_n hx hb dX2_sizeOf_0 rfl (lv_at hl 0 rfl) ?_
  have hPc := hP.sub (ws' := [(y, .inr (2, [.int thr, .ref bH, .ref bS, .ref bL, .int mel, .ref bO, .ref bK, .ref bZ, .int sea, .int rnd, .int bas, .int lim, .ref bR, .ref bG, .ref bB, .ref bX])), (bH, .inl (cI, 34, .inl hM))]) [0, 1] rfl
  have hDc := hD.sub (ws' := [(y, .inr (2, [.int thr, .ref bH, .ref bS, .ref bL, .int mel, .ref bO, .ref bK, .ref bZ, .int sea, .int rnd, .int bas, .int lim, .ref bR, .ref bG, .ref bB, .ref bX])), (bH, .inl (cI, 34, .inl hM))]) [0, 1] (by decide) rfl
  have hFc := va_free (wc := [(y, .inr (2, [.int thr, .ref bH, .ref bS, .ref bL, .int mel, .ref bO, .ref bK, .ref bZ, .int sea, .int rnd, .int bas, .int lim, .ref bR, .ref bG, .ref bB, .ref bX])), (bH, .inl (cI, 34, .inl hM))]) hD hS hA [0, 1] rfl
  refine va_calli (va_runV (As := []) (rest := []) ⟨hx, hb, hml, hown, hts⟩ (c_X2_tiles l dC dI cI cZ y bH bS bL bO bK bZ bR bG bB bX s.heap.size thr mel sea rnd bas lim hM _ hw) (cwV 0 hts gX2_sizeOf_X2_tiles rfl rfl rfl (by decide +kernel) ⟨Nat.le_of_ble_eq_true rfl, Nat.le_of_ble_eq_true rfl⟩) ⟨fun a U g mk q => by obtain ⟨q0, q1, qP, qK, qD⟩ := q; exact ⟨q0, q1, qP, va_K.moved (u := U) (U := U.calling g mk a) (Vm.Alike.refl U.vm) qK, qD⟩, va_recv hK hPc (ci := 2) (q0 := 0) rfl rfl, fun U hU hW => ⟨rfl, by rw [hU], by rw [hU]; exact hPc, va_K.moved hW.alike hK, hDc.weaken (fun _ _ _ _ => trivial)⟩⟩ rfl rfl hl.1 rfl (lv_room (Nat.le_of_ble_eq_true rfl)) dX2_sizeOf_1 ⟨Nat.le_of_ble_eq_true rfl, Nat.le_of_ble_eq_true rfl⟩) hS (fun q _ h => hFc q h) hFc (fun r1 u t H1 locs ht hvm hw hB hz1 hk1 hS => ?_)
  obtain ⟨hP1, -, hD1⟩ := hB
  have hw := And.intro hw trivial
  try dsimp only at hw
  have hw := hw.1
  rw [ht] at hP1
  obtain ⟨hP, hD⟩ := va_join (wr := []) (w1 := [(y, .inr (2, [.int thr, .ref bH, .ref bS, .ref bL, .int mel, .ref bO, .ref bK, .ref bZ, .int sea, .int rnd, .int bas, .int lim, .ref bR, .ref bG, .ref bB, .ref bX])), (bH, .inl (cI, 34, .inl hM))]) hP hD [0, 1] [] rfl rfl (by decide) (by decide) hk1 hFc hP1 hD1
  generalize H1 = H at hP hS ⊢
  have hP : va_P (dC, dI) vwCl [(y, .inr (2, [.int thr, .ref bH, .ref bS, .ref bL, .int mel, .ref bO, .ref bK, .ref bZ, .int sea, .int rnd, .int bas, .int lim, .ref bR, .ref bG, .ref bB, .ref bX])), (bH, .inl (cI, 34, .inl hM))] H := hP
  have hD : va_D A [(y, .inr (2, [.int thr, .ref bH, .ref bS, .ref bL, .int mel, .ref bO, .ref bK, .ref bZ, .int sea, .int rnd, .int bas, .int lim, .ref bR, .ref bG, .ref bB, .ref bX])), (bH, .inl (cI, 34, .inl hM))] := hD
  refine lv_iconst (v := 3) hx hb dX2_sizeOf_4 (by decide) ?_
  refine lv_aload_n hx hb dX2_sizeOf_5 rfl (lv_at hl 0 rfl) ?_
  refine va_get (D := (dC, dI)) (ci := 2) (v := .int mel) (C := RX2) (T := TX2) (N := 16) hx hb hts hinX2 hown hK hP 0 rfl rfl 4 (by decide) (hts (.fieldLink RX2 69 "TileHandModel" "melds" "I") (by decide +kernel)) (fun _ h9 => h9) rfl dX2_sizeOf_6 ?_
  refine lv_imul hx hb dX2_sizeOf_9 ?_
  refine lv_iadd hx hb dX2_sizeOf_10 ?_
  rw [← hQ9]
  exact W.iret (v := r1 + ((3 : Int32) * mel)) hx hb hr (fun t ht hW => ⟨⟨r1 + ((3 : Int32) * mel), (), rfl, hw, by rw [ht]; exact hP, va_K.moved hW.alike hK, hD⟩, hS.F ht⟩) hS.2.2 dX2_sizeOf_11

def w_X2_left (hM : (Nat → Int32)) (sM : (Nat → Int32)) (lM : (Nat → Int32)) (p0 : Int32) (post : Int32 → Prop) : Prop := vp_in p0 34 ∧ (vp_in p0 34 ∧ (vp_in p0 34 ∧ (post ((((4 : Int32) - (hM p0.toNatClampNeg)) - (lM p0.toNatClampNeg)) - (sM p0.toNatClampNeg)))))

set_option maxHeartbeats 4000000 in
set_option maxRecDepth 100000 in
theorem c_X2_left (l : Launch) (dC : Nat → ClassId) (dI : Nat → Nat → Nat) (cI cZ : ClassId) (y : Nat) (bH : Nat) (bS : Nat) (bL : Nat) (bO : Nat) (bK : Nat) (bZ : Nat) (bR : Nat) (bG : Nat) (bB : Nat) (bX : Nat) (sz : Nat) (thr : Int32) (mel : Int32) (sea : Int32) (rnd : Int32) (bas : Int32) (lim : Int32) (hM : (Nat → Int32)) (sM : (Nat → Int32)) (lM : (Nat → Int32)) (p0 : Int32) (post : Int32 → Prop) (hw : w_X2_left hM sM lM p0 post) : Met l yX2_left wsX2_left ({ frames := 0, cells := 0, slots := 0, locals := 0 } : Room) (va_Pc [.ref y, .int p0] (fun U => U.heap.size = sz ∧ va_P (dC, dI) vwCl [(y, .inr (2, [.int thr, .ref bH, .ref bS, .ref bL, .int mel, .ref bO, .ref bK, .ref bZ, .int sea, .int rnd, .int bas, .int lim, .ref bR, .ref bG, .ref bB, .ref bX])), (bH, .inl (cI, 34, .inl hM)), (bS, .inl (cI, 34, .inl sM)), (bL, .inl (cI, 34, .inl lM))] U.heap ∧ va_K (dC, dI) vwCl [(cI, .int), (cZ, .boolean)] U ∧ va_D (fun _ => True) [(y, .inr (2, [.int thr, .ref bH, .ref bS, .ref bL, .int mel, .ref bO, .ref bK, .ref bZ, .int sea, .int rnd, .int bas, .int lim, .ref bR, .ref bG, .ref bB, .ref bX])), (bH, .inl (cI, 34, .inl hM)), (bS, .inl (cI, 34, .inl sM)), (bL, .inl (cI, 34, .inl lM))])) (va_Qi (fun (r9 : Int32) (u9 : Unit) => post r9) (fun (u9 : Unit) (t9 : State) => va_P (dC, dI) vwCl [(y, .inr (2, [.int thr, .ref bH, .ref bS, .ref bL, .int mel, .ref bO, .ref bK, .ref bZ, .int sea, .int rnd, .int bas, .int lim, .ref bR, .ref bG, .ref bB, .ref bX])), (bH, .inl (cI, 34, .inl hM)), (bS, .inl (cI, 34, .inl sM)), (bL, .inl (cI, 34, .inl lM))] t9.heap ∧ va_K (dC, dI) vwCl [(cI, .int), (cZ, .boolean)] t9 ∧ va_D (va_A [(y, .inr (2, [.int thr, .ref bH, .ref bS, .ref bL, .int mel, .ref bO, .ref bK, .ref bZ, .int sea, .int rnd, .int bas, .int lim, .ref bR, .ref bG, .ref bB, .ref bX])), (bH, .inl (cI, 34, .inl hM)), (bS, .inl (cI, 34, .inl sM)), (bL, .inl (cI, 34, .inl lM))] sz) [(y, .inr (2, [.int thr, .ref bH, .ref bS, .ref bL, .int mel, .ref bO, .ref bK, .ref bZ, .int sea, .int rnd, .int bas, .int lim, .ref bR, .ref bG, .ref bB, .ref bX])), (bH, .inl (cI, 34, .inl hM)), (bS, .inl (cI, 34, .inl sM)), (bL, .inl (cI, 34, .inl lM))]) (va_A [(y, .inr (2, [.int thr, .ref bH, .ref bS, .ref bL, .int mel, .ref bO, .ref bK, .ref bZ, .int sea, .int rnd, .int bas, .int lim, .ref bR, .ref bG, .ref bB, .ref bX])), (bH, .inl (cI, 34, .inl hM)), (bS, .inl (cI, 34, .inl sM)), (bL, .inl (cI, 34, .inl lM))] sz)) 0 0 (va_A [(y, .inr (2, [.int thr, .ref bH, .ref bS, .ref bL, .int mel, .ref bO, .ref bK, .ref bZ, .int sea, .int rnd, .int bas, .int lim, .ref bR, .ref bG, .ref bB, .ref bX])), (bH, .inl (cI, 34, .inl hM)), (bS, .inl (cI, 34, .inl sM)), (bL, .inl (cI, 34, .inl lM))] sz) := by
  refine Met.ofW (cc := cX2_left) (maxL := 2) (ret := (some .int)) (by decide) rfl ?_
  intro p e s m args below meth c s₁ B hml hv
  obtain ⟨rfl, hsz, hP, hK, hD0⟩ := hv
  have hx := B.exec
  have hb := B.bytes
  have hr := B.returns
  have hts := atoms_spec (ws := wsX2_left) B.pre
  have hown : s.vm.findClass RX2 = some m.cls := findClass_of_methodNamed B.named
  have hlocks := B.notSynchronized
  have hinX2 : ∀ w ∈ u_ws RX2 TX2 16, w ∈ wsX2_left := by decide +kernel
  subst hsz
  have hD := hD0.self (sz := s.heap.size)
  generalize hAe : va_A [(y, .inr (2, [.int thr, .ref bH, .ref bS, .ref bL, .int mel, .ref bO, .ref bK, .ref bZ, .int sea, .int rnd, .int bas, .int lim, .ref bR, .ref bG, .ref bB, .ref bX])), (bH, .inl (cI, 34, .inl hM)), (bS, .inl (cI, 34, .inl sM)), (bL, .inl (cI, 34, .inl lM))] s.heap.size = A at hD ⊢
  have hA : ∀ q : Nat, s.heap.size ≤ q → A q := fun q h => by rw [← hAe]; exact Or.inr h
  have hS : va_S A s.heap s.heap [] := va_S.rf
  have hl := lv_entry ([.ref y, .int p0]) (n := 2) (Nat.le_of_ble_eq_true rfl)
  rw [lg_entry_eq]
  generalize (lg_sl ([.ref y, .int p0]) ++ List.replicate (2 - (lg_sl ([.ref y, .int p0])).length) Slot.unset).toArray = ls at hl ⊢
  have hl : lv_has ls 2 [(0, .ref y), (1, .int p0)] := hl
  refine (?_ : ∀ Q9 : State → Prop, MQ below _ _ s _ _ _ = Q9 → W p l e ({ frames := 0, cells := 0, slots := 0, locals := 0 } : Room) s m _ below meth c s.heap [] 0 0 Q9 (F0 m 0 ls [])) _ rfl
  intro Q9 hQ9
  have hw : vp_in p0 34 ∧ (vp_in p0 34 ∧ (vp_in p0 34 ∧ (post ((((4 : Int32) - (hM p0.toNatClampNeg)) - (lM p0.toNatClampNeg)) - (sM p0.toNatClampNeg))))) := hw
  refine lv_iconst (v := 4) hx hb dX2_left_0 (by decide) ?_
  refine lv_aload_n hx hb dX2_left_1 rfl (lv_at hl 0 rfl) ?_
  refine va_get (D := (dC, dI)) (ci := 2) (v := .ref bH) (C := RX2) (T := TX2) (N := 16) hx hb hts hinX2 hown hK hP 0 rfl rfl 1 (by decide) (hts (.fieldLink RX2 9 "TileHandModel" "hand" "[I") (by decide +kernel)) (fun _ h9 => h9) rfl dX2_left_2 ?_
  refine lv_iload_n hx hb dX2_left_5 rfl (lv_at hl 1 rfl) ?_
  obtain ⟨h1, hw⟩ := hw
  refine va_iald hx hb hK hP 1 0 rfl rfl h1 dX2_left_6 ?_
  refine lv_isub hx hb dX2_left_7 ?_
  refine lv_aload_n hx hb dX2_left_8 rfl (lv_at hl 0 rfl) ?_
  refine va_get (D := (dC, dI)) (ci := 2) (v := .ref bL) (C := RX2) (T := TX2) (N := 16) hx hb hts hinX2 hown hK hP 0 rfl rfl 3 (by decide) (hts (.fieldLink RX2 16 "TileHandModel" "laid" "[I") (by decide +kernel)) (fun _ h9 => h9) rfl dX2_left_9 ?_
  refine lv_iload_n hx hb dX2_left_12 rfl (lv_at hl 1 rfl) ?_
  obtain ⟨h2, hw⟩ := hw
  refine va_iald hx hb hK hP 3 0 rfl rfl h2 dX2_left_13 ?_
  refine lv_isub hx hb dX2_left_14 ?_
  refine lv_aload_n hx hb dX2_left_15 rfl (lv_at hl 0 rfl) ?_
  refine va_get (D := (dC, dI)) (ci := 2) (v := .ref bS) (C := RX2) (T := TX2) (N := 16) hx hb hts hinX2 hown hK hP 0 rfl rfl 2 (by decide) (hts (.fieldLink RX2 13 "TileHandModel" "seen" "[I") (by decide +kernel)) (fun _ h9 => h9) rfl dX2_left_16 ?_
  refine lv_iload_n hx hb dX2_left_19 rfl (lv_at hl 1 rfl) ?_
  obtain ⟨h3, hw⟩ := hw
  refine va_iald hx hb hK hP 2 0 rfl rfl h3 dX2_left_20 ?_
  refine lv_isub hx hb dX2_left_21 ?_
  rw [← hQ9]
  exact W.iret (v := (((4 : Int32) - (hM p0.toNatClampNeg)) - (lM p0.toNatClampNeg)) - (sM p0.toNatClampNeg)) hx hb hr (fun t ht hW => ⟨⟨(((4 : Int32) - (hM p0.toNatClampNeg)) - (lM p0.toNatClampNeg)) - (sM p0.toNatClampNeg), (), rfl, hw, by rw [ht]; exact hP, va_K.moved hW.alike hK, hD⟩, hS.F ht⟩) hS.2.2 dX2_left_22

def w_X2_draw_b35 (post : Int32 → Int32 → (Nat → Int32) → Prop) (mel : Int32) (sM : (Nat → Int32)) (lM : (Nat → Int32)) (p0 : Int32) (thr : Int32) (hM : (Nat → Int32)) : Prop := w_X2_fail thr (2 : Int32) (fun r5 thr_6 => (post r5 thr_6 hM))

def w_X2_draw (thr : Int32) (mel : Int32) (hM : (Nat → Int32)) (sM : (Nat → Int32)) (lM : (Nat → Int32)) (p0 : Int32) (post : Int32 → Int32 → (Nat → Int32) → Prop) : Prop := w_X2_isKind p0 (fun r1 => (((r1 = 0 → (w_X2_fail (0 : Int32) (1 : Int32) (fun r12 thr_13 => (post r12 thr_13 hM)))) ∧ (¬ r1 = 0 → (w_X2_sizeOf mel hM (fun r3 => (((r3 = (14 : Int32) → (w_X2_draw_b35 post mel sM lM p0 (0 : Int32) hM)) ∧ (¬ r3 = (14 : Int32) → (w_X2_left hM sM lM p0 (fun r7 => (((r7 = 0 → (w_X2_draw_b35 post mel sM lM p0 (0 : Int32) hM)) ∧ (¬ r7 = 0 → (vp_in p0 34 ∧ (vp_in p0 34 ∧ (w_X2_sizeOf mel (upd hM p0.toNatClampNeg ((hM p0.toNatClampNeg) + (1 : Int32))) (fun r11 => (post r11 (0 : Int32) (upd hM p0.toNatClampNeg ((hM p0.toNatClampNeg) + (1 : Int32))))))))))))))))))))))

set_option maxHeartbeats 4000000 in
set_option maxRecDepth 100000 in
theorem c_X2_draw (l : Launch) (dC : Nat → ClassId) (dI : Nat → Nat → Nat) (cI cZ : ClassId) (y : Nat) (bH : Nat) (bS : Nat) (bL : Nat) (bO : Nat) (bK : Nat) (bZ : Nat) (bR : Nat) (bG : Nat) (bB : Nat) (bX : Nat) (sz : Nat) (thr : Int32) (mel : Int32) (sea : Int32) (rnd : Int32) (bas : Int32) (lim : Int32) (hM : (Nat → Int32)) (sM : (Nat → Int32)) (lM : (Nat → Int32)) (p0 : Int32) (post : Int32 → Int32 → (Nat → Int32) → Prop) (hw : w_X2_draw thr mel hM sM lM p0 post) : Met l yX2_draw wsX2_draw ({ frames := 3, cells := 0, slots := 0, locals := 60 } : Room) (va_Pc [.ref y, .int p0] (fun U => U.heap.size = sz ∧ va_P (dC, dI) vwCl [(y, .inr (2, [.int thr, .ref bH, .ref bS, .ref bL, .int mel, .ref bO, .ref bK, .ref bZ, .int sea, .int rnd, .int bas, .int lim, .ref bR, .ref bG, .ref bB, .ref bX])), (bH, .inl (cI, 34, .inl hM)), (bS, .inl (cI, 34, .inl sM)), (bL, .inl (cI, 34, .inl lM))] U.heap ∧ va_K (dC, dI) vwCl [(cI, .int), (cZ, .boolean)] U ∧ va_D (fun _ => True) [(y, .inr (2, [.int thr, .ref bH, .ref bS, .ref bL, .int mel, .ref bO, .ref bK, .ref bZ, .int sea, .int rnd, .int bas, .int lim, .ref bR, .ref bG, .ref bB, .ref bX])), (bH, .inl (cI, 34, .inl hM)), (bS, .inl (cI, 34, .inl sM)), (bL, .inl (cI, 34, .inl lM))])) (va_Qi (fun (r9 : Int32) (u9 : Int32 × (Nat → Int32)) => post r9 u9.1 u9.2) (fun (u9 : Int32 × (Nat → Int32)) (t9 : State) => va_P (dC, dI) vwCl [(y, .inr (2, [.int u9.1, .ref bH, .ref bS, .ref bL, .int mel, .ref bO, .ref bK, .ref bZ, .int sea, .int rnd, .int bas, .int lim, .ref bR, .ref bG, .ref bB, .ref bX])), (bH, .inl (cI, 34, .inl u9.2)), (bS, .inl (cI, 34, .inl sM)), (bL, .inl (cI, 34, .inl lM))] t9.heap ∧ va_K (dC, dI) vwCl [(cI, .int), (cZ, .boolean)] t9 ∧ va_D (va_A [(y, .inr (2, [.int thr, .ref bH, .ref bS, .ref bL, .int mel, .ref bO, .ref bK, .ref bZ, .int sea, .int rnd, .int bas, .int lim, .ref bR, .ref bG, .ref bB, .ref bX])), (bH, .inl (cI, 34, .inl hM)), (bS, .inl (cI, 34, .inl sM)), (bL, .inl (cI, 34, .inl lM))] sz) [(y, .inr (2, [.int u9.1, .ref bH, .ref bS, .ref bL, .int mel, .ref bO, .ref bK, .ref bZ, .int sea, .int rnd, .int bas, .int lim, .ref bR, .ref bG, .ref bB, .ref bX])), (bH, .inl (cI, 34, .inl u9.2)), (bS, .inl (cI, 34, .inl sM)), (bL, .inl (cI, 34, .inl lM))]) (va_A [(y, .inr (2, [.int thr, .ref bH, .ref bS, .ref bL, .int mel, .ref bO, .ref bK, .ref bZ, .int sea, .int rnd, .int bas, .int lim, .ref bR, .ref bG, .ref bB, .ref bX])), (bH, .inl (cI, 34, .inl hM)), (bS, .inl (cI, 34, .inl sM)), (bL, .inl (cI, 34, .inl lM))] sz)) 0 0 (va_A [(y, .inr (2, [.int thr, .ref bH, .ref bS, .ref bL, .int mel, .ref bO, .ref bK, .ref bZ, .int sea, .int rnd, .int bas, .int lim, .ref bR, .ref bG, .ref bB, .ref bX])), (bH, .inl (cI, 34, .inl hM)), (bS, .inl (cI, 34, .inl sM)), (bL, .inl (cI, 34, .inl lM))] sz) := by
  refine Met.ofW (cc := cX2_draw) (maxL := 2) (ret := (some .int)) (by decide) rfl ?_
  intro p e s m args below meth c s₁ B hml hv
  obtain ⟨rfl, hsz, hP, hK, hD0⟩ := hv
  have hx := B.exec
  have hb := B.bytes
  have hr := B.returns
  have hts := atoms_spec (ws := wsX2_draw) B.pre
  have hown : s.vm.findClass RX2 = some m.cls := findClass_of_methodNamed B.named
  have hlocks := B.notSynchronized
  have hinX2 : ∀ w ∈ u_ws RX2 TX2 16, w ∈ wsX2_draw := by decide +kernel
  subst hsz
  have hD := hD0.self (sz := s.heap.size)
  generalize hAe : va_A [(y, .inr (2, [.int thr, .ref bH, .ref bS, .ref bL, .int mel, .ref bO, .ref bK, .ref bZ, .int sea, .int rnd, .int bas, .int lim, .ref bR, .ref bG, .ref bB, .ref bX])), (bH, .inl (cI, 34, .inl hM)), (bS, .inl (cI, 34, .inl sM)), (bL, .inl (cI, 34, .inl lM))] s.heap.size = A at hD ⊢
  have hA : ∀ q : Nat, s.heap.size ≤ q → A q := fun q h => by rw [← hAe]; exact Or.inr h
  have hS : va_S A s.heap s.heap [] := va_S.rf
  have hl := lv_entry ([.ref y, .int p0]) (n := 2) (Nat.le_of_ble_eq_true rfl)
  rw [lg_entry_eq]
  generalize (lg_sl ([.ref y, .int p0]) ++ List.replicate (2 - (lg_sl ([.ref y, .int p0])).length) Slot.unset).toArray = ls at hl ⊢
  have hl : lv_has ls 2 [(0, .ref y), (1, .int p0)] := hl
  refine (?_ : ∀ Q9 : State → Prop, MQ below _ _ s _ _ _ = Q9 → W p l e ({ frames := 3, cells := 0, slots := 0, locals := 60 } : Room) s m _ below meth c s.heap [] 0 0 Q9 (F0 m 0 ls [])) _ rfl
  intro Q9 hQ9
  have hw : w_X2_isKind p0 (fun r1 => (((r1 = 0 → (w_X2_fail (0 : Int32) (1 : Int32) (fun r12 thr_13 => (post r12 thr_13 hM)))) ∧ (¬ r1 = 0 → (w_X2_sizeOf mel hM (fun r3 => (((r3 = (14 : Int32) → (w_X2_draw_b35 post mel sM lM p0 (0 : Int32) hM)) ∧ (¬ r3 = (14 : Int32) → (w_X2_left hM sM lM p0 (fun r7 => (((r7 = 0 → (w_X2_draw_b35 post mel sM lM p0 (0 : Int32) hM)) ∧ (¬ r7 = 0 → (vp_in p0 34 ∧ (vp_in p0 34 ∧ (w_X2_sizeOf mel (upd hM p0.toNatClampNeg ((hM p0.toNatClampNeg) + (1 : Int32))) (fun r11 => (post r11 (0 : Int32) (upd hM p0.toNatClampNeg ((hM p0.toNatClampNeg) + (1 : Int32)))))))))))))))))))))) := hw
  have L35 : ∀ (thr : Int32) (hM : (Nat → Int32)) (H : Heap) (locs : List Loc) (ls : Array Slot), w_X2_draw_b35 post mel sM lM p0 thr hM → va_P (dC, dI) vwCl [(y, .inr (2, [.int thr, .ref bH, .ref bS, .ref bL, .int mel, .ref bO, .ref bK, .ref bZ, .int sea, .int rnd, .int bas, .int lim, .ref bR, .ref bG, .ref bB, .ref bX])), (bH, .inl (cI, 34, .inl hM)), (bS, .inl (cI, 34, .inl sM)), (bL, .inl (cI, 34, .inl lM))] H → va_D A [(y, .inr (2, [.int thr, .ref bH, .ref bS, .ref bL, .int mel, .ref bO, .ref bK, .ref bZ, .int sea, .int rnd, .int bas, .int lim, .ref bR, .ref bG, .ref bB, .ref bX])), (bH, .inl (cI, 34, .inl hM)), (bS, .inl (cI, 34, .inl sM)), (bL, .inl (cI, 34, .inl lM))] → va_S A s.heap H locs → lv_has ls 2 [(0, .ref y)] → W p l e ({ frames := 3, cells := 0, slots := 0, locals := 60 } : Room) s m ([.ref y, .int p0] : List Value).toArray below meth c H locs 0 0 Q9 (F0 m 35 ls []) := by
    intro thr hM H locs ls hw hP hD hS hl
    refine lv_aload_n hx hb dX2_draw_35 rfl (lv_at hl 0 rfl) ?_
    refine lv_iconst (v := 2) hx hb dX2_draw_36 (by decide) ?_
    have hPc := hP.sub (ws' := [(y, .inr (2, [.int thr, .ref bH, .ref bS, .ref bL, .int mel, .ref bO, .ref bK, .ref bZ, .int sea, .int rnd, .int bas, .int lim, .ref bR, .ref bG, .ref bB, .ref bX]))]) [0] rfl
    have hDc := hD.sub (ws' := [(y, .inr (2, [.int thr, .ref bH, .ref bS, .ref bL, .int mel, .ref bO, .ref bK, .ref bZ, .int sea, .int rnd, .int bas, .int lim, .ref bR, .ref bG, .ref bB, .ref bX]))]) [0] (by decide) rfl
    have hFc := va_free (wc := [(y, .inr (2, [.int thr, .ref bH, .ref bS, .ref bL, .int mel, .ref bO, .ref bK, .ref bZ, .int sea, .int rnd, .int bas, .int lim, .ref bR, .ref bG, .ref bB, .ref bX]))]) hD hS hA [0] rfl
    refine va_calli (va_runV (As := [.int (2 : Int32)]) (rest := []) ⟨hx, hb, hml, hown, hts⟩ (c_X2_fail l dC dI cI cZ y bH bS bL bO bK bZ bR bG bB bX H.size thr mel sea rnd bas lim (2 : Int32) _ hw) (cwV 1 hts gX2_draw_X2_fail rfl rfl rfl (by decide +kernel) ⟨Nat.le_of_ble_eq_true rfl, Nat.le_of_ble_eq_true rfl⟩) ⟨fun a U g mk q => by obtain ⟨q0, q1, qP, qK, qD⟩ := q; exact ⟨q0, q1, qP, va_K.moved (u := U) (U := U.calling g mk a) (Vm.Alike.refl U.vm) qK, qD⟩, va_recv hK hPc (ci := 2) (q0 := 0) rfl rfl, fun U hU hW => ⟨rfl, by rw [hU], by rw [hU]; exact hPc, va_K.moved hW.alike hK, hDc.weaken (fun _ _ _ _ => trivial)⟩⟩ rfl rfl hl.1 rfl (lv_room (Nat.le_of_ble_eq_true rfl)) dX2_draw_37 ⟨Nat.le_of_ble_eq_true rfl, Nat.le_of_ble_eq_true rfl⟩) hS (fun q _ h => hFc q h) hFc (fun r5 u t H1 locs ht hvm hw hB hz1 hk1 hS => ?_)
    obtain ⟨thr_6, rfl⟩ : ∃ z, z = u := ⟨_, rfl⟩
    obtain ⟨hP1, -, hD1⟩ := hB
    have hw := And.intro hw trivial
    try dsimp only at hw
    have hw := hw.1
    rw [ht] at hP1
    obtain ⟨hP, hD⟩ := va_join (wr := [(bH, .inl (cI, 34, .inl hM)), (bS, .inl (cI, 34, .inl sM)), (bL, .inl (cI, 34, .inl lM))]) (w1 := [(y, .inr (2, [.int thr_6, .ref bH, .ref bS, .ref bL, .int mel, .ref bO, .ref bK, .ref bZ, .int sea, .int rnd, .int bas, .int lim, .ref bR, .ref bG, .ref bB, .ref bX]))]) hP hD [0] [1, 2, 3] rfl rfl (by decide) (by decide) hk1 hFc hP1 hD1
    generalize H1 = H at hP hS ⊢
    have hP : va_P (dC, dI) vwCl [(bH, .inl (cI, 34, .inl hM)), (bS, .inl (cI, 34, .inl sM)), (bL, .inl (cI, 34, .inl lM)), (y, .inr (2, [.int thr_6, .ref bH, .ref bS, .ref bL, .int mel, .ref bO, .ref bK, .ref bZ, .int sea, .int rnd, .int bas, .int lim, .ref bR, .ref bG, .ref bB, .ref bX]))] H := hP
    have hD : va_D A [(bH, .inl (cI, 34, .inl hM)), (bS, .inl (cI, 34, .inl sM)), (bL, .inl (cI, 34, .inl lM)), (y, .inr (2, [.int thr_6, .ref bH, .ref bS, .ref bL, .int mel, .ref bO, .ref bK, .ref bZ, .int sea, .int rnd, .int bas, .int lim, .ref bR, .ref bG, .ref bB, .ref bX]))] := hD
    have hP9 := hP.sub (ws' := [(y, .inr (2, [.int thr_6, .ref bH, .ref bS, .ref bL, .int mel, .ref bO, .ref bK, .ref bZ, .int sea, .int rnd, .int bas, .int lim, .ref bR, .ref bG, .ref bB, .ref bX])), (bH, .inl (cI, 34, .inl hM)), (bS, .inl (cI, 34, .inl sM)), (bL, .inl (cI, 34, .inl lM))]) [3, 0, 1, 2] rfl
    have hD9 := hD.sub (ws' := [(y, .inr (2, [.int thr_6, .ref bH, .ref bS, .ref bL, .int mel, .ref bO, .ref bK, .ref bZ, .int sea, .int rnd, .int bas, .int lim, .ref bR, .ref bG, .ref bB, .ref bX])), (bH, .inl (cI, 34, .inl hM)), (bS, .inl (cI, 34, .inl sM)), (bL, .inl (cI, 34, .inl lM))]) [3, 0, 1, 2] (by decide) rfl
    rw [← hQ9]
    exact W.iret (v := r5) hx hb hr (fun t ht hW => ⟨⟨r5, (thr_6, hM), rfl, hw, by rw [ht]; exact hP9, va_K.moved hW.alike hK, hD9⟩, hS.F ht⟩) hS.2.2 dX2_draw_40
  refine lv_aload_n hx hb dX2_draw_0 rfl (lv_at hl 0 rfl) ?_
  refine lv_iconst (v := 0) hx hb dX2_draw_1 (by decide) ?_
  refine va_put (D := (dC, dI)) (ci := 2) (v := .int (0 : Int32)) (ty := .int) (C := RX2) (T := TX2) (N := 16) hx hb hts hinX2 tyX2 tyX2_ok nmX2 hown hK hP hD hS 0 rfl rfl 0 (by decide) (hts (.fieldLink RX2 54 "TileHandModel" "thrown" "I") (by decide +kernel)) (fun _ h9 => h9) rfl (by decide +kernel) rfl rfl (Nat.le_of_ble_eq_true rfl) dX2_draw_2 (fun H locs hP hD hS => ?_)
  have hP : va_P (dC, dI) vwCl [(y, .inr (2, [.int (0 : Int32), .ref bH, .ref bS, .ref bL, .int mel, .ref bO, .ref bK, .ref bZ, .int sea, .int rnd, .int bas, .int lim, .ref bR, .ref bG, .ref bB, .ref bX])), (bH, .inl (cI, 34, .inl hM)), (bS, .inl (cI, 34, .inl sM)), (bL, .inl (cI, 34, .inl lM))] H := hP
  have hD : va_D A [(y, .inr (2, [.int (0 : Int32), .ref bH, .ref bS, .ref bL, .int mel, .ref bO, .ref bK, .ref bZ, .int sea, .int rnd, .int bas, .int lim, .ref bR, .ref bG, .ref bB, .ref bX])), (bH, .inl (cI, 34, .inl hM)), (bS, .inl (cI, 34, .inl sM)), (bL, .inl (cI, 34, .inl lM))] := hD
  refine lv_iload_n hx hb dX2_draw_5 rfl (lv_at hl 1 rfl) ?_
  have hPc := hP.sub (ws' := []) [] rfl
  have hDc := hD.sub (ws' := []) [] (by decide) rfl
  have hFc := va_free (wc := []) hD hS hA [] rfl
  refine va_calli (va_runS (As := [.int p0]) (rest := []) ⟨hx, hb, hml, hown, hts⟩ (c_X2_isKind l dC dI cI cZ H.size p0 _ hw) (va_cwS 1 hts gX2_draw_X2_isKind rfl rfl rfl (by decide +kernel) ⟨Nat.le_of_ble_eq_true rfl, Nat.le_of_ble_eq_true rfl⟩) ⟨fun a U g mk q => by obtain ⟨q0, q1, qP, qK, qD⟩ := q; exact ⟨q0, q1, qP, va_K.moved (u := U) (U := U.calling g mk a) (Vm.Alike.refl U.vm) qK, qD⟩, fun U hU hW => ⟨rfl, by rw [hU], by rw [hU]; exact hPc, va_K.moved hW.alike hK, hDc.weaken (fun _ _ _ _ => trivial)⟩⟩ rfl rfl hl.1 rfl (lv_room (Nat.le_of_ble_eq_true rfl)) dX2_draw_6 ⟨Nat.le_of_ble_eq_true rfl, Nat.le_of_ble_eq_true rfl⟩) hS (fun q _ h => hFc q h) hFc (fun r1 u t H1 locs ht hvm hw hB hz1 hk1 hS => ?_)
  obtain ⟨hP1, -, hD1⟩ := hB
  have hw := And.intro hw trivial
  try dsimp only at hw
  have hw := hw.1
  rw [ht] at hP1
  obtain ⟨hP, hD⟩ := va_join (wr := [(y, .inr (2, [.int (0 : Int32), .ref bH, .ref bS, .ref bL, .int mel, .ref bO, .ref bK, .ref bZ, .int sea, .int rnd, .int bas, .int lim, .ref bR, .ref bG, .ref bB, .ref bX])), (bH, .inl (cI, 34, .inl hM)), (bS, .inl (cI, 34, .inl sM)), (bL, .inl (cI, 34, .inl lM))]) (w1 := []) hP hD [] [0, 1, 2, 3] rfl rfl (by decide) (by decide) hk1 hFc hP1 hD1
  generalize H1 = H at hP hS ⊢
  have hP : va_P (dC, dI) vwCl [(y, .inr (2, [.int (0 : Int32), .ref bH, .ref bS, .ref bL, .int mel, .ref bO, .ref bK, .ref bZ, .int sea, .int rnd, .int bas, .int lim, .ref bR, .ref bG, .ref bB, .ref bX])), (bH, .inl (cI, 34, .inl hM)), (bS, .inl (cI, 34, .inl sM)), (bL, .inl (cI, 34, .inl lM))] H := hP
  have hD : va_D A [(y, .inr (2, [.int (0 : Int32), .ref bH, .ref bS, .ref bL, .int mel, .ref bO, .ref bK, .ref bZ, .int sea, .int rnd, .int bas, .int lim, .ref bR, .ref bG, .ref bB, .ref bX])), (bH, .inl (cI, 34, .inl hM)), (bS, .inl (cI, 34, .inl sM)), (bL, .inl (cI, 34, .inl lM))] := hD
  refine lv_if_ne (tgt := 18) hx hb dX2_draw_9 (by decide) (fun c2 => ?_) (fun c2 => ?_)
  · have hw := hw.2 c2
    refine lv_aload_n hx hb dX2_draw_18 rfl (lv_at hl 0 rfl) ?_
    have hPc := hP.sub (ws' := [(y, .inr (2, [.int (0 : Int32), .ref bH, .ref bS, .ref bL, .int mel, .ref bO, .ref bK, .ref bZ, .int sea, .int rnd, .int bas, .int lim, .ref bR, .ref bG, .ref bB, .ref bX])), (bH, .inl (cI, 34, .inl hM))]) [0, 1] rfl
    have hDc := hD.sub (ws' := [(y, .inr (2, [.int (0 : Int32), .ref bH, .ref bS, .ref bL, .int mel, .ref bO, .ref bK, .ref bZ, .int sea, .int rnd, .int bas, .int lim, .ref bR, .ref bG, .ref bB, .ref bX])), (bH, .inl (cI, 34, .inl hM))]) [0, 1] (by decide) rfl
    have hFc := va_free (wc := [(y, .inr (2, [.int (0 : Int32), .ref bH, .ref bS, .ref bL, .int mel, .ref bO, .ref bK, .ref bZ, .int sea, .int rnd, .int bas, .int lim, .ref bR, .ref bG, .ref bB, .ref bX])), (bH, .inl (cI, 34, .inl hM))]) hD hS hA [0, 1] rfl
    refine va_calli (va_runV (As := []) (rest := []) ⟨hx, hb, hml, hown, hts⟩ (c_X2_sizeOf l dC dI cI cZ y bH bS bL bO bK bZ bR bG bB bX H.size (0 : Int32) mel sea rnd bas lim hM _ hw) (cwV 0 hts gX2_draw_X2_sizeOf rfl rfl rfl (by decide +kernel) ⟨Nat.le_of_ble_eq_true rfl, Nat.le_of_ble_eq_true rfl⟩) ⟨fun a U g mk q => by obtain ⟨q0, q1, qP, qK, qD⟩ := q; exact ⟨q0, q1, qP, va_K.moved (u := U) (U := U.calling g mk a) (Vm.Alike.refl U.vm) qK, qD⟩, va_recv hK hPc (ci := 2) (q0 := 0) rfl rfl, fun U hU hW => ⟨rfl, by rw [hU], by rw [hU]; exact hPc, va_K.moved hW.alike hK, hDc.weaken (fun _ _ _ _ => trivial)⟩⟩ rfl rfl hl.1 rfl (lv_room (Nat.le_of_ble_eq_true rfl)) dX2_draw_19 ⟨Nat.le_of_ble_eq_true rfl, Nat.le_of_ble_eq_true rfl⟩) hS (fun q _ h => hFc q h) hFc (fun r3 u t H1 locs ht hvm hw hB hz1 hk1 hS => ?_)
    obtain ⟨hP1, -, hD1⟩ := hB
    have hw := And.intro hw trivial
    try dsimp only at hw
    have hw := hw.1
    rw [ht] at hP1
    obtain ⟨hP, hD⟩ := va_join (wr := [(bS, .inl (cI, 34, .inl sM)), (bL, .inl (cI, 34, .inl lM))]) (w1 := [(y, .inr (2, [.int (0 : Int32), .ref bH, .ref bS, .ref bL, .int mel, .ref bO, .ref bK, .ref bZ, .int sea, .int rnd, .int bas, .int lim, .ref bR, .ref bG, .ref bB, .ref bX])), (bH, .inl (cI, 34, .inl hM))]) hP hD [0, 1] [2, 3] rfl rfl (by decide) (by decide) hk1 hFc hP1 hD1
    generalize H1 = H at hP hS ⊢
    have hP : va_P (dC, dI) vwCl [(bS, .inl (cI, 34, .inl sM)), (bL, .inl (cI, 34, .inl lM)), (y, .inr (2, [.int (0 : Int32), .ref bH, .ref bS, .ref bL, .int mel, .ref bO, .ref bK, .ref bZ, .int sea, .int rnd, .int bas, .int lim, .ref bR, .ref bG, .ref bB, .ref bX])), (bH, .inl (cI, 34, .inl hM))] H := hP
    have hD : va_D A [(bS, .inl (cI, 34, .inl sM)), (bL, .inl (cI, 34, .inl lM)), (y, .inr (2, [.int (0 : Int32), .ref bH, .ref bS, .ref bL, .int mel, .ref bO, .ref bK, .ref bZ, .int sea, .int rnd, .int bas, .int lim, .ref bR, .ref bG, .ref bB, .ref bX])), (bH, .inl (cI, 34, .inl hM))] := hD
    refine lv_bipush (v := 14) hx hb dX2_draw_22 (by decide) ?_
    refine lv_icmp_eq (tgt := 35) hx hb dX2_draw_24 (by decide) (fun c4 => ?_) (fun c4 => ?_)
    · have hw := hw.1 c4
      have hP9 := hP.sub (ws' := [(y, .inr (2, [.int (0 : Int32), .ref bH, .ref bS, .ref bL, .int mel, .ref bO, .ref bK, .ref bZ, .int sea, .int rnd, .int bas, .int lim, .ref bR, .ref bG, .ref bB, .ref bX])), (bH, .inl (cI, 34, .inl hM)), (bS, .inl (cI, 34, .inl sM)), (bL, .inl (cI, 34, .inl lM))]) [2, 3, 0, 1] rfl
      have hD9 := hD.sub (ws' := [(y, .inr (2, [.int (0 : Int32), .ref bH, .ref bS, .ref bL, .int mel, .ref bO, .ref bK, .ref bZ, .int sea, .int rnd, .int bas, .int lim, .ref bR, .ref bG, .ref bB, .ref bX])), (bH, .inl (cI, 34, .inl hM)), (bS, .inl (cI, 34, .inl sM)), (bL, .inl (cI, 34, .inl lM))]) [2, 3, 0, 1] (by decide) rfl
      exact L35 (0 : Int32) hM _ _ _ hw hP9 hD9 hS (lv_sub hl [0] rfl)
    · have hw := hw.2 c4
      refine lv_aload_n hx hb dX2_draw_27 rfl (lv_at hl 0 rfl) ?_
      refine lv_iload_n hx hb dX2_draw_28 rfl (lv_at hl 1 rfl) ?_
      have hPc := hP.sub (ws' := [(y, .inr (2, [.int (0 : Int32), .ref bH, .ref bS, .ref bL, .int mel, .ref bO, .ref bK, .ref bZ, .int sea, .int rnd, .int bas, .int lim, .ref bR, .ref bG, .ref bB, .ref bX])), (bH, .inl (cI, 34, .inl hM)), (bS, .inl (cI, 34, .inl sM)), (bL, .inl (cI, 34, .inl lM))]) [2, 3, 0, 1] rfl
      have hDc := hD.sub (ws' := [(y, .inr (2, [.int (0 : Int32), .ref bH, .ref bS, .ref bL, .int mel, .ref bO, .ref bK, .ref bZ, .int sea, .int rnd, .int bas, .int lim, .ref bR, .ref bG, .ref bB, .ref bX])), (bH, .inl (cI, 34, .inl hM)), (bS, .inl (cI, 34, .inl sM)), (bL, .inl (cI, 34, .inl lM))]) [2, 3, 0, 1] (by decide) rfl
      have hFc := va_free (wc := [(y, .inr (2, [.int (0 : Int32), .ref bH, .ref bS, .ref bL, .int mel, .ref bO, .ref bK, .ref bZ, .int sea, .int rnd, .int bas, .int lim, .ref bR, .ref bG, .ref bB, .ref bX])), (bH, .inl (cI, 34, .inl hM)), (bS, .inl (cI, 34, .inl sM)), (bL, .inl (cI, 34, .inl lM))]) hD hS hA [2, 3, 0, 1] rfl
      refine va_calli (va_runV (As := [.int p0]) (rest := []) ⟨hx, hb, hml, hown, hts⟩ (c_X2_left l dC dI cI cZ y bH bS bL bO bK bZ bR bG bB bX H.size (0 : Int32) mel sea rnd bas lim hM sM lM p0 _ hw) (cwV 1 hts gX2_draw_X2_left rfl rfl rfl (by decide +kernel) ⟨Nat.le_of_ble_eq_true rfl, Nat.le_of_ble_eq_true rfl⟩) ⟨fun a U g mk q => by obtain ⟨q0, q1, qP, qK, qD⟩ := q; exact ⟨q0, q1, qP, va_K.moved (u := U) (U := U.calling g mk a) (Vm.Alike.refl U.vm) qK, qD⟩, va_recv hK hPc (ci := 2) (q0 := 0) rfl rfl, fun U hU hW => ⟨rfl, by rw [hU], by rw [hU]; exact hPc, va_K.moved hW.alike hK, hDc.weaken (fun _ _ _ _ => trivial)⟩⟩ rfl rfl hl.1 rfl (lv_room (Nat.le_of_ble_eq_true rfl)) dX2_draw_29 ⟨Nat.le_of_ble_eq_true rfl, Nat.le_of_ble_eq_true rfl⟩) hS (fun q _ h => hFc q h) hFc (fun r7 u t H1 locs ht hvm hw hB hz1 hk1 hS => ?_)
      obtain ⟨hP1, -, hD1⟩ := hB
      have hw := And.intro hw trivial
      try dsimp only at hw
      have hw := hw.1
      rw [ht] at hP1
      obtain ⟨hP, hD⟩ := va_join (wr := []) (w1 := [(y, .inr (2, [.int (0 : Int32), .ref bH, .ref bS, .ref bL, .int mel, .ref bO, .ref bK, .ref bZ, .int sea, .int rnd, .int bas, .int lim, .ref bR, .ref bG, .ref bB, .ref bX])), (bH, .inl (cI, 34, .inl hM)), (bS, .inl (cI, 34, .inl sM)), (bL, .inl (cI, 34, .inl lM))]) hP hD [2, 3, 0, 1] [] rfl rfl (by decide) (by decide) hk1 hFc hP1 hD1
      generalize H1 = H at hP hS ⊢
      have hP : va_P (dC, dI) vwCl [(y, .inr (2, [.int (0 : Int32), .ref bH, .ref bS, .ref bL, .int mel, .ref bO, .ref bK, .ref bZ, .int sea, .int rnd, .int bas, .int lim, .ref bR, .ref bG, .ref bB, .ref bX])), (bH, .inl (cI, 34, .inl hM)), (bS, .inl (cI, 34, .inl sM)), (bL, .inl (cI, 34, .inl lM))] H := hP
      have hD : va_D A [(y, .inr (2, [.int (0 : Int32), .ref bH, .ref bS, .ref bL, .int mel, .ref bO, .ref bK, .ref bZ, .int sea, .int rnd, .int bas, .int lim, .ref bR, .ref bG, .ref bB, .ref bX])), (bH, .inl (cI, 34, .inl hM)), (bS, .inl (cI, 34, .inl sM)), (bL, .inl (cI, 34, .inl lM))] := hD
      refine lv_if_ne (tgt := 41) hx hb dX2_draw_32 (by decide) (fun c8 => ?_) (fun c8 => ?_)
      · have hw := hw.2 c8
        refine lv_aload_n hx hb dX2_draw_41 rfl (lv_at hl 0 rfl) ?_
        refine va_get (D := (dC, dI)) (ci := 2) (v := .ref bH) (C := RX2) (T := TX2) (N := 16) hx hb hts hinX2 hown hK hP 0 rfl rfl 1 (by decide) (hts (.fieldLink RX2 9 "TileHandModel" "hand" "[I") (by decide +kernel)) (fun _ h9 => h9) rfl dX2_draw_42 ?_
        refine lv_iload_n hx hb dX2_draw_45 rfl (lv_at hl 1 rfl) ?_
        refine lv_dup2_11 hx hb dX2_draw_46 rfl rfl ?_
        obtain ⟨h9, hw⟩ := hw
        refine va_iald hx hb hK hP 1 0 rfl rfl h9 dX2_draw_47 ?_
        refine lv_iconst (v := 1) hx hb dX2_draw_48 (by decide) ?_
        refine lv_iadd hx hb dX2_draw_49 ?_
        obtain ⟨h10, hw⟩ := hw
        refine va_iast hx hb hK hP hD hS 1 0 rfl rfl h10 dX2_draw_50 (fun H locs hP hD hS => ?_)
        have hP : va_P (dC, dI) vwCl [(y, .inr (2, [.int (0 : Int32), .ref bH, .ref bS, .ref bL, .int mel, .ref bO, .ref bK, .ref bZ, .int sea, .int rnd, .int bas, .int lim, .ref bR, .ref bG, .ref bB, .ref bX])), (bH, .inl (cI, 34, .inl (upd hM p0.toNatClampNeg ((hM p0.toNatClampNeg) + (1 : Int32))))), (bS, .inl (cI, 34, .inl sM)), (bL, .inl (cI, 34, .inl lM))] H := hP
        have hD : va_D A [(y, .inr (2, [.int (0 : Int32), .ref bH, .ref bS, .ref bL, .int mel, .ref bO, .ref bK, .ref bZ, .int sea, .int rnd, .int bas, .int lim, .ref bR, .ref bG, .ref bB, .ref bX])), (bH, .inl (cI, 34, .inl (upd hM p0.toNatClampNeg ((hM p0.toNatClampNeg) + (1 : Int32))))), (bS, .inl (cI, 34, .inl sM)), (bL, .inl (cI, 34, .inl lM))] := hD
        refine lv_aload_n hx hb dX2_draw_51 rfl (lv_at hl 0 rfl) ?_
        have hPc := hP.sub (ws' := [(y, .inr (2, [.int (0 : Int32), .ref bH, .ref bS, .ref bL, .int mel, .ref bO, .ref bK, .ref bZ, .int sea, .int rnd, .int bas, .int lim, .ref bR, .ref bG, .ref bB, .ref bX])), (bH, .inl (cI, 34, .inl (upd hM p0.toNatClampNeg ((hM p0.toNatClampNeg) + (1 : Int32)))))]) [0, 1] rfl
        have hDc := hD.sub (ws' := [(y, .inr (2, [.int (0 : Int32), .ref bH, .ref bS, .ref bL, .int mel, .ref bO, .ref bK, .ref bZ, .int sea, .int rnd, .int bas, .int lim, .ref bR, .ref bG, .ref bB, .ref bX])), (bH, .inl (cI, 34, .inl (upd hM p0.toNatClampNeg ((hM p0.toNatClampNeg) + (1 : Int32)))))]) [0, 1] (by decide) rfl
        have hFc := va_free (wc := [(y, .inr (2, [.int (0 : Int32), .ref bH, .ref bS, .ref bL, .int mel, .ref bO, .ref bK, .ref bZ, .int sea, .int rnd, .int bas, .int lim, .ref bR, .ref bG, .ref bB, .ref bX])), (bH, .inl (cI, 34, .inl (upd hM p0.toNatClampNeg ((hM p0.toNatClampNeg) + (1 : Int32)))))]) hD hS hA [0, 1] rfl
        refine va_calli (va_runV (As := []) (rest := []) ⟨hx, hb, hml, hown, hts⟩ (c_X2_sizeOf l dC dI cI cZ y bH bS bL bO bK bZ bR bG bB bX H.size (0 : Int32) mel sea rnd bas lim (upd hM p0.toNatClampNeg ((hM p0.toNatClampNeg) + (1 : Int32))) _ hw) (cwV 0 hts gX2_draw_X2_sizeOf rfl rfl rfl (by decide +kernel) ⟨Nat.le_of_ble_eq_true rfl, Nat.le_of_ble_eq_true rfl⟩) ⟨fun a U g mk q => by obtain ⟨q0, q1, qP, qK, qD⟩ := q; exact ⟨q0, q1, qP, va_K.moved (u := U) (U := U.calling g mk a) (Vm.Alike.refl U.vm) qK, qD⟩, va_recv hK hPc (ci := 2) (q0 := 0) rfl rfl, fun U hU hW => ⟨rfl, by rw [hU], by rw [hU]; exact hPc, va_K.moved hW.alike hK, hDc.weaken (fun _ _ _ _ => trivial)⟩⟩ rfl rfl hl.1 rfl (lv_room (Nat.le_of_ble_eq_true rfl)) dX2_draw_52 ⟨Nat.le_of_ble_eq_true rfl, Nat.le_of_ble_eq_true rfl⟩) hS (fun q _ h => hFc q h) hFc (fun r11 u t H1 locs ht hvm hw hB hz1 hk1 hS => ?_)
        obtain ⟨hP1, -, hD1⟩ := hB
        have hw := And.intro hw trivial
        try dsimp only at hw
        have hw := hw.1
        rw [ht] at hP1
        obtain ⟨hP, hD⟩ := va_join (wr := [(bS, .inl (cI, 34, .inl sM)), (bL, .inl (cI, 34, .inl lM))]) (w1 := [(y, .inr (2, [.int (0 : Int32), .ref bH, .ref bS, .ref bL, .int mel, .ref bO, .ref bK, .ref bZ, .int sea, .int rnd, .int bas, .int lim, .ref bR, .ref bG, .ref bB, .ref bX])), (bH, .inl (cI, 34, .inl (upd hM p0.toNatClampNeg ((hM p0.toNatClampNeg) + (1 : Int32)))))]) hP hD [0, 1] [2, 3] rfl rfl (by decide) (by decide) hk1 hFc hP1 hD1
        generalize H1 = H at hP hS ⊢
        have hP : va_P (dC, dI) vwCl [(bS, .inl (cI, 34, .inl sM)), (bL, .inl (cI, 34, .inl lM)), (y, .inr (2, [.int (0 : Int32), .ref bH, .ref bS, .ref bL, .int mel, .ref bO, .ref bK, .ref bZ, .int sea, .int rnd, .int bas, .int lim, .ref bR, .ref bG, .ref bB, .ref bX])), (bH, .inl (cI, 34, .inl (upd hM p0.toNatClampNeg ((hM p0.toNatClampNeg) + (1 : Int32)))))] H := hP
        have hD : va_D A [(bS, .inl (cI, 34, .inl sM)), (bL, .inl (cI, 34, .inl lM)), (y, .inr (2, [.int (0 : Int32), .ref bH, .ref bS, .ref bL, .int mel, .ref bO, .ref bK, .ref bZ, .int sea, .int rnd, .int bas, .int lim, .ref bR, .ref bG, .ref bB, .ref bX])), (bH, .inl (cI, 34, .inl (upd hM p0.toNatClampNeg ((hM p0.toNatClampNeg) + (1 : Int32)))))] := hD
        have hP9 := hP.sub (ws' := [(y, .inr (2, [.int (0 : Int32), .ref bH, .ref bS, .ref bL, .int mel, .ref bO, .ref bK, .ref bZ, .int sea, .int rnd, .int bas, .int lim, .ref bR, .ref bG, .ref bB, .ref bX])), (bH, .inl (cI, 34, .inl (upd hM p0.toNatClampNeg ((hM p0.toNatClampNeg) + (1 : Int32))))), (bS, .inl (cI, 34, .inl sM)), (bL, .inl (cI, 34, .inl lM))]) [2, 3, 0, 1] rfl
        have hD9 := hD.sub (ws' := [(y, .inr (2, [.int (0 : Int32), .ref bH, .ref bS, .ref bL, .int mel, .ref bO, .ref bK, .ref bZ, .int sea, .int rnd, .int bas, .int lim, .ref bR, .ref bG, .ref bB, .ref bX])), (bH, .inl (cI, 34, .inl (upd hM p0.toNatClampNeg ((hM p0.toNatClampNeg) + (1 : Int32))))), (bS, .inl (cI, 34, .inl sM)), (bL, .inl (cI, 34, .inl lM))]) [2, 3, 0, 1] (by decide) rfl
        rw [← hQ9]
        exact W.iret (v := r11) hx hb hr (fun t ht hW => ⟨⟨r11, ((0 : Int32), upd hM p0.toNatClampNeg ((hM p0.toNatClampNeg) + (1 : Int32))), rfl, hw, by rw [ht]; exact hP9, va_K.moved hW.alike hK, hD9⟩, hS.F ht⟩) hS.2.2 dX2_draw_55
      · have hw := hw.1 c8
        exact L35 (0 : Int32) hM _ _ _ hw hP hD hS (lv_sub hl [0] rfl)
  · have hw := hw.1 c2
    refine lv_aload_n hx hb dX2_draw_12 rfl (lv_at hl 0 rfl) ?_
    refine lv_iconst (v := 1) hx hb dX2_draw_13 (by decide) ?_
    have hPc := hP.sub (ws' := [(y, .inr (2, [.int (0 : Int32), .ref bH, .ref bS, .ref bL, .int mel, .ref bO, .ref bK, .ref bZ, .int sea, .int rnd, .int bas, .int lim, .ref bR, .ref bG, .ref bB, .ref bX]))]) [0] rfl
    have hDc := hD.sub (ws' := [(y, .inr (2, [.int (0 : Int32), .ref bH, .ref bS, .ref bL, .int mel, .ref bO, .ref bK, .ref bZ, .int sea, .int rnd, .int bas, .int lim, .ref bR, .ref bG, .ref bB, .ref bX]))]) [0] (by decide) rfl
    have hFc := va_free (wc := [(y, .inr (2, [.int (0 : Int32), .ref bH, .ref bS, .ref bL, .int mel, .ref bO, .ref bK, .ref bZ, .int sea, .int rnd, .int bas, .int lim, .ref bR, .ref bG, .ref bB, .ref bX]))]) hD hS hA [0] rfl
    refine va_calli (va_runV (As := [.int (1 : Int32)]) (rest := []) ⟨hx, hb, hml, hown, hts⟩ (c_X2_fail l dC dI cI cZ y bH bS bL bO bK bZ bR bG bB bX H.size (0 : Int32) mel sea rnd bas lim (1 : Int32) _ hw) (cwV 1 hts gX2_draw_X2_fail rfl rfl rfl (by decide +kernel) ⟨Nat.le_of_ble_eq_true rfl, Nat.le_of_ble_eq_true rfl⟩) ⟨fun a U g mk q => by obtain ⟨q0, q1, qP, qK, qD⟩ := q; exact ⟨q0, q1, qP, va_K.moved (u := U) (U := U.calling g mk a) (Vm.Alike.refl U.vm) qK, qD⟩, va_recv hK hPc (ci := 2) (q0 := 0) rfl rfl, fun U hU hW => ⟨rfl, by rw [hU], by rw [hU]; exact hPc, va_K.moved hW.alike hK, hDc.weaken (fun _ _ _ _ => trivial)⟩⟩ rfl rfl hl.1 rfl (lv_room (Nat.le_of_ble_eq_true rfl)) dX2_draw_14 ⟨Nat.le_of_ble_eq_true rfl, Nat.le_of_ble_eq_true rfl⟩) hS (fun q _ h => hFc q h) hFc (fun r12 u t H1 locs ht hvm hw hB hz1 hk1 hS => ?_)
    obtain ⟨thr_13, rfl⟩ : ∃ z, z = u := ⟨_, rfl⟩
    obtain ⟨hP1, -, hD1⟩ := hB
    have hw := And.intro hw trivial
    try dsimp only at hw
    have hw := hw.1
    rw [ht] at hP1
    obtain ⟨hP, hD⟩ := va_join (wr := [(bH, .inl (cI, 34, .inl hM)), (bS, .inl (cI, 34, .inl sM)), (bL, .inl (cI, 34, .inl lM))]) (w1 := [(y, .inr (2, [.int thr_13, .ref bH, .ref bS, .ref bL, .int mel, .ref bO, .ref bK, .ref bZ, .int sea, .int rnd, .int bas, .int lim, .ref bR, .ref bG, .ref bB, .ref bX]))]) hP hD [0] [1, 2, 3] rfl rfl (by decide) (by decide) hk1 hFc hP1 hD1
    generalize H1 = H at hP hS ⊢
    have hP : va_P (dC, dI) vwCl [(bH, .inl (cI, 34, .inl hM)), (bS, .inl (cI, 34, .inl sM)), (bL, .inl (cI, 34, .inl lM)), (y, .inr (2, [.int thr_13, .ref bH, .ref bS, .ref bL, .int mel, .ref bO, .ref bK, .ref bZ, .int sea, .int rnd, .int bas, .int lim, .ref bR, .ref bG, .ref bB, .ref bX]))] H := hP
    have hD : va_D A [(bH, .inl (cI, 34, .inl hM)), (bS, .inl (cI, 34, .inl sM)), (bL, .inl (cI, 34, .inl lM)), (y, .inr (2, [.int thr_13, .ref bH, .ref bS, .ref bL, .int mel, .ref bO, .ref bK, .ref bZ, .int sea, .int rnd, .int bas, .int lim, .ref bR, .ref bG, .ref bB, .ref bX]))] := hD
    have hP9 := hP.sub (ws' := [(y, .inr (2, [.int thr_13, .ref bH, .ref bS, .ref bL, .int mel, .ref bO, .ref bK, .ref bZ, .int sea, .int rnd, .int bas, .int lim, .ref bR, .ref bG, .ref bB, .ref bX])), (bH, .inl (cI, 34, .inl hM)), (bS, .inl (cI, 34, .inl sM)), (bL, .inl (cI, 34, .inl lM))]) [3, 0, 1, 2] rfl
    have hD9 := hD.sub (ws' := [(y, .inr (2, [.int thr_13, .ref bH, .ref bS, .ref bL, .int mel, .ref bO, .ref bK, .ref bZ, .int sea, .int rnd, .int bas, .int lim, .ref bR, .ref bG, .ref bB, .ref bX])), (bH, .inl (cI, 34, .inl hM)), (bS, .inl (cI, 34, .inl sM)), (bL, .inl (cI, 34, .inl lM))]) [3, 0, 1, 2] (by decide) rfl
    rw [← hQ9]
    exact W.iret (v := r12) hx hb hr (fun t ht hW => ⟨⟨r12, (thr_13, hM), rfl, hw, by rw [ht]; exact hP9, va_K.moved hW.alike hK, hD9⟩, hS.F ht⟩) hS.2.2 dX2_draw_17

def w_X2_drop (thr : Int32) (mel : Int32) (hM : (Nat → Int32)) (sM : (Nat → Int32)) (p0 : Int32) (post : Int32 → Int32 → (Nat → Int32) → (Nat → Int32) → Prop) : Prop := w_X2_isKind p0 (fun r1 => (((r1 = 0 → (w_X2_fail (0 : Int32) (1 : Int32) (fun r12 thr_13 => (post r12 thr_13 hM sM)))) ∧ (¬ r1 = 0 → (vp_in p0 34 ∧ ((((hM p0.toNatClampNeg) = 0 → (w_X2_fail (0 : Int32) (2 : Int32) (fun r10 thr_11 => (post r10 thr_11 hM sM)))) ∧ (¬ (hM p0.toNatClampNeg) = 0 → (vp_in p0 34 ∧ (vp_in p0 34 ∧ (vp_in p0 34 ∧ (vp_in p0 34 ∧ (w_X2_sizeOf mel (upd hM p0.toNatClampNeg ((hM p0.toNatClampNeg) - (1 : Int32))) (fun r9 => (post r9 (0 : Int32) (upd hM p0.toNatClampNeg ((hM p0.toNatClampNeg) - (1 : Int32))) (upd sM p0.toNatClampNeg ((sM p0.toNatClampNeg) + (1 : Int32))))))))))))))))))

set_option maxHeartbeats 4000000 in
set_option maxRecDepth 100000 in
theorem c_X2_drop (l : Launch) (dC : Nat → ClassId) (dI : Nat → Nat → Nat) (cI cZ : ClassId) (y : Nat) (bH : Nat) (bS : Nat) (bL : Nat) (bO : Nat) (bK : Nat) (bZ : Nat) (bR : Nat) (bG : Nat) (bB : Nat) (bX : Nat) (sz : Nat) (thr : Int32) (mel : Int32) (sea : Int32) (rnd : Int32) (bas : Int32) (lim : Int32) (hM : (Nat → Int32)) (sM : (Nat → Int32)) (p0 : Int32) (post : Int32 → Int32 → (Nat → Int32) → (Nat → Int32) → Prop) (hw : w_X2_drop thr mel hM sM p0 post) : Met l yX2_drop wsX2_drop ({ frames := 3, cells := 0, slots := 0, locals := 60 } : Room) (va_Pc [.ref y, .int p0] (fun U => U.heap.size = sz ∧ va_P (dC, dI) vwCl [(y, .inr (2, [.int thr, .ref bH, .ref bS, .ref bL, .int mel, .ref bO, .ref bK, .ref bZ, .int sea, .int rnd, .int bas, .int lim, .ref bR, .ref bG, .ref bB, .ref bX])), (bH, .inl (cI, 34, .inl hM)), (bS, .inl (cI, 34, .inl sM))] U.heap ∧ va_K (dC, dI) vwCl [(cI, .int), (cZ, .boolean)] U ∧ va_D (fun _ => True) [(y, .inr (2, [.int thr, .ref bH, .ref bS, .ref bL, .int mel, .ref bO, .ref bK, .ref bZ, .int sea, .int rnd, .int bas, .int lim, .ref bR, .ref bG, .ref bB, .ref bX])), (bH, .inl (cI, 34, .inl hM)), (bS, .inl (cI, 34, .inl sM))])) (va_Qi (fun (r9 : Int32) (u9 : Int32 × (Nat → Int32) × (Nat → Int32)) => post r9 u9.1 u9.2.1 u9.2.2) (fun (u9 : Int32 × (Nat → Int32) × (Nat → Int32)) (t9 : State) => va_P (dC, dI) vwCl [(y, .inr (2, [.int u9.1, .ref bH, .ref bS, .ref bL, .int mel, .ref bO, .ref bK, .ref bZ, .int sea, .int rnd, .int bas, .int lim, .ref bR, .ref bG, .ref bB, .ref bX])), (bH, .inl (cI, 34, .inl u9.2.1)), (bS, .inl (cI, 34, .inl u9.2.2))] t9.heap ∧ va_K (dC, dI) vwCl [(cI, .int), (cZ, .boolean)] t9 ∧ va_D (va_A [(y, .inr (2, [.int thr, .ref bH, .ref bS, .ref bL, .int mel, .ref bO, .ref bK, .ref bZ, .int sea, .int rnd, .int bas, .int lim, .ref bR, .ref bG, .ref bB, .ref bX])), (bH, .inl (cI, 34, .inl hM)), (bS, .inl (cI, 34, .inl sM))] sz) [(y, .inr (2, [.int u9.1, .ref bH, .ref bS, .ref bL, .int mel, .ref bO, .ref bK, .ref bZ, .int sea, .int rnd, .int bas, .int lim, .ref bR, .ref bG, .ref bB, .ref bX])), (bH, .inl (cI, 34, .inl u9.2.1)), (bS, .inl (cI, 34, .inl u9.2.2))]) (va_A [(y, .inr (2, [.int thr, .ref bH, .ref bS, .ref bL, .int mel, .ref bO, .ref bK, .ref bZ, .int sea, .int rnd, .int bas, .int lim, .ref bR, .ref bG, .ref bB, .ref bX])), (bH, .inl (cI, 34, .inl hM)), (bS, .inl (cI, 34, .inl sM))] sz)) 0 0 (va_A [(y, .inr (2, [.int thr, .ref bH, .ref bS, .ref bL, .int mel, .ref bO, .ref bK, .ref bZ, .int sea, .int rnd, .int bas, .int lim, .ref bR, .ref bG, .ref bB, .ref bX])), (bH, .inl (cI, 34, .inl hM)), (bS, .inl (cI, 34, .inl sM))] sz) := by
  refine Met.ofW (cc := cX2_drop) (maxL := 2) (ret := (some .int)) (by decide) rfl ?_
  intro p e s m args below meth c s₁ B hml hv
  obtain ⟨rfl, hsz, hP, hK, hD0⟩ := hv
  have hx := B.exec
  have hb := B.bytes
  have hr := B.returns
  have hts := atoms_spec (ws := wsX2_drop) B.pre
  have hown : s.vm.findClass RX2 = some m.cls := findClass_of_methodNamed B.named
  have hlocks := B.notSynchronized
  have hinX2 : ∀ w ∈ u_ws RX2 TX2 16, w ∈ wsX2_drop := by decide +kernel
  subst hsz
  have hD := hD0.self (sz := s.heap.size)
  generalize hAe : va_A [(y, .inr (2, [.int thr, .ref bH, .ref bS, .ref bL, .int mel, .ref bO, .ref bK, .ref bZ, .int sea, .int rnd, .int bas, .int lim, .ref bR, .ref bG, .ref bB, .ref bX])), (bH, .inl (cI, 34, .inl hM)), (bS, .inl (cI, 34, .inl sM))] s.heap.size = A at hD ⊢
  have hA : ∀ q : Nat, s.heap.size ≤ q → A q := fun q h => by rw [← hAe]; exact Or.inr h
  have hS : va_S A s.heap s.heap [] := va_S.rf
  have hl := lv_entry ([.ref y, .int p0]) (n := 2) (Nat.le_of_ble_eq_true rfl)
  rw [lg_entry_eq]
  generalize (lg_sl ([.ref y, .int p0]) ++ List.replicate (2 - (lg_sl ([.ref y, .int p0])).length) Slot.unset).toArray = ls at hl ⊢
  have hl : lv_has ls 2 [(0, .ref y), (1, .int p0)] := hl
  refine (?_ : ∀ Q9 : State → Prop, MQ below _ _ s _ _ _ = Q9 → W p l e ({ frames := 3, cells := 0, slots := 0, locals := 60 } : Room) s m _ below meth c s.heap [] 0 0 Q9 (F0 m 0 ls [])) _ rfl
  intro Q9 hQ9
  have hw : w_X2_isKind p0 (fun r1 => (((r1 = 0 → (w_X2_fail (0 : Int32) (1 : Int32) (fun r12 thr_13 => (post r12 thr_13 hM sM)))) ∧ (¬ r1 = 0 → (vp_in p0 34 ∧ ((((hM p0.toNatClampNeg) = 0 → (w_X2_fail (0 : Int32) (2 : Int32) (fun r10 thr_11 => (post r10 thr_11 hM sM)))) ∧ (¬ (hM p0.toNatClampNeg) = 0 → (vp_in p0 34 ∧ (vp_in p0 34 ∧ (vp_in p0 34 ∧ (vp_in p0 34 ∧ (w_X2_sizeOf mel (upd hM p0.toNatClampNeg ((hM p0.toNatClampNeg) - (1 : Int32))) (fun r9 => (post r9 (0 : Int32) (upd hM p0.toNatClampNeg ((hM p0.toNatClampNeg) - (1 : Int32))) (upd sM p0.toNatClampNeg ((sM p0.toNatClampNeg) + (1 : Int32)))))))))))))))))) := hw
  refine lv_aload_n hx hb dX2_drop_0 rfl (lv_at hl 0 rfl) ?_
  refine lv_iconst (v := 0) hx hb dX2_drop_1 (by decide) ?_
  refine va_put (D := (dC, dI)) (ci := 2) (v := .int (0 : Int32)) (ty := .int) (C := RX2) (T := TX2) (N := 16) hx hb hts hinX2 tyX2 tyX2_ok nmX2 hown hK hP hD hS 0 rfl rfl 0 (by decide) (hts (.fieldLink RX2 54 "TileHandModel" "thrown" "I") (by decide +kernel)) (fun _ h9 => h9) rfl (by decide +kernel) rfl rfl (Nat.le_of_ble_eq_true rfl) dX2_drop_2 (fun H locs hP hD hS => ?_)
  have hP : va_P (dC, dI) vwCl [(y, .inr (2, [.int (0 : Int32), .ref bH, .ref bS, .ref bL, .int mel, .ref bO, .ref bK, .ref bZ, .int sea, .int rnd, .int bas, .int lim, .ref bR, .ref bG, .ref bB, .ref bX])), (bH, .inl (cI, 34, .inl hM)), (bS, .inl (cI, 34, .inl sM))] H := hP
  have hD : va_D A [(y, .inr (2, [.int (0 : Int32), .ref bH, .ref bS, .ref bL, .int mel, .ref bO, .ref bK, .ref bZ, .int sea, .int rnd, .int bas, .int lim, .ref bR, .ref bG, .ref bB, .ref bX])), (bH, .inl (cI, 34, .inl hM)), (bS, .inl (cI, 34, .inl sM))] := hD
  refine lv_iload_n hx hb dX2_drop_5 rfl (lv_at hl 1 rfl) ?_
  have hPc := hP.sub (ws' := []) [] rfl
  have hDc := hD.sub (ws' := []) [] (by decide) rfl
  have hFc := va_free (wc := []) hD hS hA [] rfl
  refine va_calli (va_runS (As := [.int p0]) (rest := []) ⟨hx, hb, hml, hown, hts⟩ (c_X2_isKind l dC dI cI cZ H.size p0 _ hw) (va_cwS 1 hts gX2_drop_X2_isKind rfl rfl rfl (by decide +kernel) ⟨Nat.le_of_ble_eq_true rfl, Nat.le_of_ble_eq_true rfl⟩) ⟨fun a U g mk q => by obtain ⟨q0, q1, qP, qK, qD⟩ := q; exact ⟨q0, q1, qP, va_K.moved (u := U) (U := U.calling g mk a) (Vm.Alike.refl U.vm) qK, qD⟩, fun U hU hW => ⟨rfl, by rw [hU], by rw [hU]; exact hPc, va_K.moved hW.alike hK, hDc.weaken (fun _ _ _ _ => trivial)⟩⟩ rfl rfl hl.1 rfl (lv_room (Nat.le_of_ble_eq_true rfl)) dX2_drop_6 ⟨Nat.le_of_ble_eq_true rfl, Nat.le_of_ble_eq_true rfl⟩) hS (fun q _ h => hFc q h) hFc (fun r1 u t H1 locs ht hvm hw hB hz1 hk1 hS => ?_)
  obtain ⟨hP1, -, hD1⟩ := hB
  have hw := And.intro hw trivial
  try dsimp only at hw
  have hw := hw.1
  rw [ht] at hP1
  obtain ⟨hP, hD⟩ := va_join (wr := [(y, .inr (2, [.int (0 : Int32), .ref bH, .ref bS, .ref bL, .int mel, .ref bO, .ref bK, .ref bZ, .int sea, .int rnd, .int bas, .int lim, .ref bR, .ref bG, .ref bB, .ref bX])), (bH, .inl (cI, 34, .inl hM)), (bS, .inl (cI, 34, .inl sM))]) (w1 := []) hP hD [] [0, 1, 2] rfl rfl (by decide) (by decide) hk1 hFc hP1 hD1
  generalize H1 = H at hP hS ⊢
  have hP : va_P (dC, dI) vwCl [(y, .inr (2, [.int (0 : Int32), .ref bH, .ref bS, .ref bL, .int mel, .ref bO, .ref bK, .ref bZ, .int sea, .int rnd, .int bas, .int lim, .ref bR, .ref bG, .ref bB, .ref bX])), (bH, .inl (cI, 34, .inl hM)), (bS, .inl (cI, 34, .inl sM))] H := hP
  have hD : va_D A [(y, .inr (2, [.int (0 : Int32), .ref bH, .ref bS, .ref bL, .int mel, .ref bO, .ref bK, .ref bZ, .int sea, .int rnd, .int bas, .int lim, .ref bR, .ref bG, .ref bB, .ref bX])), (bH, .inl (cI, 34, .inl hM)), (bS, .inl (cI, 34, .inl sM))] := hD
  refine lv_if_ne (tgt := 18) hx hb dX2_drop_9 (by decide) (fun c2 => ?_) (fun c2 => ?_)
  · have hw := hw.2 c2
    refine lv_aload_n hx hb dX2_drop_18 rfl (lv_at hl 0 rfl) ?_
    refine va_get (D := (dC, dI)) (ci := 2) (v := .ref bH) (C := RX2) (T := TX2) (N := 16) hx hb hts hinX2 hown hK hP 0 rfl rfl 1 (by decide) (hts (.fieldLink RX2 9 "TileHandModel" "hand" "[I") (by decide +kernel)) (fun _ h9 => h9) rfl dX2_drop_19 ?_
    refine lv_iload_n hx hb dX2_drop_22 rfl (lv_at hl 1 rfl) ?_
    obtain ⟨h3, hw⟩ := hw
    refine va_iald hx hb hK hP 1 0 rfl rfl h3 dX2_drop_23 ?_
    refine lv_if_ne (tgt := 33) hx hb dX2_drop_24 (by decide) (fun c4 => ?_) (fun c4 => ?_)
    · have hw := hw.2 c4
      refine lv_aload_n hx hb dX2_drop_33 rfl (lv_at hl 0 rfl) ?_
      refine va_get (D := (dC, dI)) (ci := 2) (v := .ref bH) (C := RX2) (T := TX2) (N := 16) hx hb hts hinX2 hown hK hP 0 rfl rfl 1 (by decide) (hts (.fieldLink RX2 9 "TileHandModel" "hand" "[I") (by decide +kernel)) (fun _ h9 => h9) rfl dX2_drop_34 ?_
      refine lv_iload_n hx hb dX2_drop_37 rfl (lv_at hl 1 rfl) ?_
      refine lv_dup2_11 hx hb dX2_drop_38 rfl rfl ?_
      obtain ⟨h5, hw⟩ := hw
      refine va_iald hx hb hK hP 1 0 rfl rfl h5 dX2_drop_39 ?_
      refine lv_iconst (v := 1) hx hb dX2_drop_40 (by decide) ?_
      refine lv_isub hx hb dX2_drop_41 ?_
      obtain ⟨h6, hw⟩ := hw
      refine va_iast hx hb hK hP hD hS 1 0 rfl rfl h6 dX2_drop_42 (fun H locs hP hD hS => ?_)
      have hP : va_P (dC, dI) vwCl [(y, .inr (2, [.int (0 : Int32), .ref bH, .ref bS, .ref bL, .int mel, .ref bO, .ref bK, .ref bZ, .int sea, .int rnd, .int bas, .int lim, .ref bR, .ref bG, .ref bB, .ref bX])), (bH, .inl (cI, 34, .inl (upd hM p0.toNatClampNeg ((hM p0.toNatClampNeg) - (1 : Int32))))), (bS, .inl (cI, 34, .inl sM))] H := hP
      have hD : va_D A [(y, .inr (2, [.int (0 : Int32), .ref bH, .ref bS, .ref bL, .int mel, .ref bO, .ref bK, .ref bZ, .int sea, .int rnd, .int bas, .int lim, .ref bR, .ref bG, .ref bB, .ref bX])), (bH, .inl (cI, 34, .inl (upd hM p0.toNatClampNeg ((hM p0.toNatClampNeg) - (1 : Int32))))), (bS, .inl (cI, 34, .inl sM))] := hD
      refine lv_aload_n hx hb dX2_drop_43 rfl (lv_at hl 0 rfl) ?_
      refine va_get (D := (dC, dI)) (ci := 2) (v := .ref bS) (C := RX2) (T := TX2) (N := 16) hx hb hts hinX2 hown hK hP 0 rfl rfl 2 (by decide) (hts (.fieldLink RX2 13 "TileHandModel" "seen" "[I") (by decide +kernel)) (fun _ h9 => h9) rfl dX2_drop_44 ?_
      refine lv_iload_n hx hb dX2_drop_47 rfl (lv_at hl 1 rfl) ?_
      refine lv_dup2_11 hx hb dX2_drop_48 rfl rfl ?_
      obtain ⟨h7, hw⟩ := hw
      refine va_iald hx hb hK hP 2 0 rfl rfl h7 dX2_drop_49 ?_
      refine lv_iconst (v := 1) hx hb dX2_drop_50 (by decide) ?_
      refine lv_iadd hx hb dX2_drop_51 ?_
      obtain ⟨h8, hw⟩ := hw
      refine va_iast hx hb hK hP hD hS 2 0 rfl rfl h8 dX2_drop_52 (fun H locs hP hD hS => ?_)
      have hP : va_P (dC, dI) vwCl [(y, .inr (2, [.int (0 : Int32), .ref bH, .ref bS, .ref bL, .int mel, .ref bO, .ref bK, .ref bZ, .int sea, .int rnd, .int bas, .int lim, .ref bR, .ref bG, .ref bB, .ref bX])), (bH, .inl (cI, 34, .inl (upd hM p0.toNatClampNeg ((hM p0.toNatClampNeg) - (1 : Int32))))), (bS, .inl (cI, 34, .inl (upd sM p0.toNatClampNeg ((sM p0.toNatClampNeg) + (1 : Int32)))))] H := hP
      have hD : va_D A [(y, .inr (2, [.int (0 : Int32), .ref bH, .ref bS, .ref bL, .int mel, .ref bO, .ref bK, .ref bZ, .int sea, .int rnd, .int bas, .int lim, .ref bR, .ref bG, .ref bB, .ref bX])), (bH, .inl (cI, 34, .inl (upd hM p0.toNatClampNeg ((hM p0.toNatClampNeg) - (1 : Int32))))), (bS, .inl (cI, 34, .inl (upd sM p0.toNatClampNeg ((sM p0.toNatClampNeg) + (1 : Int32)))))] := hD
      refine lv_aload_n hx hb dX2_drop_53 rfl (lv_at hl 0 rfl) ?_
      have hPc := hP.sub (ws' := [(y, .inr (2, [.int (0 : Int32), .ref bH, .ref bS, .ref bL, .int mel, .ref bO, .ref bK, .ref bZ, .int sea, .int rnd, .int bas, .int lim, .ref bR, .ref bG, .ref bB, .ref bX])), (bH, .inl (cI, 34, .inl (upd hM p0.toNatClampNeg ((hM p0.toNatClampNeg) - (1 : Int32)))))]) [0, 1] rfl
      have hDc := hD.sub (ws' := [(y, .inr (2, [.int (0 : Int32), .ref bH, .ref bS, .ref bL, .int mel, .ref bO, .ref bK, .ref bZ, .int sea, .int rnd, .int bas, .int lim, .ref bR, .ref bG, .ref bB, .ref bX])), (bH, .inl (cI, 34, .inl (upd hM p0.toNatClampNeg ((hM p0.toNatClampNeg) - (1 : Int32)))))]) [0, 1] (by decide) rfl
      have hFc := va_free (wc := [(y, .inr (2, [.int (0 : Int32), .ref bH, .ref bS, .ref bL, .int mel, .ref bO, .ref bK, .ref bZ, .int sea, .int rnd, .int bas, .int lim, .ref bR, .ref bG, .ref bB, .ref bX])), (bH, .inl (cI, 34, .inl (upd hM p0.toNatClampNeg ((hM p0.toNatClampNeg) - (1 : Int32)))))]) hD hS hA [0, 1] rfl
      refine va_calli (va_runV (As := []) (rest := []) ⟨hx, hb, hml, hown, hts⟩ (c_X2_sizeOf l dC dI cI cZ y bH bS bL bO bK bZ bR bG bB bX H.size (0 : Int32) mel sea rnd bas lim (upd hM p0.toNatClampNeg ((hM p0.toNatClampNeg) - (1 : Int32))) _ hw) (cwV 0 hts gX2_drop_X2_sizeOf rfl rfl rfl (by decide +kernel) ⟨Nat.le_of_ble_eq_true rfl, Nat.le_of_ble_eq_true rfl⟩) ⟨fun a U g mk q => by obtain ⟨q0, q1, qP, qK, qD⟩ := q; exact ⟨q0, q1, qP, va_K.moved (u := U) (U := U.calling g mk a) (Vm.Alike.refl U.vm) qK, qD⟩, va_recv hK hPc (ci := 2) (q0 := 0) rfl rfl, fun U hU hW => ⟨rfl, by rw [hU], by rw [hU]; exact hPc, va_K.moved hW.alike hK, hDc.weaken (fun _ _ _ _ => trivial)⟩⟩ rfl rfl hl.1 rfl (lv_room (Nat.le_of_ble_eq_true rfl)) dX2_drop_54 ⟨Nat.le_of_ble_eq_true rfl, Nat.le_of_ble_eq_true rfl⟩) hS (fun q _ h => hFc q h) hFc (fun r9 u t H1 locs ht hvm hw hB hz1 hk1 hS => ?_)
      obtain ⟨hP1, -, hD1⟩ := hB
      have hw := And.intro hw trivial
      try dsimp only at hw
      have hw := hw.1
      rw [ht] at hP1
      obtain ⟨hP, hD⟩ := va_join (wr := [(bS, .inl (cI, 34, .inl (upd sM p0.toNatClampNeg ((sM p0.toNatClampNeg) + (1 : Int32)))))]) (w1 := [(y, .inr (2, [.int (0 : Int32), .ref bH, .ref bS, .ref bL, .int mel, .ref bO, .ref bK, .ref bZ, .int sea, .int rnd, .int bas, .int lim, .ref bR, .ref bG, .ref bB, .ref bX])), (bH, .inl (cI, 34, .inl (upd hM p0.toNatClampNeg ((hM p0.toNatClampNeg) - (1 : Int32)))))]) hP hD [0, 1] [2] rfl rfl (by decide) (by decide) hk1 hFc hP1 hD1
      generalize H1 = H at hP hS ⊢
      have hP : va_P (dC, dI) vwCl [(bS, .inl (cI, 34, .inl (upd sM p0.toNatClampNeg ((sM p0.toNatClampNeg) + (1 : Int32))))), (y, .inr (2, [.int (0 : Int32), .ref bH, .ref bS, .ref bL, .int mel, .ref bO, .ref bK, .ref bZ, .int sea, .int rnd, .int bas, .int lim, .ref bR, .ref bG, .ref bB, .ref bX])), (bH, .inl (cI, 34, .inl (upd hM p0.toNatClampNeg ((hM p0.toNatClampNeg) - (1 : Int32)))))] H := hP
      have hD : va_D A [(bS, .inl (cI, 34, .inl (upd sM p0.toNatClampNeg ((sM p0.toNatClampNeg) + (1 : Int32))))), (y, .inr (2, [.int (0 : Int32), .ref bH, .ref bS, .ref bL, .int mel, .ref bO, .ref bK, .ref bZ, .int sea, .int rnd, .int bas, .int lim, .ref bR, .ref bG, .ref bB, .ref bX])), (bH, .inl (cI, 34, .inl (upd hM p0.toNatClampNeg ((hM p0.toNatClampNeg) - (1 : Int32)))))] := hD
      have hP9 := hP.sub (ws' := [(y, .inr (2, [.int (0 : Int32), .ref bH, .ref bS, .ref bL, .int mel, .ref bO, .ref bK, .ref bZ, .int sea, .int rnd, .int bas, .int lim, .ref bR, .ref bG, .ref bB, .ref bX])), (bH, .inl (cI, 34, .inl (upd hM p0.toNatClampNeg ((hM p0.toNatClampNeg) - (1 : Int32))))), (bS, .inl (cI, 34, .inl (upd sM p0.toNatClampNeg ((sM p0.toNatClampNeg) + (1 : Int32)))))]) [1, 2, 0] rfl
      have hD9 := hD.sub (ws' := [(y, .inr (2, [.int (0 : Int32), .ref bH, .ref bS, .ref bL, .int mel, .ref bO, .ref bK, .ref bZ, .int sea, .int rnd, .int bas, .int lim, .ref bR, .ref bG, .ref bB, .ref bX])), (bH, .inl (cI, 34, .inl (upd hM p0.toNatClampNeg ((hM p0.toNatClampNeg) - (1 : Int32))))), (bS, .inl (cI, 34, .inl (upd sM p0.toNatClampNeg ((sM p0.toNatClampNeg) + (1 : Int32)))))]) [1, 2, 0] (by decide) rfl
      rw [← hQ9]
      exact W.iret (v := r9) hx hb hr (fun t ht hW => ⟨⟨r9, ((0 : Int32), upd hM p0.toNatClampNeg ((hM p0.toNatClampNeg) - (1 : Int32)), upd sM p0.toNatClampNeg ((sM p0.toNatClampNeg) + (1 : Int32))), rfl, hw, by rw [ht]; exact hP9, va_K.moved hW.alike hK, hD9⟩, hS.F ht⟩) hS.2.2 dX2_drop_57
    · have hw := hw.1 c4
      refine lv_aload_n hx hb dX2_drop_27 rfl (lv_at hl 0 rfl) ?_
      refine lv_iconst (v := 2) hx hb dX2_drop_28 (by decide) ?_
      have hPc := hP.sub (ws' := [(y, .inr (2, [.int (0 : Int32), .ref bH, .ref bS, .ref bL, .int mel, .ref bO, .ref bK, .ref bZ, .int sea, .int rnd, .int bas, .int lim, .ref bR, .ref bG, .ref bB, .ref bX]))]) [0] rfl
      have hDc := hD.sub (ws' := [(y, .inr (2, [.int (0 : Int32), .ref bH, .ref bS, .ref bL, .int mel, .ref bO, .ref bK, .ref bZ, .int sea, .int rnd, .int bas, .int lim, .ref bR, .ref bG, .ref bB, .ref bX]))]) [0] (by decide) rfl
      have hFc := va_free (wc := [(y, .inr (2, [.int (0 : Int32), .ref bH, .ref bS, .ref bL, .int mel, .ref bO, .ref bK, .ref bZ, .int sea, .int rnd, .int bas, .int lim, .ref bR, .ref bG, .ref bB, .ref bX]))]) hD hS hA [0] rfl
      refine va_calli (va_runV (As := [.int (2 : Int32)]) (rest := []) ⟨hx, hb, hml, hown, hts⟩ (c_X2_fail l dC dI cI cZ y bH bS bL bO bK bZ bR bG bB bX H.size (0 : Int32) mel sea rnd bas lim (2 : Int32) _ hw) (cwV 1 hts gX2_drop_X2_fail rfl rfl rfl (by decide +kernel) ⟨Nat.le_of_ble_eq_true rfl, Nat.le_of_ble_eq_true rfl⟩) ⟨fun a U g mk q => by obtain ⟨q0, q1, qP, qK, qD⟩ := q; exact ⟨q0, q1, qP, va_K.moved (u := U) (U := U.calling g mk a) (Vm.Alike.refl U.vm) qK, qD⟩, va_recv hK hPc (ci := 2) (q0 := 0) rfl rfl, fun U hU hW => ⟨rfl, by rw [hU], by rw [hU]; exact hPc, va_K.moved hW.alike hK, hDc.weaken (fun _ _ _ _ => trivial)⟩⟩ rfl rfl hl.1 rfl (lv_room (Nat.le_of_ble_eq_true rfl)) dX2_drop_29 ⟨Nat.le_of_ble_eq_true rfl, Nat.le_of_ble_eq_true rfl⟩) hS (fun q _ h => hFc q h) hFc (fun r10 u t H1 locs ht hvm hw hB hz1 hk1 hS => ?_)
      obtain ⟨thr_11, rfl⟩ : ∃ z, z = u := ⟨_, rfl⟩
      obtain ⟨hP1, -, hD1⟩ := hB
      have hw := And.intro hw trivial
      try dsimp only at hw
      have hw := hw.1
      rw [ht] at hP1
      obtain ⟨hP, hD⟩ := va_join (wr := [(bH, .inl (cI, 34, .inl hM)), (bS, .inl (cI, 34, .inl sM))]) (w1 := [(y, .inr (2, [.int thr_11, .ref bH, .ref bS, .ref bL, .int mel, .ref bO, .ref bK, .ref bZ, .int sea, .int rnd, .int bas, .int lim, .ref bR, .ref bG, .ref bB, .ref bX]))]) hP hD [0] [1, 2] rfl rfl (by decide) (by decide) hk1 hFc hP1 hD1
      generalize H1 = H at hP hS ⊢
      have hP : va_P (dC, dI) vwCl [(bH, .inl (cI, 34, .inl hM)), (bS, .inl (cI, 34, .inl sM)), (y, .inr (2, [.int thr_11, .ref bH, .ref bS, .ref bL, .int mel, .ref bO, .ref bK, .ref bZ, .int sea, .int rnd, .int bas, .int lim, .ref bR, .ref bG, .ref bB, .ref bX]))] H := hP
      have hD : va_D A [(bH, .inl (cI, 34, .inl hM)), (bS, .inl (cI, 34, .inl sM)), (y, .inr (2, [.int thr_11, .ref bH, .ref bS, .ref bL, .int mel, .ref bO, .ref bK, .ref bZ, .int sea, .int rnd, .int bas, .int lim, .ref bR, .ref bG, .ref bB, .ref bX]))] := hD
      have hP9 := hP.sub (ws' := [(y, .inr (2, [.int thr_11, .ref bH, .ref bS, .ref bL, .int mel, .ref bO, .ref bK, .ref bZ, .int sea, .int rnd, .int bas, .int lim, .ref bR, .ref bG, .ref bB, .ref bX])), (bH, .inl (cI, 34, .inl hM)), (bS, .inl (cI, 34, .inl sM))]) [2, 0, 1] rfl
      have hD9 := hD.sub (ws' := [(y, .inr (2, [.int thr_11, .ref bH, .ref bS, .ref bL, .int mel, .ref bO, .ref bK, .ref bZ, .int sea, .int rnd, .int bas, .int lim, .ref bR, .ref bG, .ref bB, .ref bX])), (bH, .inl (cI, 34, .inl hM)), (bS, .inl (cI, 34, .inl sM))]) [2, 0, 1] (by decide) rfl
      rw [← hQ9]
      exact W.iret (v := r10) hx hb hr (fun t ht hW => ⟨⟨r10, (thr_11, hM, sM), rfl, hw, by rw [ht]; exact hP9, va_K.moved hW.alike hK, hD9⟩, hS.F ht⟩) hS.2.2 dX2_drop_32
  · have hw := hw.1 c2
    refine lv_aload_n hx hb dX2_drop_12 rfl (lv_at hl 0 rfl) ?_
    refine lv_iconst (v := 1) hx hb dX2_drop_13 (by decide) ?_
    have hPc := hP.sub (ws' := [(y, .inr (2, [.int (0 : Int32), .ref bH, .ref bS, .ref bL, .int mel, .ref bO, .ref bK, .ref bZ, .int sea, .int rnd, .int bas, .int lim, .ref bR, .ref bG, .ref bB, .ref bX]))]) [0] rfl
    have hDc := hD.sub (ws' := [(y, .inr (2, [.int (0 : Int32), .ref bH, .ref bS, .ref bL, .int mel, .ref bO, .ref bK, .ref bZ, .int sea, .int rnd, .int bas, .int lim, .ref bR, .ref bG, .ref bB, .ref bX]))]) [0] (by decide) rfl
    have hFc := va_free (wc := [(y, .inr (2, [.int (0 : Int32), .ref bH, .ref bS, .ref bL, .int mel, .ref bO, .ref bK, .ref bZ, .int sea, .int rnd, .int bas, .int lim, .ref bR, .ref bG, .ref bB, .ref bX]))]) hD hS hA [0] rfl
    refine va_calli (va_runV (As := [.int (1 : Int32)]) (rest := []) ⟨hx, hb, hml, hown, hts⟩ (c_X2_fail l dC dI cI cZ y bH bS bL bO bK bZ bR bG bB bX H.size (0 : Int32) mel sea rnd bas lim (1 : Int32) _ hw) (cwV 1 hts gX2_drop_X2_fail rfl rfl rfl (by decide +kernel) ⟨Nat.le_of_ble_eq_true rfl, Nat.le_of_ble_eq_true rfl⟩) ⟨fun a U g mk q => by obtain ⟨q0, q1, qP, qK, qD⟩ := q; exact ⟨q0, q1, qP, va_K.moved (u := U) (U := U.calling g mk a) (Vm.Alike.refl U.vm) qK, qD⟩, va_recv hK hPc (ci := 2) (q0 := 0) rfl rfl, fun U hU hW => ⟨rfl, by rw [hU], by rw [hU]; exact hPc, va_K.moved hW.alike hK, hDc.weaken (fun _ _ _ _ => trivial)⟩⟩ rfl rfl hl.1 rfl (lv_room (Nat.le_of_ble_eq_true rfl)) dX2_drop_14 ⟨Nat.le_of_ble_eq_true rfl, Nat.le_of_ble_eq_true rfl⟩) hS (fun q _ h => hFc q h) hFc (fun r12 u t H1 locs ht hvm hw hB hz1 hk1 hS => ?_)
    obtain ⟨thr_13, rfl⟩ : ∃ z, z = u := ⟨_, rfl⟩
    obtain ⟨hP1, -, hD1⟩ := hB
    have hw := And.intro hw trivial
    try dsimp only at hw
    have hw := hw.1
    rw [ht] at hP1
    obtain ⟨hP, hD⟩ := va_join (wr := [(bH, .inl (cI, 34, .inl hM)), (bS, .inl (cI, 34, .inl sM))]) (w1 := [(y, .inr (2, [.int thr_13, .ref bH, .ref bS, .ref bL, .int mel, .ref bO, .ref bK, .ref bZ, .int sea, .int rnd, .int bas, .int lim, .ref bR, .ref bG, .ref bB, .ref bX]))]) hP hD [0] [1, 2] rfl rfl (by decide) (by decide) hk1 hFc hP1 hD1
    generalize H1 = H at hP hS ⊢
    have hP : va_P (dC, dI) vwCl [(bH, .inl (cI, 34, .inl hM)), (bS, .inl (cI, 34, .inl sM)), (y, .inr (2, [.int thr_13, .ref bH, .ref bS, .ref bL, .int mel, .ref bO, .ref bK, .ref bZ, .int sea, .int rnd, .int bas, .int lim, .ref bR, .ref bG, .ref bB, .ref bX]))] H := hP
    have hD : va_D A [(bH, .inl (cI, 34, .inl hM)), (bS, .inl (cI, 34, .inl sM)), (y, .inr (2, [.int thr_13, .ref bH, .ref bS, .ref bL, .int mel, .ref bO, .ref bK, .ref bZ, .int sea, .int rnd, .int bas, .int lim, .ref bR, .ref bG, .ref bB, .ref bX]))] := hD
    have hP9 := hP.sub (ws' := [(y, .inr (2, [.int thr_13, .ref bH, .ref bS, .ref bL, .int mel, .ref bO, .ref bK, .ref bZ, .int sea, .int rnd, .int bas, .int lim, .ref bR, .ref bG, .ref bB, .ref bX])), (bH, .inl (cI, 34, .inl hM)), (bS, .inl (cI, 34, .inl sM))]) [2, 0, 1] rfl
    have hD9 := hD.sub (ws' := [(y, .inr (2, [.int thr_13, .ref bH, .ref bS, .ref bL, .int mel, .ref bO, .ref bK, .ref bZ, .int sea, .int rnd, .int bas, .int lim, .ref bR, .ref bG, .ref bB, .ref bX])), (bH, .inl (cI, 34, .inl hM)), (bS, .inl (cI, 34, .inl sM))]) [2, 0, 1] (by decide) rfl
    rw [← hQ9]
    exact W.iret (v := r12) hx hb hr (fun t ht hW => ⟨⟨r12, (thr_13, hM, sM), rfl, hw, by rw [ht]; exact hP9, va_K.moved hW.alike hK, hD9⟩, hS.F ht⟩) hS.2.2 dX2_drop_17

def w_X2_see (thr : Int32) (hM : (Nat → Int32)) (sM : (Nat → Int32)) (lM : (Nat → Int32)) (p0 : Int32) (post : Int32 → Int32 → (Nat → Int32) → Prop) : Prop := w_X2_isKind p0 (fun r1 => (((r1 = 0 → (w_X2_fail (0 : Int32) (1 : Int32) (fun r10 thr_11 => (post r10 thr_11 sM)))) ∧ (¬ r1 = 0 → (w_X2_left hM sM lM p0 (fun r3 => (((r3 = 0 → (w_X2_fail (0 : Int32) (2 : Int32) (fun r8 thr_9 => (post r8 thr_9 sM)))) ∧ (¬ r3 = 0 → (vp_in p0 34 ∧ (vp_in p0 34 ∧ (w_X2_left hM (upd sM p0.toNatClampNeg ((sM p0.toNatClampNeg) + (1 : Int32))) lM p0 (fun r7 => (post r7 (0 : Int32) (upd sM p0.toNatClampNeg ((sM p0.toNatClampNeg) + (1 : Int32)))))))))))))))))

set_option maxHeartbeats 4000000 in
set_option maxRecDepth 100000 in
theorem c_X2_see (l : Launch) (dC : Nat → ClassId) (dI : Nat → Nat → Nat) (cI cZ : ClassId) (y : Nat) (bH : Nat) (bS : Nat) (bL : Nat) (bO : Nat) (bK : Nat) (bZ : Nat) (bR : Nat) (bG : Nat) (bB : Nat) (bX : Nat) (sz : Nat) (thr : Int32) (mel : Int32) (sea : Int32) (rnd : Int32) (bas : Int32) (lim : Int32) (hM : (Nat → Int32)) (sM : (Nat → Int32)) (lM : (Nat → Int32)) (p0 : Int32) (post : Int32 → Int32 → (Nat → Int32) → Prop) (hw : w_X2_see thr hM sM lM p0 post) : Met l yX2_see wsX2_see ({ frames := 3, cells := 0, slots := 0, locals := 60 } : Room) (va_Pc [.ref y, .int p0] (fun U => U.heap.size = sz ∧ va_P (dC, dI) vwCl [(y, .inr (2, [.int thr, .ref bH, .ref bS, .ref bL, .int mel, .ref bO, .ref bK, .ref bZ, .int sea, .int rnd, .int bas, .int lim, .ref bR, .ref bG, .ref bB, .ref bX])), (bH, .inl (cI, 34, .inl hM)), (bS, .inl (cI, 34, .inl sM)), (bL, .inl (cI, 34, .inl lM))] U.heap ∧ va_K (dC, dI) vwCl [(cI, .int), (cZ, .boolean)] U ∧ va_D (fun _ => True) [(y, .inr (2, [.int thr, .ref bH, .ref bS, .ref bL, .int mel, .ref bO, .ref bK, .ref bZ, .int sea, .int rnd, .int bas, .int lim, .ref bR, .ref bG, .ref bB, .ref bX])), (bH, .inl (cI, 34, .inl hM)), (bS, .inl (cI, 34, .inl sM)), (bL, .inl (cI, 34, .inl lM))])) (va_Qi (fun (r9 : Int32) (u9 : Int32 × (Nat → Int32)) => post r9 u9.1 u9.2) (fun (u9 : Int32 × (Nat → Int32)) (t9 : State) => va_P (dC, dI) vwCl [(y, .inr (2, [.int u9.1, .ref bH, .ref bS, .ref bL, .int mel, .ref bO, .ref bK, .ref bZ, .int sea, .int rnd, .int bas, .int lim, .ref bR, .ref bG, .ref bB, .ref bX])), (bH, .inl (cI, 34, .inl hM)), (bS, .inl (cI, 34, .inl u9.2)), (bL, .inl (cI, 34, .inl lM))] t9.heap ∧ va_K (dC, dI) vwCl [(cI, .int), (cZ, .boolean)] t9 ∧ va_D (va_A [(y, .inr (2, [.int thr, .ref bH, .ref bS, .ref bL, .int mel, .ref bO, .ref bK, .ref bZ, .int sea, .int rnd, .int bas, .int lim, .ref bR, .ref bG, .ref bB, .ref bX])), (bH, .inl (cI, 34, .inl hM)), (bS, .inl (cI, 34, .inl sM)), (bL, .inl (cI, 34, .inl lM))] sz) [(y, .inr (2, [.int u9.1, .ref bH, .ref bS, .ref bL, .int mel, .ref bO, .ref bK, .ref bZ, .int sea, .int rnd, .int bas, .int lim, .ref bR, .ref bG, .ref bB, .ref bX])), (bH, .inl (cI, 34, .inl hM)), (bS, .inl (cI, 34, .inl u9.2)), (bL, .inl (cI, 34, .inl lM))]) (va_A [(y, .inr (2, [.int thr, .ref bH, .ref bS, .ref bL, .int mel, .ref bO, .ref bK, .ref bZ, .int sea, .int rnd, .int bas, .int lim, .ref bR, .ref bG, .ref bB, .ref bX])), (bH, .inl (cI, 34, .inl hM)), (bS, .inl (cI, 34, .inl sM)), (bL, .inl (cI, 34, .inl lM))] sz)) 0 0 (va_A [(y, .inr (2, [.int thr, .ref bH, .ref bS, .ref bL, .int mel, .ref bO, .ref bK, .ref bZ, .int sea, .int rnd, .int bas, .int lim, .ref bR, .ref bG, .ref bB, .ref bX])), (bH, .inl (cI, 34, .inl hM)), (bS, .inl (cI, 34, .inl sM)), (bL, .inl (cI, 34, .inl lM))] sz) := by
  refine Met.ofW (cc := cX2_see) (maxL := 2) (ret := (some .int)) (by decide) rfl ?_
  intro p e s m args below meth c s₁ B hml hv
  obtain ⟨rfl, hsz, hP, hK, hD0⟩ := hv
  have hx := B.exec
  have hb := B.bytes
  have hr := B.returns
  have hts := atoms_spec (ws := wsX2_see) B.pre
  have hown : s.vm.findClass RX2 = some m.cls := findClass_of_methodNamed B.named
  have hlocks := B.notSynchronized
  have hinX2 : ∀ w ∈ u_ws RX2 TX2 16, w ∈ wsX2_see := by decide +kernel
  subst hsz
  have hD := hD0.self (sz := s.heap.size)
  generalize hAe : va_A [(y, .inr (2, [.int thr, .ref bH, .ref bS, .ref bL, .int mel, .ref bO, .ref bK, .ref bZ, .int sea, .int rnd, .int bas, .int lim, .ref bR, .ref bG, .ref bB, .ref bX])), (bH, .inl (cI, 34, .inl hM)), (bS, .inl (cI, 34, .inl sM)), (bL, .inl (cI, 34, .inl lM))] s.heap.size = A at hD ⊢
  have hA : ∀ q : Nat, s.heap.size ≤ q → A q := fun q h => by rw [← hAe]; exact Or.inr h
  have hS : va_S A s.heap s.heap [] := va_S.rf
  have hl := lv_entry ([.ref y, .int p0]) (n := 2) (Nat.le_of_ble_eq_true rfl)
  rw [lg_entry_eq]
  generalize (lg_sl ([.ref y, .int p0]) ++ List.replicate (2 - (lg_sl ([.ref y, .int p0])).length) Slot.unset).toArray = ls at hl ⊢
  have hl : lv_has ls 2 [(0, .ref y), (1, .int p0)] := hl
  refine (?_ : ∀ Q9 : State → Prop, MQ below _ _ s _ _ _ = Q9 → W p l e ({ frames := 3, cells := 0, slots := 0, locals := 60 } : Room) s m _ below meth c s.heap [] 0 0 Q9 (F0 m 0 ls [])) _ rfl
  intro Q9 hQ9
  have hw : w_X2_isKind p0 (fun r1 => (((r1 = 0 → (w_X2_fail (0 : Int32) (1 : Int32) (fun r10 thr_11 => (post r10 thr_11 sM)))) ∧ (¬ r1 = 0 → (w_X2_left hM sM lM p0 (fun r3 => (((r3 = 0 → (w_X2_fail (0 : Int32) (2 : Int32) (fun r8 thr_9 => (post r8 thr_9 sM)))) ∧ (¬ r3 = 0 → (vp_in p0 34 ∧ (vp_in p0 34 ∧ (w_X2_left hM (upd sM p0.toNatClampNeg ((sM p0.toNatClampNeg) + (1 : Int32))) lM p0 (fun r7 => (post r7 (0 : Int32) (upd sM p0.toNatClampNeg ((sM p0.toNatClampNeg) + (1 : Int32))))))))))))))))) := hw
  refine lv_aload_n hx hb dX2_see_0 rfl (lv_at hl 0 rfl) ?_
  refine lv_iconst (v := 0) hx hb dX2_see_1 (by decide) ?_
  refine va_put (D := (dC, dI)) (ci := 2) (v := .int (0 : Int32)) (ty := .int) (C := RX2) (T := TX2) (N := 16) hx hb hts hinX2 tyX2 tyX2_ok nmX2 hown hK hP hD hS 0 rfl rfl 0 (by decide) (hts (.fieldLink RX2 54 "TileHandModel" "thrown" "I") (by decide +kernel)) (fun _ h9 => h9) rfl (by decide +kernel) rfl rfl (Nat.le_of_ble_eq_true rfl) dX2_see_2 (fun H locs hP hD hS => ?_)
  have hP : va_P (dC, dI) vwCl [(y, .inr (2, [.int (0 : Int32), .ref bH, .ref bS, .ref bL, .int mel, .ref bO, .ref bK, .ref bZ, .int sea, .int rnd, .int bas, .int lim, .ref bR, .ref bG, .ref bB, .ref bX])), (bH, .inl (cI, 34, .inl hM)), (bS, .inl (cI, 34, .inl sM)), (bL, .inl (cI, 34, .inl lM))] H := hP
  have hD : va_D A [(y, .inr (2, [.int (0 : Int32), .ref bH, .ref bS, .ref bL, .int mel, .ref bO, .ref bK, .ref bZ, .int sea, .int rnd, .int bas, .int lim, .ref bR, .ref bG, .ref bB, .ref bX])), (bH, .inl (cI, 34, .inl hM)), (bS, .inl (cI, 34, .inl sM)), (bL, .inl (cI, 34, .inl lM))] := hD
  refine lv_iload_n hx hb dX2_see_5 rfl (lv_at hl 1 rfl) ?_
  have hPc := hP.sub (ws' := []) [] rfl
  have hDc := hD.sub (ws' := []) [] (by decide) rfl
  have hFc := va_free (wc := []) hD hS hA [] rfl
  refine va_calli (va_runS (As := [.int p0]) (rest := []) ⟨hx, hb, hml, hown, hts⟩ (c_X2_isKind l dC dI cI cZ H.size p0 _ hw) (va_cwS 1 hts gX2_see_X2_isKind rfl rfl rfl (by decide +kernel) ⟨Nat.le_of_ble_eq_true rfl, Nat.le_of_ble_eq_true rfl⟩) ⟨fun a U g mk q => by obtain ⟨q0, q1, qP, qK, qD⟩ := q; exact ⟨q0, q1, qP, va_K.moved (u := U) (U := U.calling g mk a) (Vm.Alike.refl U.vm) qK, qD⟩, fun U hU hW => ⟨rfl, by rw [hU], by rw [hU]; exact hPc, va_K.moved hW.alike hK, hDc.weaken (fun _ _ _ _ => trivial)⟩⟩ rfl rfl hl.1 rfl (lv_room (Nat.le_of_ble_eq_true rfl)) dX2_see_6 ⟨Nat.le_of_ble_eq_true rfl, Nat.le_of_ble_eq_true rfl⟩) hS (fun q _ h => hFc q h) hFc (fun r1 u t H1 locs ht hvm hw hB hz1 hk1 hS => ?_)
  obtain ⟨hP1, -, hD1⟩ := hB
  have hw := And.intro hw trivial
  try dsimp only at hw
  have hw := hw.1
  rw [ht] at hP1
  obtain ⟨hP, hD⟩ := va_join (wr := [(y, .inr (2, [.int (0 : Int32), .ref bH, .ref bS, .ref bL, .int mel, .ref bO, .ref bK, .ref bZ, .int sea, .int rnd, .int bas, .int lim, .ref bR, .ref bG, .ref bB, .ref bX])), (bH, .inl (cI, 34, .inl hM)), (bS, .inl (cI, 34, .inl sM)), (bL, .inl (cI, 34, .inl lM))]) (w1 := []) hP hD [] [0, 1, 2, 3] rfl rfl (by decide) (by decide) hk1 hFc hP1 hD1
  generalize H1 = H at hP hS ⊢
  have hP : va_P (dC, dI) vwCl [(y, .inr (2, [.int (0 : Int32), .ref bH, .ref bS, .ref bL, .int mel, .ref bO, .ref bK, .ref bZ, .int sea, .int rnd, .int bas, .int lim, .ref bR, .ref bG, .ref bB, .ref bX])), (bH, .inl (cI, 34, .inl hM)), (bS, .inl (cI, 34, .inl sM)), (bL, .inl (cI, 34, .inl lM))] H := hP
  have hD : va_D A [(y, .inr (2, [.int (0 : Int32), .ref bH, .ref bS, .ref bL, .int mel, .ref bO, .ref bK, .ref bZ, .int sea, .int rnd, .int bas, .int lim, .ref bR, .ref bG, .ref bB, .ref bX])), (bH, .inl (cI, 34, .inl hM)), (bS, .inl (cI, 34, .inl sM)), (bL, .inl (cI, 34, .inl lM))] := hD
  refine lv_if_ne (tgt := 18) hx hb dX2_see_9 (by decide) (fun c2 => ?_) (fun c2 => ?_)
  · have hw := hw.2 c2
    refine lv_aload_n hx hb dX2_see_18 rfl (lv_at hl 0 rfl) ?_
    refine lv_iload_n hx hb dX2_see_19 rfl (lv_at hl 1 rfl) ?_
    have hPc := hP.sub (ws' := [(y, .inr (2, [.int (0 : Int32), .ref bH, .ref bS, .ref bL, .int mel, .ref bO, .ref bK, .ref bZ, .int sea, .int rnd, .int bas, .int lim, .ref bR, .ref bG, .ref bB, .ref bX])), (bH, .inl (cI, 34, .inl hM)), (bS, .inl (cI, 34, .inl sM)), (bL, .inl (cI, 34, .inl lM))]) [0, 1, 2, 3] rfl
    have hDc := hD.sub (ws' := [(y, .inr (2, [.int (0 : Int32), .ref bH, .ref bS, .ref bL, .int mel, .ref bO, .ref bK, .ref bZ, .int sea, .int rnd, .int bas, .int lim, .ref bR, .ref bG, .ref bB, .ref bX])), (bH, .inl (cI, 34, .inl hM)), (bS, .inl (cI, 34, .inl sM)), (bL, .inl (cI, 34, .inl lM))]) [0, 1, 2, 3] (by decide) rfl
    have hFc := va_free (wc := [(y, .inr (2, [.int (0 : Int32), .ref bH, .ref bS, .ref bL, .int mel, .ref bO, .ref bK, .ref bZ, .int sea, .int rnd, .int bas, .int lim, .ref bR, .ref bG, .ref bB, .ref bX])), (bH, .inl (cI, 34, .inl hM)), (bS, .inl (cI, 34, .inl sM)), (bL, .inl (cI, 34, .inl lM))]) hD hS hA [0, 1, 2, 3] rfl
    refine va_calli (va_runV (As := [.int p0]) (rest := []) ⟨hx, hb, hml, hown, hts⟩ (c_X2_left l dC dI cI cZ y bH bS bL bO bK bZ bR bG bB bX H.size (0 : Int32) mel sea rnd bas lim hM sM lM p0 _ hw) (cwV 1 hts gX2_see_X2_left rfl rfl rfl (by decide +kernel) ⟨Nat.le_of_ble_eq_true rfl, Nat.le_of_ble_eq_true rfl⟩) ⟨fun a U g mk q => by obtain ⟨q0, q1, qP, qK, qD⟩ := q; exact ⟨q0, q1, qP, va_K.moved (u := U) (U := U.calling g mk a) (Vm.Alike.refl U.vm) qK, qD⟩, va_recv hK hPc (ci := 2) (q0 := 0) rfl rfl, fun U hU hW => ⟨rfl, by rw [hU], by rw [hU]; exact hPc, va_K.moved hW.alike hK, hDc.weaken (fun _ _ _ _ => trivial)⟩⟩ rfl rfl hl.1 rfl (lv_room (Nat.le_of_ble_eq_true rfl)) dX2_see_20 ⟨Nat.le_of_ble_eq_true rfl, Nat.le_of_ble_eq_true rfl⟩) hS (fun q _ h => hFc q h) hFc (fun r3 u t H1 locs ht hvm hw hB hz1 hk1 hS => ?_)
    obtain ⟨hP1, -, hD1⟩ := hB
    have hw := And.intro hw trivial
    try dsimp only at hw
    have hw := hw.1
    rw [ht] at hP1
    obtain ⟨hP, hD⟩ := va_join (wr := []) (w1 := [(y, .inr (2, [.int (0 : Int32), .ref bH, .ref bS, .ref bL, .int mel, .ref bO, .ref bK, .ref bZ, .int sea, .int rnd, .int bas, .int lim, .ref bR, .ref bG, .ref bB, .ref bX])), (bH, .inl (cI, 34, .inl hM)), (bS, .inl (cI, 34, .inl sM)), (bL, .inl (cI, 34, .inl lM))]) hP hD [0, 1, 2, 3] [] rfl rfl (by decide) (by decide) hk1 hFc hP1 hD1
    generalize H1 = H at hP hS ⊢
    have hP : va_P (dC, dI) vwCl [(y, .inr (2, [.int (0 : Int32), .ref bH, .ref bS, .ref bL, .int mel, .ref bO, .ref bK, .ref bZ, .int sea, .int rnd, .int bas, .int lim, .ref bR, .ref bG, .ref bB, .ref bX])), (bH, .inl (cI, 34, .inl hM)), (bS, .inl (cI, 34, .inl sM)), (bL, .inl (cI, 34, .inl lM))] H := hP
    have hD : va_D A [(y, .inr (2, [.int (0 : Int32), .ref bH, .ref bS, .ref bL, .int mel, .ref bO, .ref bK, .ref bZ, .int sea, .int rnd, .int bas, .int lim, .ref bR, .ref bG, .ref bB, .ref bX])), (bH, .inl (cI, 34, .inl hM)), (bS, .inl (cI, 34, .inl sM)), (bL, .inl (cI, 34, .inl lM))] := hD
    refine lv_if_ne (tgt := 32) hx hb dX2_see_23 (by decide) (fun c4 => ?_) (fun c4 => ?_)
    · have hw := hw.2 c4
      refine lv_aload_n hx hb dX2_see_32 rfl (lv_at hl 0 rfl) ?_
      refine va_get (D := (dC, dI)) (ci := 2) (v := .ref bS) (C := RX2) (T := TX2) (N := 16) hx hb hts hinX2 hown hK hP 0 rfl rfl 2 (by decide) (hts (.fieldLink RX2 13 "TileHandModel" "seen" "[I") (by decide +kernel)) (fun _ h9 => h9) rfl dX2_see_33 ?_
      refine lv_iload_n hx hb dX2_see_36 rfl (lv_at hl 1 rfl) ?_
      refine lv_dup2_11 hx hb dX2_see_37 rfl rfl ?_
      obtain ⟨h5, hw⟩ := hw
      refine va_iald hx hb hK hP 2 0 rfl rfl h5 dX2_see_38 ?_
      refine lv_iconst (v := 1) hx hb dX2_see_39 (by decide) ?_
      refine lv_iadd hx hb dX2_see_40 ?_
      obtain ⟨h6, hw⟩ := hw
      refine va_iast hx hb hK hP hD hS 2 0 rfl rfl h6 dX2_see_41 (fun H locs hP hD hS => ?_)
      have hP : va_P (dC, dI) vwCl [(y, .inr (2, [.int (0 : Int32), .ref bH, .ref bS, .ref bL, .int mel, .ref bO, .ref bK, .ref bZ, .int sea, .int rnd, .int bas, .int lim, .ref bR, .ref bG, .ref bB, .ref bX])), (bH, .inl (cI, 34, .inl hM)), (bS, .inl (cI, 34, .inl (upd sM p0.toNatClampNeg ((sM p0.toNatClampNeg) + (1 : Int32))))), (bL, .inl (cI, 34, .inl lM))] H := hP
      have hD : va_D A [(y, .inr (2, [.int (0 : Int32), .ref bH, .ref bS, .ref bL, .int mel, .ref bO, .ref bK, .ref bZ, .int sea, .int rnd, .int bas, .int lim, .ref bR, .ref bG, .ref bB, .ref bX])), (bH, .inl (cI, 34, .inl hM)), (bS, .inl (cI, 34, .inl (upd sM p0.toNatClampNeg ((sM p0.toNatClampNeg) + (1 : Int32))))), (bL, .inl (cI, 34, .inl lM))] := hD
      refine lv_aload_n hx hb dX2_see_42 rfl (lv_at hl 0 rfl) ?_
      refine lv_iload_n hx hb dX2_see_43 rfl (lv_at hl 1 rfl) ?_
      have hPc := hP.sub (ws' := [(y, .inr (2, [.int (0 : Int32), .ref bH, .ref bS, .ref bL, .int mel, .ref bO, .ref bK, .ref bZ, .int sea, .int rnd, .int bas, .int lim, .ref bR, .ref bG, .ref bB, .ref bX])), (bH, .inl (cI, 34, .inl hM)), (bS, .inl (cI, 34, .inl (upd sM p0.toNatClampNeg ((sM p0.toNatClampNeg) + (1 : Int32))))), (bL, .inl (cI, 34, .inl lM))]) [0, 1, 2, 3] rfl
      have hDc := hD.sub (ws' := [(y, .inr (2, [.int (0 : Int32), .ref bH, .ref bS, .ref bL, .int mel, .ref bO, .ref bK, .ref bZ, .int sea, .int rnd, .int bas, .int lim, .ref bR, .ref bG, .ref bB, .ref bX])), (bH, .inl (cI, 34, .inl hM)), (bS, .inl (cI, 34, .inl (upd sM p0.toNatClampNeg ((sM p0.toNatClampNeg) + (1 : Int32))))), (bL, .inl (cI, 34, .inl lM))]) [0, 1, 2, 3] (by decide) rfl
      have hFc := va_free (wc := [(y, .inr (2, [.int (0 : Int32), .ref bH, .ref bS, .ref bL, .int mel, .ref bO, .ref bK, .ref bZ, .int sea, .int rnd, .int bas, .int lim, .ref bR, .ref bG, .ref bB, .ref bX])), (bH, .inl (cI, 34, .inl hM)), (bS, .inl (cI, 34, .inl (upd sM p0.toNatClampNeg ((sM p0.toNatClampNeg) + (1 : Int32))))), (bL, .inl (cI, 34, .inl lM))]) hD hS hA [0, 1, 2, 3] rfl
      refine va_calli (va_runV (As := [.int p0]) (rest := []) ⟨hx, hb, hml, hown, hts⟩ (c_X2_left l dC dI cI cZ y bH bS bL bO bK bZ bR bG bB bX H.size (0 : Int32) mel sea rnd bas lim hM (upd sM p0.toNatClampNeg ((sM p0.toNatClampNeg) + (1 : Int32))) lM p0 _ hw) (cwV 1 hts gX2_see_X2_left rfl rfl rfl (by decide +kernel) ⟨Nat.le_of_ble_eq_true rfl, Nat.le_of_ble_eq_true rfl⟩) ⟨fun a U g mk q => by obtain ⟨q0, q1, qP, qK, qD⟩ := q; exact ⟨q0, q1, qP, va_K.moved (u := U) (U := U.calling g mk a) (Vm.Alike.refl U.vm) qK, qD⟩, va_recv hK hPc (ci := 2) (q0 := 0) rfl rfl, fun U hU hW => ⟨rfl, by rw [hU], by rw [hU]; exact hPc, va_K.moved hW.alike hK, hDc.weaken (fun _ _ _ _ => trivial)⟩⟩ rfl rfl hl.1 rfl (lv_room (Nat.le_of_ble_eq_true rfl)) dX2_see_44 ⟨Nat.le_of_ble_eq_true rfl, Nat.le_of_ble_eq_true rfl⟩) hS (fun q _ h => hFc q h) hFc (fun r7 u t H1 locs ht hvm hw hB hz1 hk1 hS => ?_)
      obtain ⟨hP1, -, hD1⟩ := hB
      have hw := And.intro hw trivial
      try dsimp only at hw
      have hw := hw.1
      rw [ht] at hP1
      obtain ⟨hP, hD⟩ := va_join (wr := []) (w1 := [(y, .inr (2, [.int (0 : Int32), .ref bH, .ref bS, .ref bL, .int mel, .ref bO, .ref bK, .ref bZ, .int sea, .int rnd, .int bas, .int lim, .ref bR, .ref bG, .ref bB, .ref bX])), (bH, .inl (cI, 34, .inl hM)), (bS, .inl (cI, 34, .inl (upd sM p0.toNatClampNeg ((sM p0.toNatClampNeg) + (1 : Int32))))), (bL, .inl (cI, 34, .inl lM))]) hP hD [0, 1, 2, 3] [] rfl rfl (by decide) (by decide) hk1 hFc hP1 hD1
      generalize H1 = H at hP hS ⊢
      have hP : va_P (dC, dI) vwCl [(y, .inr (2, [.int (0 : Int32), .ref bH, .ref bS, .ref bL, .int mel, .ref bO, .ref bK, .ref bZ, .int sea, .int rnd, .int bas, .int lim, .ref bR, .ref bG, .ref bB, .ref bX])), (bH, .inl (cI, 34, .inl hM)), (bS, .inl (cI, 34, .inl (upd sM p0.toNatClampNeg ((sM p0.toNatClampNeg) + (1 : Int32))))), (bL, .inl (cI, 34, .inl lM))] H := hP
      have hD : va_D A [(y, .inr (2, [.int (0 : Int32), .ref bH, .ref bS, .ref bL, .int mel, .ref bO, .ref bK, .ref bZ, .int sea, .int rnd, .int bas, .int lim, .ref bR, .ref bG, .ref bB, .ref bX])), (bH, .inl (cI, 34, .inl hM)), (bS, .inl (cI, 34, .inl (upd sM p0.toNatClampNeg ((sM p0.toNatClampNeg) + (1 : Int32))))), (bL, .inl (cI, 34, .inl lM))] := hD
      rw [← hQ9]
      exact W.iret (v := r7) hx hb hr (fun t ht hW => ⟨⟨r7, ((0 : Int32), upd sM p0.toNatClampNeg ((sM p0.toNatClampNeg) + (1 : Int32))), rfl, hw, by rw [ht]; exact hP, va_K.moved hW.alike hK, hD⟩, hS.F ht⟩) hS.2.2 dX2_see_47
    · have hw := hw.1 c4
      refine lv_aload_n hx hb dX2_see_26 rfl (lv_at hl 0 rfl) ?_
      refine lv_iconst (v := 2) hx hb dX2_see_27 (by decide) ?_
      have hPc := hP.sub (ws' := [(y, .inr (2, [.int (0 : Int32), .ref bH, .ref bS, .ref bL, .int mel, .ref bO, .ref bK, .ref bZ, .int sea, .int rnd, .int bas, .int lim, .ref bR, .ref bG, .ref bB, .ref bX]))]) [0] rfl
      have hDc := hD.sub (ws' := [(y, .inr (2, [.int (0 : Int32), .ref bH, .ref bS, .ref bL, .int mel, .ref bO, .ref bK, .ref bZ, .int sea, .int rnd, .int bas, .int lim, .ref bR, .ref bG, .ref bB, .ref bX]))]) [0] (by decide) rfl
      have hFc := va_free (wc := [(y, .inr (2, [.int (0 : Int32), .ref bH, .ref bS, .ref bL, .int mel, .ref bO, .ref bK, .ref bZ, .int sea, .int rnd, .int bas, .int lim, .ref bR, .ref bG, .ref bB, .ref bX]))]) hD hS hA [0] rfl
      refine va_calli (va_runV (As := [.int (2 : Int32)]) (rest := []) ⟨hx, hb, hml, hown, hts⟩ (c_X2_fail l dC dI cI cZ y bH bS bL bO bK bZ bR bG bB bX H.size (0 : Int32) mel sea rnd bas lim (2 : Int32) _ hw) (cwV 1 hts gX2_see_X2_fail rfl rfl rfl (by decide +kernel) ⟨Nat.le_of_ble_eq_true rfl, Nat.le_of_ble_eq_true rfl⟩) ⟨fun a U g mk q => by obtain ⟨q0, q1, qP, qK, qD⟩ := q; exact ⟨q0, q1, qP, va_K.moved (u := U) (U := U.calling g mk a) (Vm.Alike.refl U.vm) qK, qD⟩, va_recv hK hPc (ci := 2) (q0 := 0) rfl rfl, fun U hU hW => ⟨rfl, by rw [hU], by rw [hU]; exact hPc, va_K.moved hW.alike hK, hDc.weaken (fun _ _ _ _ => trivial)⟩⟩ rfl rfl hl.1 rfl (lv_room (Nat.le_of_ble_eq_true rfl)) dX2_see_28 ⟨Nat.le_of_ble_eq_true rfl, Nat.le_of_ble_eq_true rfl⟩) hS (fun q _ h => hFc q h) hFc (fun r8 u t H1 locs ht hvm hw hB hz1 hk1 hS => ?_)
      obtain ⟨thr_9, rfl⟩ : ∃ z, z = u := ⟨_, rfl⟩
      obtain ⟨hP1, -, hD1⟩ := hB
      have hw := And.intro hw trivial
      try dsimp only at hw
      have hw := hw.1
      rw [ht] at hP1
      obtain ⟨hP, hD⟩ := va_join (wr := [(bH, .inl (cI, 34, .inl hM)), (bS, .inl (cI, 34, .inl sM)), (bL, .inl (cI, 34, .inl lM))]) (w1 := [(y, .inr (2, [.int thr_9, .ref bH, .ref bS, .ref bL, .int mel, .ref bO, .ref bK, .ref bZ, .int sea, .int rnd, .int bas, .int lim, .ref bR, .ref bG, .ref bB, .ref bX]))]) hP hD [0] [1, 2, 3] rfl rfl (by decide) (by decide) hk1 hFc hP1 hD1
      generalize H1 = H at hP hS ⊢
      have hP : va_P (dC, dI) vwCl [(bH, .inl (cI, 34, .inl hM)), (bS, .inl (cI, 34, .inl sM)), (bL, .inl (cI, 34, .inl lM)), (y, .inr (2, [.int thr_9, .ref bH, .ref bS, .ref bL, .int mel, .ref bO, .ref bK, .ref bZ, .int sea, .int rnd, .int bas, .int lim, .ref bR, .ref bG, .ref bB, .ref bX]))] H := hP
      have hD : va_D A [(bH, .inl (cI, 34, .inl hM)), (bS, .inl (cI, 34, .inl sM)), (bL, .inl (cI, 34, .inl lM)), (y, .inr (2, [.int thr_9, .ref bH, .ref bS, .ref bL, .int mel, .ref bO, .ref bK, .ref bZ, .int sea, .int rnd, .int bas, .int lim, .ref bR, .ref bG, .ref bB, .ref bX]))] := hD
      have hP9 := hP.sub (ws' := [(y, .inr (2, [.int thr_9, .ref bH, .ref bS, .ref bL, .int mel, .ref bO, .ref bK, .ref bZ, .int sea, .int rnd, .int bas, .int lim, .ref bR, .ref bG, .ref bB, .ref bX])), (bH, .inl (cI, 34, .inl hM)), (bS, .inl (cI, 34, .inl sM)), (bL, .inl (cI, 34, .inl lM))]) [3, 0, 1, 2] rfl
      have hD9 := hD.sub (ws' := [(y, .inr (2, [.int thr_9, .ref bH, .ref bS, .ref bL, .int mel, .ref bO, .ref bK, .ref bZ, .int sea, .int rnd, .int bas, .int lim, .ref bR, .ref bG, .ref bB, .ref bX])), (bH, .inl (cI, 34, .inl hM)), (bS, .inl (cI, 34, .inl sM)), (bL, .inl (cI, 34, .inl lM))]) [3, 0, 1, 2] (by decide) rfl
      rw [← hQ9]
      exact W.iret (v := r8) hx hb hr (fun t ht hW => ⟨⟨r8, (thr_9, sM), rfl, hw, by rw [ht]; exact hP9, va_K.moved hW.alike hK, hD9⟩, hS.F ht⟩) hS.2.2 dX2_see_31
  · have hw := hw.1 c2
    refine lv_aload_n hx hb dX2_see_12 rfl (lv_at hl 0 rfl) ?_
    refine lv_iconst (v := 1) hx hb dX2_see_13 (by decide) ?_
    have hPc := hP.sub (ws' := [(y, .inr (2, [.int (0 : Int32), .ref bH, .ref bS, .ref bL, .int mel, .ref bO, .ref bK, .ref bZ, .int sea, .int rnd, .int bas, .int lim, .ref bR, .ref bG, .ref bB, .ref bX]))]) [0] rfl
    have hDc := hD.sub (ws' := [(y, .inr (2, [.int (0 : Int32), .ref bH, .ref bS, .ref bL, .int mel, .ref bO, .ref bK, .ref bZ, .int sea, .int rnd, .int bas, .int lim, .ref bR, .ref bG, .ref bB, .ref bX]))]) [0] (by decide) rfl
    have hFc := va_free (wc := [(y, .inr (2, [.int (0 : Int32), .ref bH, .ref bS, .ref bL, .int mel, .ref bO, .ref bK, .ref bZ, .int sea, .int rnd, .int bas, .int lim, .ref bR, .ref bG, .ref bB, .ref bX]))]) hD hS hA [0] rfl
    refine va_calli (va_runV (As := [.int (1 : Int32)]) (rest := []) ⟨hx, hb, hml, hown, hts⟩ (c_X2_fail l dC dI cI cZ y bH bS bL bO bK bZ bR bG bB bX H.size (0 : Int32) mel sea rnd bas lim (1 : Int32) _ hw) (cwV 1 hts gX2_see_X2_fail rfl rfl rfl (by decide +kernel) ⟨Nat.le_of_ble_eq_true rfl, Nat.le_of_ble_eq_true rfl⟩) ⟨fun a U g mk q => by obtain ⟨q0, q1, qP, qK, qD⟩ := q; exact ⟨q0, q1, qP, va_K.moved (u := U) (U := U.calling g mk a) (Vm.Alike.refl U.vm) qK, qD⟩, va_recv hK hPc (ci := 2) (q0 := 0) rfl rfl, fun U hU hW => ⟨rfl, by rw [hU], by rw [hU]; exact hPc, va_K.moved hW.alike hK, hDc.weaken (fun _ _ _ _ => trivial)⟩⟩ rfl rfl hl.1 rfl (lv_room (Nat.le_of_ble_eq_true rfl)) dX2_see_14 ⟨Nat.le_of_ble_eq_true rfl, Nat.le_of_ble_eq_true rfl⟩) hS (fun q _ h => hFc q h) hFc (fun r10 u t H1 locs ht hvm hw hB hz1 hk1 hS => ?_)
    obtain ⟨thr_11, rfl⟩ : ∃ z, z = u := ⟨_, rfl⟩
    obtain ⟨hP1, -, hD1⟩ := hB
    have hw := And.intro hw trivial
    try dsimp only at hw
    have hw := hw.1
    rw [ht] at hP1
    obtain ⟨hP, hD⟩ := va_join (wr := [(bH, .inl (cI, 34, .inl hM)), (bS, .inl (cI, 34, .inl sM)), (bL, .inl (cI, 34, .inl lM))]) (w1 := [(y, .inr (2, [.int thr_11, .ref bH, .ref bS, .ref bL, .int mel, .ref bO, .ref bK, .ref bZ, .int sea, .int rnd, .int bas, .int lim, .ref bR, .ref bG, .ref bB, .ref bX]))]) hP hD [0] [1, 2, 3] rfl rfl (by decide) (by decide) hk1 hFc hP1 hD1
    generalize H1 = H at hP hS ⊢
    have hP : va_P (dC, dI) vwCl [(bH, .inl (cI, 34, .inl hM)), (bS, .inl (cI, 34, .inl sM)), (bL, .inl (cI, 34, .inl lM)), (y, .inr (2, [.int thr_11, .ref bH, .ref bS, .ref bL, .int mel, .ref bO, .ref bK, .ref bZ, .int sea, .int rnd, .int bas, .int lim, .ref bR, .ref bG, .ref bB, .ref bX]))] H := hP
    have hD : va_D A [(bH, .inl (cI, 34, .inl hM)), (bS, .inl (cI, 34, .inl sM)), (bL, .inl (cI, 34, .inl lM)), (y, .inr (2, [.int thr_11, .ref bH, .ref bS, .ref bL, .int mel, .ref bO, .ref bK, .ref bZ, .int sea, .int rnd, .int bas, .int lim, .ref bR, .ref bG, .ref bB, .ref bX]))] := hD
    have hP9 := hP.sub (ws' := [(y, .inr (2, [.int thr_11, .ref bH, .ref bS, .ref bL, .int mel, .ref bO, .ref bK, .ref bZ, .int sea, .int rnd, .int bas, .int lim, .ref bR, .ref bG, .ref bB, .ref bX])), (bH, .inl (cI, 34, .inl hM)), (bS, .inl (cI, 34, .inl sM)), (bL, .inl (cI, 34, .inl lM))]) [3, 0, 1, 2] rfl
    have hD9 := hD.sub (ws' := [(y, .inr (2, [.int thr_11, .ref bH, .ref bS, .ref bL, .int mel, .ref bO, .ref bK, .ref bZ, .int sea, .int rnd, .int bas, .int lim, .ref bR, .ref bG, .ref bB, .ref bX])), (bH, .inl (cI, 34, .inl hM)), (bS, .inl (cI, 34, .inl sM)), (bL, .inl (cI, 34, .inl lM))]) [3, 0, 1, 2] (by decide) rfl
    rw [← hQ9]
    exact W.iret (v := r10) hx hb hr (fun t ht hW => ⟨⟨r10, (thr_11, sM), rfl, hw, by rw [ht]; exact hP9, va_K.moved hW.alike hK, hD9⟩, hS.F ht⟩) hS.2.2 dX2_see_17
