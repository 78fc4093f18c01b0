def w_X1_size (tcn : Int32) (mcn : Int32) (post : Int32 → Prop) : Prop := w_X1_sizeNow tcn mcn (fun r1 => (post r1))

set_option maxHeartbeats 4000000 in
set_option maxRecDepth 100000 in
theorem c_X1_size (l : Launch) (dC : Nat → ClassId) (dI : Nat → Nat → Nat) (cI cZ : ClassId) (x : Nat) (aH : Nat) (aL : Nat) (aS : Nat) (aO : Nat) (aK : Nat) (aZ : Nat) (cv : Nat) (sz : Nat) (tcn : Int32) (mcn : Int32) (swd : Int32) (rwd : Int32) (bpt : Int32) (flm : Int32) (post : Int32 → Prop) (hw : w_X1_size tcn mcn post) : Met l yX1_size wsX1_size ({ frames := 2, cells := 0, slots := 0, locals := 40 } : Room) (va_Pc [.ref x] (fun U => U.heap.size = sz ∧ va_P (dC, dI) vwCl [(x, .inr (1, [.ref aH, .ref aL, .ref aS, .ref aO, .ref aK, .ref aZ, .ref cv, .int tcn, .int mcn, .int swd, .int rwd, .int bpt, .int flm]))] U.heap ∧ va_K (dC, dI) vwCl [(cI, .int), (cZ, .boolean)] U ∧ va_D (fun _ => True) [(x, .inr (1, [.ref aH, .ref aL, .ref aS, .ref aO, .ref aK, .ref aZ, .ref cv, .int tcn, .int mcn, .int swd, .int rwd, .int bpt, .int flm]))])) (va_Qi (fun (r9 : Int32) (u9 : Unit) => post r9) (fun (u9 : Unit) (t9 : State) => va_P (dC, dI) vwCl [(x, .inr (1, [.ref aH, .ref aL, .ref aS, .ref aO, .ref aK, .ref aZ, .ref cv, .int tcn, .int mcn, .int swd, .int rwd, .int bpt, .int flm]))] t9.heap ∧ va_K (dC, dI) vwCl [(cI, .int), (cZ, .boolean)] t9 ∧ va_D (va_A [(x, .inr (1, [.ref aH, .ref aL, .ref aS, .ref aO, .ref aK, .ref aZ, .ref cv, .int tcn, .int mcn, .int swd, .int rwd, .int bpt, .int flm]))] sz) [(x, .inr (1, [.ref aH, .ref aL, .ref aS, .ref aO, .ref aK, .ref aZ, .ref cv, .int tcn, .int mcn, .int swd, .int rwd, .int bpt, .int flm]))]) (va_A [(x, .inr (1, [.ref aH, .ref aL, .ref aS, .ref aO, .ref aK, .ref aZ, .ref cv, .int tcn, .int mcn, .int swd, .int rwd, .int bpt, .int flm]))] sz)) 0 0 (va_A [(x, .inr (1, [.ref aH, .ref aL, .ref aS, .ref aO, .ref aK, .ref aZ, .ref cv, .int tcn, .int mcn, .int swd, .int rwd, .int bpt, .int flm]))] sz) := by
  refine Met.ofW (cc := cX1_size) (maxL := 1) (ret := (some .int)) (by decide) rfl ?_
  intro p e s m args below meth c s₁ B hml hv
  obtain ⟨rfl, hsz, hP, hK, hD0⟩ := hv
  have hx := B.exec
  have hb := B.bytes
  have hr := B.returns
  have hts := atoms_spec (ws := wsX1_size) B.pre
  have hown : s.vm.findClass RX1 = some m.cls := findClass_of_methodNamed B.named
  have hlocks := B.notSynchronized
  have hinX1 : ∀ w ∈ u_ws RX1 TX1 13, w ∈ wsX1_size := by decide +kernel
  subst hsz
  have hD := hD0.self (sz := s.heap.size)
  generalize hAe : va_A [(x, .inr (1, [.ref aH, .ref aL, .ref aS, .ref aO, .ref aK, .ref aZ, .ref cv, .int tcn, .int mcn, .int swd, .int rwd, .int bpt, .int flm]))] s.heap.size = A at hD ⊢
  have hA : ∀ q : Nat, s.heap.size ≤ q → A q := fun q h => by rw [← hAe]; exact Or.inr h
  have hS : va_S A s.heap s.heap [] := va_S.rf
  have hl := lv_entry ([.ref x]) (n := 1) (Nat.le_of_ble_eq_true rfl)
  rw [lg_entry_eq]
  generalize (lg_sl ([.ref x]) ++ List.replicate (1 - (lg_sl ([.ref x])).length) Slot.unset).toArray = ls at hl ⊢
  have hl : lv_has ls 1 [(0, .ref x)] := hl
  refine (?_ : ∀ Q9 : State → Prop, MQ below _ _ s _ _ _ = Q9 → W p l e ({ frames := 2, cells := 0, slots := 0, locals := 40 } : Room) s m _ below meth c s.heap [] 0 0 Q9 (F0 m 0 ls [])) _ rfl
  intro Q9 hQ9
  have hw : w_X1_sizeNow tcn mcn (fun r1 => (post r1)) := hw
  refine lv_aload_n hx hb dX1_size_0 rfl (lv_at hl 0 rfl) ?_
  have hPc := hP.sub (ws' := [(x, .inr (1, [.ref aH, .ref aL, .ref aS, .ref aO, .ref aK, .ref aZ, .ref cv, .int tcn, .int mcn, .int swd, .int rwd, .int bpt, .int flm]))]) [0] rfl
  have hDc := hD.sub (ws' := [(x, .inr (1, [.ref aH, .ref aL, .ref aS, .ref aO, .ref aK, .ref aZ, .ref cv, .int tcn, .int mcn, .int swd, .int rwd, .int bpt, .int flm]))]) [0] (by decide) rfl
  have hFc := va_free (wc := [(x, .inr (1, [.ref aH, .ref aL, .ref aS, .ref aO, .ref aK, .ref aZ, .ref cv, .int tcn, .int mcn, .int swd, .int rwd, .int bpt, .int flm]))]) hD hS hA [0] rfl
  refine va_calli (va_runV (As := []) (rest := []) ⟨hx, hb, hml, hown, hts⟩ (c_X1_sizeNow l dC dI cI cZ x aH aL aS aO aK aZ cv s.heap.size tcn mcn swd rwd bpt flm _ hw) (cwV 0 hts gX1_size_X1_sizeNow rfl rfl rfl (by decide +kernel) ⟨Nat.le_of_ble_eq_true rfl, Nat.le_of_ble_eq_true rfl⟩) ⟨fun a U g mk q => by obtain ⟨q0, q1, qP, qK, qD⟩ := q; exact ⟨q0, q1, qP, va_K.moved (u := U) (U := U.calling g mk a) (Vm.Alike.refl U.vm) qK, qD⟩, va_recv hK hPc (ci := 1) (q0 := 0) rfl rfl, fun U hU hW => ⟨rfl, by rw [hU], by rw [hU]; exact hPc, va_K.moved hW.alike hK, hDc.weaken (fun _ _ _ _ => trivial)⟩⟩ rfl rfl hl.1 rfl (lv_room (Nat.le_of_ble_eq_true rfl)) dX1_size_1 ⟨Nat.le_of_ble_eq_true rfl, Nat.le_of_ble_eq_true rfl⟩) hS (fun q _ h => hFc q h) hFc (fun r1 u t H1 locs ht hvm hw hB hz1 hk1 hS => ?_)
  obtain ⟨hP1, -, hD1⟩ := hB
  have hw := And.intro hw trivial
  try dsimp only at hw
  have hw := hw.1
  rw [ht] at hP1
  obtain ⟨hP, hD⟩ := va_join (wr := []) (w1 := [(x, .inr (1, [.ref aH, .ref aL, .ref aS, .ref aO, .ref aK, .ref aZ, .ref cv, .int tcn, .int mcn, .int swd, .int rwd, .int bpt, .int flm]))]) hP hD [0] [] rfl rfl (by decide) (by decide) hk1 hFc hP1 hD1
  generalize H1 = H at hP hS ⊢
  have hP : va_P (dC, dI) vwCl [(x, .inr (1, [.ref aH, .ref aL, .ref aS, .ref aO, .ref aK, .ref aZ, .ref cv, .int tcn, .int mcn, .int swd, .int rwd, .int bpt, .int flm]))] H := hP
  have hD : va_D A [(x, .inr (1, [.ref aH, .ref aL, .ref aS, .ref aO, .ref aK, .ref aZ, .ref cv, .int tcn, .int mcn, .int swd, .int rwd, .int bpt, .int flm]))] := hD
  rw [← hQ9]
  exact W.iret (v := r1) hx hb hr (fun t ht hW => ⟨⟨r1, (), rfl, hw, by rw [ht]; exact hP, va_K.moved hW.alike hK, hD⟩, hS.F ht⟩) hS.2.2 dX1_size_4

def w_X1_count (hd : (Nat → Int32)) (se : (Nat → Int32)) (p0 : Int32) (p1 : Int32) (post : Int32 → Prop) : Prop := w_X1_requireKind p0 (((p1 = 0 → (vp_in p0 34 ∧ (post (hd p0.toNatClampNeg)))) ∧ (¬ p1 = 0 → (vp_in p0 34 ∧ (post (se p0.toNatClampNeg))))))

set_option maxHeartbeats 4000000 in
set_option maxRecDepth 100000 in
theorem c_X1_count (l : Launch) (dC : Nat → ClassId) (dI : Nat → Nat → Nat) (cI cZ : ClassId) (x : Nat) (aH : Nat) (aL : Nat) (aS : Nat) (aO : Nat) (aK : Nat) (aZ : Nat) (cv : Nat) (sz : Nat) (tcn : Int32) (mcn : Int32) (swd : Int32) (rwd : Int32) (bpt : Int32) (flm : Int32) (hd : (Nat → Int32)) (se : (Nat → Int32)) (p0 : Int32) (p1 : Int32) (post : Int32 → Prop) (hw : w_X1_count hd se p0 p1 post) : Met l yX1_count wsX1_count ({ frames := 7, cells := 0, slots := 0, locals := 130 } : Room) (va_Pc [.ref x, .int p0, .int p1] (fun U => U.heap.size = sz ∧ va_P (dC, dI) vwCl [(x, .inr (1, [.ref aH, .ref aL, .ref aS, .ref aO, .ref aK, .ref aZ, .ref cv, .int tcn, .int mcn, .int swd, .int rwd, .int bpt, .int flm])), (aH, .inl (cI, 34, .inl hd)), (aS, .inl (cI, 34, .inl se))] U.heap ∧ va_K (dC, dI) vwCl [(cI, .int), (cZ, .boolean)] U ∧ va_D (fun _ => True) [(x, .inr (1, [.ref aH, .ref aL, .ref aS, .ref aO, .ref aK, .ref aZ, .ref cv, .int tcn, .int mcn, .int swd, .int rwd, .int bpt, .int flm])), (aH, .inl (cI, 34, .inl hd)), (aS, .inl (cI, 34, .inl se))])) (va_Qi (fun (r9 : Int32) (u9 : Unit) => post r9) (fun (u9 : Unit) (t9 : State) => va_P (dC, dI) vwCl [(x, .inr (1, [.ref aH, .ref aL, .ref aS, .ref aO, .ref aK, .ref aZ, .ref cv, .int tcn, .int mcn, .int swd, .int rwd, .int bpt, .int flm])), (aH, .inl (cI, 34, .inl hd)), (aS, .inl (cI, 34, .inl se))] t9.heap ∧ va_K (dC, dI) vwCl [(cI, .int), (cZ, .boolean)] t9 ∧ va_D (va_A [(x, .inr (1, [.ref aH, .ref aL, .ref aS, .ref aO, .ref aK, .ref aZ, .ref cv, .int tcn, .int mcn, .int swd, .int rwd, .int bpt, .int flm])), (aH, .inl (cI, 34, .inl hd)), (aS, .inl (cI, 34, .inl se))] sz) [(x, .inr (1, [.ref aH, .ref aL, .ref aS, .ref aO, .ref aK, .ref aZ, .ref cv, .int tcn, .int mcn, .int swd, .int rwd, .int bpt, .int flm])), (aH, .inl (cI, 34, .inl hd)), (aS, .inl (cI, 34, .inl se))]) (va_A [(x, .inr (1, [.ref aH, .ref aL, .ref aS, .ref aO, .ref aK, .ref aZ, .ref cv, .int tcn, .int mcn, .int swd, .int rwd, .int bpt, .int flm])), (aH, .inl (cI, 34, .inl hd)), (aS, .inl (cI, 34, .inl se))] sz)) 0 0 (va_A [(x, .inr (1, [.ref aH, .ref aL, .ref aS, .ref aO, .ref aK, .ref aZ, .ref cv, .int tcn, .int mcn, .int swd, .int rwd, .int bpt, .int flm])), (aH, .inl (cI, 34, .inl hd)), (aS, .inl (cI, 34, .inl se))] sz) := by
  refine Met.ofW (cc := cX1_count) (maxL := 3) (ret := (some .int)) (by decide) rfl ?_
  intro p e s m args below meth c s₁ B hml hv
  obtain ⟨rfl, hsz, hP, hK, hD0⟩ := hv
  have hx := B.exec
  have hb := B.bytes
  have hr := B.returns
  have hts := atoms_spec (ws := wsX1_count) B.pre
  have hown : s.vm.findClass RX1 = some m.cls := findClass_of_methodNamed B.named
  have hlocks := B.notSynchronized
  have hinX1 : ∀ w ∈ u_ws RX1 TX1 13, w ∈ wsX1_count := by decide +kernel
  subst hsz
  have hD := hD0.self (sz := s.heap.size)
  generalize hAe : va_A [(x, .inr (1, [.ref aH, .ref aL, .ref aS, .ref aO, .ref aK, .ref aZ, .ref cv, .int tcn, .int mcn, .int swd, .int rwd, .int bpt, .int flm])), (aH, .inl (cI, 34, .inl hd)), (aS, .inl (cI, 34, .inl se))] s.heap.size = A at hD ⊢
  have hA : ∀ q : Nat, s.heap.size ≤ q → A q := fun q h => by rw [← hAe]; exact Or.inr h
  have hS : va_S A s.heap s.heap [] := va_S.rf
  have hl := lv_entry ([.ref x, .int p0, .int p1]) (n := 3) (Nat.le_of_ble_eq_true rfl)
  rw [lg_entry_eq]
  generalize (lg_sl ([.ref x, .int p0, .int p1]) ++ List.replicate (3 - (lg_sl ([.ref x, .int p0, .int p1])).length) Slot.unset).toArray = ls at hl ⊢
  have hl : lv_has ls 3 [(0, .ref x), (1, .int p0), (2, .int p1)] := hl
  refine (?_ : ∀ Q9 : State → Prop, MQ below _ _ s _ _ _ = Q9 → W p l e ({ frames := 7, cells := 0, slots := 0, locals := 130 } : Room) s m _ below meth c s.heap [] 0 0 Q9 (F0 m 0 ls [])) _ rfl
  intro Q9 hQ9
  have hw : w_X1_requireKind p0 (((p1 = 0 → (vp_in p0 34 ∧ (post (hd p0.toNatClampNeg)))) ∧ (¬ p1 = 0 → (vp_in p0 34 ∧ (post (se p0.toNatClampNeg)))))) := hw
  refine lv_iload_n hx hb dX1_count_0 rfl (lv_at hl 1 rfl) ?_
  have hPc := hP.sub (ws' := []) [] rfl
  have hDc := hD.sub (ws' := []) [] (by decide) rfl
  have hFc := va_free (wc := []) hD hS hA [] rfl
  refine va_callv (va_runS (As := [.int p0]) (rest := []) ⟨hx, hb, hml, hown, hts⟩ (c_X1_requireKind l dC dI cI cZ s.heap.size p0 _ hw) (va_cwS 1 hts gX1_count_X1_requireKind rfl rfl rfl (by decide +kernel) ⟨Nat.le_of_ble_eq_true rfl, Nat.le_of_ble_eq_true rfl⟩) ⟨fun a U g mk q => by obtain ⟨q0, q1, qP, qK, qD⟩ := q; exact ⟨q0, q1, qP, va_K.moved (u := U) (U := U.calling g mk a) (Vm.Alike.refl U.vm) qK, qD⟩, fun U hU hW => ⟨rfl, by rw [hU], by rw [hU]; exact hPc, va_K.moved hW.alike hK, hDc.weaken (fun _ _ _ _ => trivial)⟩⟩ rfl rfl hl.1 rfl (lv_room (Nat.le_of_ble_eq_true rfl)) dX1_count_1 ⟨Nat.le_of_ble_eq_true rfl, Nat.le_of_ble_eq_true rfl⟩) hS (fun q _ h => hFc q h) hFc (fun u t H1 locs ht hvm hw hB hz1 hk1 hS => ?_)
  obtain ⟨hP1, -, hD1⟩ := hB
  have hw := And.intro hw trivial
  try dsimp only at hw
  have hw := hw.1
  rw [ht] at hP1
  obtain ⟨hP, hD⟩ := va_join (wr := [(x, .inr (1, [.ref aH, .ref aL, .ref aS, .ref aO, .ref aK, .ref aZ, .ref cv, .int tcn, .int mcn, .int swd, .int rwd, .int bpt, .int flm])), (aH, .inl (cI, 34, .inl hd)), (aS, .inl (cI, 34, .inl se))]) (w1 := []) hP hD [] [0, 1, 2] rfl rfl (by decide) (by decide) hk1 hFc hP1 hD1
  generalize H1 = H at hP hS ⊢
  have hP : va_P (dC, dI) vwCl [(x, .inr (1, [.ref aH, .ref aL, .ref aS, .ref aO, .ref aK, .ref aZ, .ref cv, .int tcn, .int mcn, .int swd, .int rwd, .int bpt, .int flm])), (aH, .inl (cI, 34, .inl hd)), (aS, .inl (cI, 34, .inl se))] H := hP
  have hD : va_D A [(x, .inr (1, [.ref aH, .ref aL, .ref aS, .ref aO, .ref aK, .ref aZ, .ref cv, .int tcn, .int mcn, .int swd, .int rwd, .int bpt, .int flm])), (aH, .inl (cI, 34, .inl hd)), (aS, .inl (cI, 34, .inl se))] := hD
  refine lv_iload_n hx hb dX1_count_4 rfl (lv_at hl 2 rfl) ?_
  refine lv_if_eq (tgt := 17) hx hb dX1_count_5 (by decide) (fun c1 => ?_) (fun c1 => ?_)
  · have hw := hw.1 c1
    refine lv_aload_n hx hb dX1_count_17 rfl (lv_at hl 0 rfl) ?_
    refine va_get (D := (dC, dI)) (ci := 1) (v := .ref aH) (C := RX1) (T := TX1) (N := 13) hx hb hts hinX1 hown hK hP 0 rfl rfl 0 (by decide) (hts (.fieldLink RX1 9 "TileHand" "hand" "[I") (by decide +kernel)) (fun _ h9 => h9) rfl dX1_count_18 ?_
    refine lv_iload_n hx hb dX1_count_21 rfl (lv_at hl 1 rfl) ?_
    obtain ⟨h2, hw⟩ := hw
    refine va_iald hx hb hK hP 1 0 rfl rfl h2 dX1_count_22 ?_
    rw [← hQ9]
    exact W.iret (v := hd p0.toNatClampNeg) hx hb hr (fun t ht hW => ⟨⟨hd p0.toNatClampNeg, (), rfl, hw, by rw [ht]; exact hP, va_K.moved hW.alike hK, hD⟩, hS.F ht⟩) hS.2.2 dX1_count_23
  · have hw := hw.2 c1
    refine lv_aload_n hx hb dX1_count_8 rfl (lv_at hl 0 rfl) ?_
    refine va_get (D := (dC, dI)) (ci := 1) (v := .ref aS) (C := RX1) (T := TX1) (N := 13) hx hb hts hinX1 hown hK hP 0 rfl rfl 2 (by decide) (hts (.fieldLink RX1 16 "TileHand" "seen" "[I") (by decide +kernel)) (fun _ h9 => h9) rfl dX1_count_9 ?_
    refine lv_iload_n hx hb dX1_count_12 rfl (lv_at hl 1 rfl) ?_
    obtain ⟨h3, hw⟩ := hw
    refine va_iald hx hb hK hP 2 0 rfl rfl h3 dX1_count_13 ?_
    refine lv_goto (tgt := 23) hx hb dX1_count_14 (by decide) ?_
    rw [← hQ9]
    exact W.iret (v := se p0.toNatClampNeg) hx hb hr (fun t ht hW => ⟨⟨se p0.toNatClampNeg, (), rfl, hw, by rw [ht]; exact hP, va_K.moved hW.alike hK, hD⟩, hS.F ht⟩) hS.2.2 dX1_count_23

def w_X1_count_x (hd : (Nat → Int32)) (se : (Nat → Int32)) (p0 : Int32) (p1 : Int32) (px : String → Prop) : Prop := ((w_X1_requireKind p0 (((p1 = 0 → (vp_in p0 34 ∧ (False))) ∧ (¬ p1 = 0 → (vp_in p0 34 ∧ (False)))))) ∨ (w_X1_requireKind_x p0 (fun E4 => (px E4))))

set_option maxHeartbeats 4000000 in
set_option maxRecDepth 100000 in
theorem c_X1_count_x (l : Launch) (hl9 : l.stackTraces = false) (dC : Nat → ClassId) (dI : Nat → Nat → Nat) (cI cZ : ClassId) (x : Nat) (aH : Nat) (aL : Nat) (aS : Nat) (aO : Nat) (aK : Nat) (aZ : Nat) (cv : Nat) (sz : Nat) (tcn : Int32) (mcn : Int32) (swd : Int32) (rwd : Int32) (bpt : Int32) (flm : Int32) (hd : (Nat → Int32)) (se : (Nat → Int32)) (p0 : Int32) (p1 : Int32) (px : String → Prop) (hw : w_X1_count_x hd se p0 p1 px) : vx_Met l yX1_count wsX1_count ({ frames := 7, cells := 1, slots := 6, locals := 130 } : Room) (va_Pc [.ref x, .int p0, .int p1] (fun U => U.heap.size = sz ∧ va_P (dC, dI) vwCl [(x, .inr (1, [.ref aH, .ref aL, .ref aS, .ref aO, .ref aK, .ref aZ, .ref cv, .int tcn, .int mcn, .int swd, .int rwd, .int bpt, .int flm])), (aH, .inl (cI, 34, .inl hd)), (aS, .inl (cI, 34, .inl se))] U.heap ∧ va_K (dC, dI) vwCl [(cI, .int), (cZ, .boolean)] U ∧ va_D (fun _ => True) [(x, .inr (1, [.ref aH, .ref aL, .ref aS, .ref aO, .ref aK, .ref aZ, .ref cv, .int tcn, .int mcn, .int swd, .int rwd, .int bpt, .int flm])), (aH, .inl (cI, 34, .inl hd)), (aS, .inl (cI, 34, .inl se))] ∧ xk (va_A [(x, .inr (1, [.ref aH, .ref aL, .ref aS, .ref aO, .ref aK, .ref aZ, .ref cv, .int tcn, .int mcn, .int swd, .int rwd, .int bpt, .int flm])), (aH, .inl (cI, 34, .inl hd)), (aS, .inl (cI, 34, .inl se))] sz) U)) (va_Qi (fun (_ : Int32) (_ : Unit) => False) (fun _ _ => True) (va_A [(x, .inr (1, [.ref aH, .ref aL, .ref aS, .ref aO, .ref aK, .ref aZ, .ref cv, .int tcn, .int mcn, .int swd, .int rwd, .int bpt, .int flm])), (aH, .inl (cI, 34, .inl hd)), (aS, .inl (cI, 34, .inl se))] sz)) (vx_X (fun (u9 : String) => px u9) (fun (E9 : String) (u9 : String) (t9 : State) => E9 = u9 ∧ va_P (dC, dI) vwCl [(x, .inr (1, [.ref aH, .ref aL, .ref aS, .ref aO, .ref aK, .ref aZ, .ref cv, .int tcn, .int mcn, .int swd, .int rwd, .int bpt, .int flm])), (aH, .inl (cI, 34, .inl hd)), (aS, .inl (cI, 34, .inl se))] t9.heap ∧ va_K (dC, dI) vwCl [(cI, .int), (cZ, .boolean)] t9 ∧ va_D (va_A [(x, .inr (1, [.ref aH, .ref aL, .ref aS, .ref aO, .ref aK, .ref aZ, .ref cv, .int tcn, .int mcn, .int swd, .int rwd, .int bpt, .int flm])), (aH, .inl (cI, 34, .inl hd)), (aS, .inl (cI, 34, .inl se))] sz) [(x, .inr (1, [.ref aH, .ref aL, .ref aS, .ref aO, .ref aK, .ref aZ, .ref cv, .int tcn, .int mcn, .int swd, .int rwd, .int bpt, .int flm])), (aH, .inl (cI, 34, .inl hd)), (aS, .inl (cI, 34, .inl se))]) (va_A [(x, .inr (1, [.ref aH, .ref aL, .ref aS, .ref aO, .ref aK, .ref aZ, .ref cv, .int tcn, .int mcn, .int swd, .int rwd, .int bpt, .int flm])), (aH, .inl (cI, 34, .inl hd)), (aS, .inl (cI, 34, .inl se))] sz)) 1 6 (va_A [(x, .inr (1, [.ref aH, .ref aL, .ref aS, .ref aO, .ref aK, .ref aZ, .ref cv, .int tcn, .int mcn, .int swd, .int rwd, .int bpt, .int flm])), (aH, .inl (cI, 34, .inl hd)), (aS, .inl (cI, 34, .inl se))] sz) := by
  refine vx_ofW (cc := cX1_count) (maxL := 3) (ret := (some .int)) (by decide) rfl ?_
  intro p e s m args below meth c s₁ B hml hEx hv
  obtain ⟨rfl, hsz, hP, hK, hD0, hxk⟩ := hv
  have hx := B.exec
  have hb := B.bytes
  have hr := B.returns
  have hts := atoms_spec (ws := wsX1_count) B.pre
  have hown : s.vm.findClass RX1 = some m.cls := findClass_of_methodNamed B.named
  have hlocks := B.notSynchronized
  have hinX1 : ∀ w ∈ u_ws RX1 TX1 13, w ∈ wsX1_count := by decide +kernel
  subst hsz
  have hD := hD0.self (sz := s.heap.size)
  generalize hAe : va_A [(x, .inr (1, [.ref aH, .ref aL, .ref aS, .ref aO, .ref aK, .ref aZ, .ref cv, .int tcn, .int mcn, .int swd, .int rwd, .int bpt, .int flm])), (aH, .inl (cI, 34, .inl hd)), (aS, .inl (cI, 34, .inl se))] s.heap.size = A at hD hxk ⊢
  have hA : ∀ q : Nat, s.heap.size ≤ q → A q := fun q h => by rw [← hAe]; exact Or.inr h
  have hS : va_S A s.heap s.heap [] := va_S.rf
  have hl := lv_entry ([.ref x, .int p0, .int p1]) (n := 3) (Nat.le_of_ble_eq_true rfl)
  rw [lg_entry_eq]
  generalize (lg_sl ([.ref x, .int p0, .int p1]) ++ List.replicate (3 - (lg_sl ([.ref x, .int p0, .int p1])).length) Slot.unset).toArray = ls at hl ⊢
  have hl : lv_has ls 3 [(0, .ref x), (1, .int p0), (2, .int p1)] := hl
  refine (?_ : ∀ Q9 : State → Prop, vx_MQ below _ _ _ s _ _ _ = Q9 → W p l e ({ frames := 7, cells := 1, slots := 6, locals := 130 } : Room) s m _ below meth c s.heap [] 0 0 Q9 (F0 m 0 ls [])) _ rfl
  intro Q9 hQ9
  have hw : ((w_X1_requireKind p0 (((p1 = 0 → (vp_in p0 34 ∧ (False))) ∧ (¬ p1 = 0 → (vp_in p0 34 ∧ (False)))))) ∨ (w_X1_requireKind_x p0 (fun E4 => (px E4)))) := hw
  refine lv_iload_n hx hb dX1_count_0 rfl (lv_at hl 1 rfl) ?_
  have hPc := hP.sub (ws' := []) [] rfl
  have hDc := hD.sub (ws' := []) [] (by decide) rfl
  have hFc := va_free (wc := []) hD hS hA [] rfl
  rcases hw with hw | hw
  · refine va_callv (va_runS (As := [.int p0]) (rest := []) ⟨hx, hb, hml, hown, hts⟩ (c_X1_requireKind l dC dI cI cZ s.heap.size p0 _ hw) (va_cwS 1 hts gX1_count_X1_requireKind rfl rfl rfl (by decide +kernel) ⟨Nat.le_of_ble_eq_true rfl, Nat.le_of_ble_eq_true rfl⟩) ⟨fun a U g mk q => by obtain ⟨q0, q1, qP, qK, qD⟩ := q; exact ⟨q0, q1, qP, va_K.moved (u := U) (U := U.calling g mk a) (Vm.Alike.refl U.vm) qK, qD⟩, fun U hU hW => ⟨rfl, by rw [hU], by rw [hU]; exact hPc, va_K.moved hW.alike hK, hDc.weaken (fun _ _ _ _ => trivial)⟩⟩ rfl rfl hl.1 rfl (lv_room (Nat.le_of_ble_eq_true rfl)) dX1_count_1 ⟨Nat.le_of_ble_eq_true rfl, Nat.le_of_ble_eq_true rfl⟩) hS (fun q _ h => hFc q h) hFc (fun u t H1 locs ht hvm hw hB hz1 hk1 hS => ?_)
    obtain ⟨hP1, -, hD1⟩ := hB
    have hw := And.intro hw trivial
    try dsimp only at hw
    have hw := hw.1
    rw [ht] at hP1
    obtain ⟨hP, hD⟩ := va_join (wr := [(x, .inr (1, [.ref aH, .ref aL, .ref aS, .ref aO, .ref aK, .ref aZ, .ref cv, .int tcn, .int mcn, .int swd, .int rwd, .int bpt, .int flm])), (aH, .inl (cI, 34, .inl hd)), (aS, .inl (cI, 34, .inl se))]) (w1 := []) hP hD [] [0, 1, 2] rfl rfl (by decide) (by decide) hk1 hFc hP1 hD1
    generalize H1 = H at hP hS ⊢
    have hP : va_P (dC, dI) vwCl [(x, .inr (1, [.ref aH, .ref aL, .ref aS, .ref aO, .ref aK, .ref aZ, .ref cv, .int tcn, .int mcn, .int swd, .int rwd, .int bpt, .int flm])), (aH, .inl (cI, 34, .inl hd)), (aS, .inl (cI, 34, .inl se))] H := hP
    have hD : va_D A [(x, .inr (1, [.ref aH, .ref aL, .ref aS, .ref aO, .ref aK, .ref aZ, .ref cv, .int tcn, .int mcn, .int swd, .int rwd, .int bpt, .int flm])), (aH, .inl (cI, 34, .inl hd)), (aS, .inl (cI, 34, .inl se))] := hD
    refine lv_iload_n hx hb dX1_count_4 rfl (lv_at hl 2 rfl) ?_
    refine lv_if_eq (tgt := 17) hx hb dX1_count_5 (by decide) (fun c1 => ?_) (fun c1 => ?_)
    · have hw := hw.1 c1
      refine lv_aload_n hx hb dX1_count_17 rfl (lv_at hl 0 rfl) ?_
      refine va_get (D := (dC, dI)) (ci := 1) (v := .ref aH) (C := RX1) (T := TX1) (N := 13) hx hb hts hinX1 hown hK hP 0 rfl rfl 0 (by decide) (hts (.fieldLink RX1 9 "TileHand" "hand" "[I") (by decide +kernel)) (fun _ h9 => h9) rfl dX1_count_18 ?_
      refine lv_iload_n hx hb dX1_count_21 rfl (lv_at hl 1 rfl) ?_
      obtain ⟨h2, hw⟩ := hw
      refine va_iald hx hb hK hP 1 0 rfl rfl h2 dX1_count_22 ?_
      exact False.elim hw
    · have hw := hw.2 c1
      refine lv_aload_n hx hb dX1_count_8 rfl (lv_at hl 0 rfl) ?_
      refine va_get (D := (dC, dI)) (ci := 1) (v := .ref aS) (C := RX1) (T := TX1) (N := 13) hx hb hts hinX1 hown hK hP 0 rfl rfl 2 (by decide) (hts (.fieldLink RX1 16 "TileHand" "seen" "[I") (by decide +kernel)) (fun _ h9 => h9) rfl dX1_count_9 ?_
      refine lv_iload_n hx hb dX1_count_12 rfl (lv_at hl 1 rfl) ?_
      obtain ⟨h3, hw⟩ := hw
      refine va_iald hx hb hK hP 2 0 rfl rfl h3 dX1_count_13 ?_
      refine lv_goto (tgt := 23) hx hb dX1_count_14 (by decide) ?_
      exact False.elim hw
  · refine vx_callv (vx_runS (As := [.int p0]) (rest := []) ⟨hx, hb, hml, hown, hts⟩ (c_X1_requireKind_x l hl9 dC dI cI cZ s.heap.size p0 _ hw) (va_cwS 1 hts gX1_count_X1_requireKind rfl rfl rfl (by decide +kernel) ⟨Nat.le_of_ble_eq_true rfl, Nat.le_of_ble_eq_true rfl⟩) ⟨fun a U g mk q => by obtain ⟨q0, q1, qP, qK, qD, qX⟩ := q; exact ⟨q0, q1, qP, va_K.moved (u := U) (U := U.calling g mk a) (Vm.Alike.refl U.vm) qK, qD, xk_same rfl rfl qX⟩, fun U hU hW => ⟨rfl, by rw [hU], by rw [hU]; exact hPc, va_K.moved hW.alike hK, hDc.weaken (fun _ _ _ _ => trivial), xk_call hS hU hW (fun q h => hFc q h) hxk⟩⟩ rfl rfl hl.1 rfl (lv_room (Nat.le_of_ble_eq_true rfl)) dX1_count_1 ⟨Nat.le_of_ble_eq_true rfl, Nat.le_of_ble_eq_true rfl⟩) hS (fun q _ h => hFc q h) hFc (fun q _ h => hFc q h) (fun E ce qe9 u t H1 locs ht hvm hw hB hz1 hk1 hS hce hcv hcl => ?_) (fun u t H1 locs ht hvm hw hB hz1 hk1 hS => False.elim hw)
    obtain ⟨E4, rfl⟩ : ∃ z, z = u := ⟨_, rfl⟩
    obtain ⟨rfl, hP1, -, hD1⟩ := hB
    try dsimp only at hw
    rw [ht] at hP1
    obtain ⟨hP, hD⟩ := va_join (wr := [(x, .inr (1, [.ref aH, .ref aL, .ref aS, .ref aO, .ref aK, .ref aZ, .ref cv, .int tcn, .int mcn, .int swd, .int rwd, .int bpt, .int flm])), (aH, .inl (cI, 34, .inl hd)), (aS, .inl (cI, 34, .inl se))]) (w1 := []) hP hD [] [0, 1, 2] rfl rfl (by decide) (by decide) hk1 hFc hP1 hD1
    generalize H1 = H at hP hS hce ⊢
    have hP : va_P (dC, dI) vwCl [(x, .inr (1, [.ref aH, .ref aL, .ref aS, .ref aO, .ref aK, .ref aZ, .ref cv, .int tcn, .int mcn, .int swd, .int rwd, .int bpt, .int flm])), (aH, .inl (cI, 34, .inl hd)), (aS, .inl (cI, 34, .inl se))] H := hP
    have hD : va_D A [(x, .inr (1, [.ref aH, .ref aL, .ref aS, .ref aO, .ref aK, .ref aZ, .ref cv, .int tcn, .int mcn, .int swd, .int rwd, .int bpt, .int flm])), (aH, .inl (cI, 34, .inl hd)), (aS, .inl (cI, 34, .inl se))] := hD
    have hP9 := hP.sub (ws' := [(x, .inr (1, [.ref aH, .ref aL, .ref aS, .ref aO, .ref aK, .ref aZ, .ref cv, .int tcn, .int mcn, .int swd, .int rwd, .int bpt, .int flm])), (aH, .inl (cI, 34, .inl hd)), (aS, .inl (cI, 34, .inl se))]) [0, 1, 2] rfl
    have hD9 := hD.sub (ws' := [(x, .inr (1, [.ref aH, .ref aL, .ref aS, .ref aO, .ref aK, .ref aZ, .ref cv, .int tcn, .int mcn, .int swd, .int rwd, .int bpt, .int flm])), (aH, .inl (cI, 34, .inl hd)), (aS, .inl (cI, 34, .inl se))]) [0, 1, 2] (by decide) rfl
    rw [← hQ9]
    exact vx_out (E := E) (fun x hx => (hEx x hx).elim) hlocks hce hcv hcl (fun t ht ha => ⟨E, hw, ⟨rfl, by rw [ht]; exact hP9, va_K.moved ha hK, hD9⟩, hS.F ht⟩) hS.2.2 (Nat.le_of_ble_eq_true rfl) (Nat.le_of_ble_eq_true rfl)

def w_X1_honourFans_b23 (post : Int32 → Prop) (swd : Int32) (rwd : Int32) (p0 : Int32) (v2 : Int32) : Prop := ((p0 = rwd → (post (v2 + 1))) ∧ (¬ p0 = rwd → (post v2)))

def w_X1_honourFans_b11 (post : Int32 → Prop) (swd : Int32) (rwd : Int32) (p0 : Int32) (s1 : Int32) : Prop := ((p0 = swd → (w_X1_honourFans_b23 post swd rwd p0 (s1 + 1))) ∧ (¬ p0 = swd → (w_X1_honourFans_b23 post swd rwd p0 s1)))

def w_X1_honourFans (swd : Int32) (rwd : Int32) (p0 : Int32) (post : Int32 → Prop) : Prop := ((p0 < (31 : Int32) → (w_X1_honourFans_b11 post swd rwd p0 (0 : Int32))) ∧ (¬ p0 < (31 : Int32) → (w_X1_honourFans_b11 post swd rwd p0 (1 : Int32))))

set_option maxHeartbeats 4000000 in
set_option maxRecDepth 100000 in
theorem c_X1_honourFans (l : Launch) (dC : Nat → ClassId) (dI : Nat → Nat → Nat) (cI cZ : ClassId) (x : Nat) (aH : Nat) (aL : Nat) (aS : Nat) (aO : Nat) (aK : Nat) (aZ : Nat) (cv : Nat) (sz : Nat) (tcn : Int32) (mcn : Int32) (swd : Int32) (rwd : Int32) (bpt : Int32) (flm : Int32) (p0 : Int32) (post : Int32 → Prop) (hw : w_X1_honourFans swd rwd p0 post) : Met l yX1_honourFans wsX1_honourFans ({ frames := 0, cells := 0, slots := 0, locals := 0 } : Room) (va_Pc [.ref x, .int p0] (fun U => U.heap.size = sz ∧ va_P (dC, dI) vwCl [(x, .inr (1, [.ref aH, .ref aL, .ref aS, .ref aO, .ref aK, .ref aZ, .ref cv, .int tcn, .int mcn, .int swd, .int rwd, .int bpt, .int flm]))] U.heap ∧ va_K (dC, dI) vwCl [(cI, .int), (cZ, .boolean)] U ∧ va_D (fun _ => True) [(x, .inr (1, [.ref aH, .ref aL, .ref aS, .ref aO, .ref aK, .ref aZ, .ref cv, .int tcn, .int mcn, .int swd, .int rwd, .int bpt, .int flm]))])) (va_Qi (fun (r9 : Int32) (u9 : Unit) => post r9) (fun (u9 : Unit) (t9 : State) => va_P (dC, dI) vwCl [(x, .inr (1, [.ref aH, .ref aL, .ref aS, .ref aO, .ref aK, .ref aZ, .ref cv, .int tcn, .int mcn, .int swd, .int rwd, .int bpt, .int flm]))] t9.heap ∧ va_K (dC, dI) vwCl [(cI, .int), (cZ, .boolean)] t9 ∧ va_D (va_A [(x, .inr (1, [.ref aH, .ref aL, .ref aS, .ref aO, .ref aK, .ref aZ, .ref cv, .int tcn, .int mcn, .int swd, .int rwd, .int bpt, .int flm]))] sz) [(x, .inr (1, [.ref aH, .ref aL, .ref aS, .ref aO, .ref aK, .ref aZ, .ref cv, .int tcn, .int mcn, .int swd, .int rwd, .int bpt, .int flm]))]) (va_A [(x, .inr (1, [.ref aH, .ref aL, .ref aS, .ref aO, .ref aK, .ref aZ, .ref cv, .int tcn, .int mcn, .int swd, .int rwd, .int bpt, .int flm]))] sz)) 0 0 (va_A [(x, .inr (1, [.ref aH, .ref aL, .ref aS, .ref aO, .ref aK, .ref aZ, .ref cv, .int tcn, .int mcn, .int swd, .int rwd, .int bpt, .int flm]))] sz) := by
  refine Met.ofW (cc := cX1_honourFans) (maxL := 3) (ret := (some .int)) (by decide) rfl ?_
  intro p e s m args below meth c s₁ B hml hv
  obtain ⟨rfl, hsz, hP, hK, hD0⟩ := hv
  have hx := B.exec
  have hb := B.bytes
  have hr := B.returns
  have hts := atoms_spec (ws := wsX1_honourFans) B.pre
  have hown : s.vm.findClass RX1 = some m.cls := findClass_of_methodNamed B.named
  have hlocks := B.notSynchronized
  have hinX1 : ∀ w ∈ u_ws RX1 TX1 13, w ∈ wsX1_honourFans := by decide +kernel
  subst hsz
  have hD := hD0.self (sz := s.heap.size)
  generalize hAe : va_A [(x, .inr (1, [.ref aH, .ref aL, .ref aS, .ref aO, .ref aK, .ref aZ, .ref cv, .int tcn, .int mcn, .int swd, .int rwd, .int bpt, .int flm]))] s.heap.size = A at hD ⊢
  have hA : ∀ q : Nat, s.heap.size ≤ q → A q := fun q h => by rw [← hAe]; exact Or.inr h
  have hS : va_S A s.heap s.heap [] := va_S.rf
  have hl := lv_entry ([.ref x, .int p0]) (n := 3) (Nat.le_of_ble_eq_true rfl)
  rw [lg_entry_eq]
  generalize (lg_sl ([.ref x, .int p0]) ++ List.replicate (3 - (lg_sl ([.ref x, .int p0])).length) Slot.unset).toArray = ls at hl ⊢
  have hl : lv_has ls 3 [(0, .ref x), (1, .int p0)] := hl
  refine (?_ : ∀ Q9 : State → Prop, MQ below _ _ s _ _ _ = Q9 → W p l e ({ frames := 0, cells := 0, slots := 0, locals := 0 } : Room) s m _ below meth c s.heap [] 0 0 Q9 (F0 m 0 ls [])) _ rfl
  intro Q9 hQ9
  have hw : ((p0 < (31 : Int32) → (w_X1_honourFans_b11 post swd rwd p0 (0 : Int32))) ∧ (¬ p0 < (31 : Int32) → (w_X1_honourFans_b11 post swd rwd p0 (1 : Int32)))) := hw
  have L23 : ∀ (v2 : Int32) (H : Heap) (locs : List Loc) (ls : Array Slot), w_X1_honourFans_b23 post swd rwd p0 v2 → va_P (dC, dI) vwCl [(x, .inr (1, [.ref aH, .ref aL, .ref aS, .ref aO, .ref aK, .ref aZ, .ref cv, .int tcn, .int mcn, .int swd, .int rwd, .int bpt, .int flm]))] H → va_D A [(x, .inr (1, [.ref aH, .ref aL, .ref aS, .ref aO, .ref aK, .ref aZ, .ref cv, .int tcn, .int mcn, .int swd, .int rwd, .int bpt, .int flm]))] → va_S A s.heap H locs → lv_has ls 3 [(0, .ref x), (1, .int p0), (2, .int v2)] → W p l e ({ frames := 0, cells := 0, slots := 0, locals := 0 } : Room) s m ([.ref x, .int p0] : List Value).toArray below meth c H locs 0 0 Q9 (F0 m 23 ls []) := by
    intro v2 H locs ls hw hP hD hS hl
    refine lv_iload_n hx hb dX1_honourFans_23 rfl (lv_at hl 1 rfl) ?_
    refine lv_aload_n hx hb dX1_honourFans_24 rfl (lv_at hl 0 rfl) ?_
    refine va_get (D := (dC, dI)) (ci := 1) (v := .int rwd) (C := RX1) (T := TX1) (N := 13) hx hb hts hinX1 hown hK hP 0 rfl rfl 10 (by decide) (hts (.fieldLink RX1 40 "TileHand" "roundWind" "I") (by decide +kernel)) (fun _ h9 => h9) rfl dX1_honourFans_25 ?_
    refine lv_icmp_ne (tgt := 34) hx hb dX1_honourFans_28 (by decide) (fun c3 => ?_) (fun c3 => ?_)
    · have hw := hw.2 c3
      refine lv_iload_n hx hb dX1_honourFans_34 rfl (lv_at hl 2 rfl) ?_
      rw [← hQ9]
      exact W.iret (v := v2) hx hb hr (fun t ht hW => ⟨⟨v2, (), rfl, hw, by rw [ht]; exact hP, va_K.moved hW.alike hK, hD⟩, hS.F ht⟩) hS.2.2 dX1_honourFans_35
    · have hw := hw.1 c3
      refine lv_iinc (v := v2 + 1) (lv' := [(2, .int (v2 + 1)), (0, .ref x), (1, .int p0)]) hx hb dX1_honourFans_31 hl (k := 2) rfl rfl (by decide) rfl (fun ls hl => ?_)
      refine lv_iload_n hx hb dX1_honourFans_34 rfl (lv_at hl 0 rfl) ?_
      rw [← hQ9]
      exact W.iret (v := v2 + 1) hx hb hr (fun t ht hW => ⟨⟨v2 + 1, (), rfl, hw, by rw [ht]; exact hP, va_K.moved hW.alike hK, hD⟩, hS.F ht⟩) hS.2.2 dX1_honourFans_35
  have L11 : ∀ (s1 : Int32) (H : Heap) (locs : List Loc) (ls : Array Slot), w_X1_honourFans_b11 post swd rwd p0 s1 → va_P (dC, dI) vwCl [(x, .inr (1, [.ref aH, .ref aL, .ref aS, .ref aO, .ref aK, .ref aZ, .ref cv, .int tcn, .int mcn, .int swd, .int rwd, .int bpt, .int flm]))] H → va_D A [(x, .inr (1, [.ref aH, .ref aL, .ref aS, .ref aO, .ref aK, .ref aZ, .ref cv, .int tcn, .int mcn, .int swd, .int rwd, .int bpt, .int flm]))] → va_S A s.heap H locs → lv_has ls 3 [(0, .ref x), (1, .int p0)] → W p l e ({ frames := 0, cells := 0, slots := 0, locals := 0 } : Room) s m ([.ref x, .int p0] : List Value).toArray below meth c H locs 0 0 Q9 (F0 m 11 ls [.int s1]) := by
    intro s1 H locs ls hw hP hD hS hl
    refine lv_istore_n (lv' := [(2, .int s1), (0, .ref x), (1, .int p0)]) hx hb dX1_honourFans_11 rfl hl (by decide) rfl (fun ls hl => ?_)
    refine lv_iload_n hx hb dX1_honourFans_12 rfl (lv_at hl 2 rfl) ?_
    refine lv_aload_n hx hb dX1_honourFans_13 rfl (lv_at hl 1 rfl) ?_
    refine va_get (D := (dC, dI)) (ci := 1) (v := .int swd) (C := RX1) (T := TX1) (N := 13) hx hb hts hinX1 hown hK hP 0 rfl rfl 9 (by decide) (hts (.fieldLink RX1 36 "TileHand" "seatWind" "I") (by decide +kernel)) (fun _ h9 => h9) rfl dX1_honourFans_14 ?_
    refine lv_icmp_ne (tgt := 23) hx hb dX1_honourFans_17 (by decide) (fun c2 => ?_) (fun c2 => ?_)
    · have hw := hw.2 c2
      exact L23 s1 _ _ _ hw hP hD hS (lv_sub hl [1, 2, 0] rfl)
    · have hw := hw.1 c2
      refine lv_iinc (v := s1 + 1) (lv' := [(2, .int (s1 + 1)), (0, .ref x), (1, .int p0)]) hx hb dX1_honourFans_20 hl (k := 0) rfl rfl (by decide) rfl (fun ls hl => ?_)
      exact L23 (s1 + 1) _ _ _ hw hP hD hS (lv_sub hl [1, 2, 0] rfl)
  refine lv_iload_n hx hb dX1_honourFans_0 rfl (lv_at hl 1 rfl) ?_
  refine lv_bipush (v := 31) hx hb dX1_honourFans_1 (by decide) ?_
  refine lv_icmp_lt (tgt := 10) hx hb dX1_honourFans_3 (by decide) (fun c1 => ?_) (fun c1 => ?_)
  · have hw := hw.1 c1
    refine lv_iconst (v := 0) hx hb dX1_honourFans_10 (by decide) ?_
    exact L11 (0 : Int32) _ _ _ hw hP hD hS (lv_sub hl [0, 1] rfl)
  · have hw := hw.2 c1
    refine lv_iconst (v := 1) hx hb dX1_honourFans_6 (by decide) ?_
    refine lv_goto (tgt := 11) hx hb dX1_honourFans_7 (by decide) ?_
    exact L11 (1 : Int32) _ _ _ hw hP hD hS (lv_sub hl [0, 1] rfl)

def w_X1_twinRows_b78 (post : Int32 → Prop) (mcn : Int32) (so : (Nat → Int32)) (ki : (Nat → Int32)) (K7 : Int32 → Int32 → Prop) (v1 : Int32) (v2 : Int32) : Prop := K7 v1 (v2 + 1)

def w_X1_twinRows_b61 (post : Int32 → Prop) (mcn : Int32) (so : (Nat → Int32)) (ki : (Nat → Int32)) (K7 : Int32 → Int32 → Prop) (v1 : Int32) (v2 : Int32) (v3 : Int32) : Prop := vp_in v2 4 ∧ ((((so v2.toNatClampNeg) = 0 → (((v3 = (1 : Int32) → (w_X1_twinRows_b78 post mcn so ki K7 (v1 + 1) v2)) ∧ (¬ v3 = (1 : Int32) → (w_X1_twinRows_b78 post mcn so ki K7 v1 v2))))) ∧ (¬ (so v2.toNatClampNeg) = 0 → (w_X1_twinRows_b78 post mcn so ki K7 v1 v2))))

def w_X1_twinRows_b55 (post : Int32 → Prop) (mcn : Int32) (so : (Nat → Int32)) (ki : (Nat → Int32)) (K7 : Int32 → Int32 → Prop) (K20 : Int32 → Int32 → Int32 → Int32 → Prop) (v1 : Int32) (v2 : Int32) (v3 : Int32) (v4 : Int32) : Prop := K20 v1 v2 v3 (v4 + 1)

def w_X1_twinRows_b20 (post : Int32 → Prop) (mcn : Int32) (so : (Nat → Int32)) (ki : (Nat → Int32)) (K7 : Int32 → Int32 → Prop) : Nat → Int32 → Int32 → Int32 → Int32 → Prop
  | 0, _, _, _, _ => False
  | n + 1, v1, v2, v3, v4 => ((v2 ≤ v4 → (w_X1_twinRows_b61 post mcn so ki K7 v1 v2 v3)) ∧ (¬ v2 ≤ v4 → (vp_in v4 4 ∧ ((((so v4.toNatClampNeg) = 0 → (vp_in v4 4 ∧ (vp_in v2 4 ∧ ((((ki v4.toNatClampNeg) = (ki v2.toNatClampNeg) → (w_X1_twinRows_b55 post mcn so ki K7 (w_X1_twinRows_b20 post mcn so ki K7 n) v1 v2 (v3 + 1) v4)) ∧ (¬ (ki v4.toNatClampNeg) = (ki v2.toNatClampNeg) → (w_X1_twinRows_b55 post mcn so ki K7 (w_X1_twinRows_b20 post mcn so ki K7 n) v1 v2 v3 v4))))))) ∧ (¬ (so v4.toNatClampNeg) = 0 → (w_X1_twinRows_b55 post mcn so ki K7 (w_X1_twinRows_b20 post mcn so ki K7 n) v1 v2 v3 v4)))))))

def w_X1_twinRows_b7 (post : Int32 → Prop) (mcn : Int32) (so : (Nat → Int32)) (ki : (Nat → Int32)) : Nat → Int32 → Int32 → Prop
  | 0, _, _ => False
  | n + 1, v1, v2 => (((4 : Int32) ≤ v2 → (post v1)) ∧ (¬ (4 : Int32) ≤ v2 → (∃ n9, w_X1_twinRows_b20 post mcn so ki (w_X1_twinRows_b7 post mcn so ki n) n9 v1 v2 (0 : Int32) mcn)))

def w_X1_twinRows (mcn : Int32) (so : (Nat → Int32)) (ki : (Nat → Int32)) (post : Int32 → Prop) : Prop := ∃ n9, w_X1_twinRows_b7 post mcn so ki n9 (0 : Int32) mcn

set_option maxHeartbeats 4000000 in
set_option maxRecDepth 100000 in
theorem c_X1_twinRows (l : Launch) (dC : Nat → ClassId) (dI : Nat → Nat → Nat) (cI cZ : ClassId) (x : Nat) (aH : Nat) (aL : Nat) (aS : Nat) (aO : Nat) (aK : Nat) (aZ : Nat) (cv : Nat) (sz : Nat) (tcn : Int32) (mcn : Int32) (swd : Int32) (rwd : Int32) (bpt : Int32) (flm : Int32) (so : (Nat → Int32)) (ki : (Nat → Int32)) (post : Int32 → Prop) (hw : w_X1_twinRows mcn so ki post) : Met l yX1_twinRows wsX1_twinRows ({ frames := 0, cells := 0, slots := 0, locals := 0 } : Room) (va_Pc [.ref x] (fun U => U.heap.size = sz ∧ va_P (dC, dI) vwCl [(x, .inr (1, [.ref aH, .ref aL, .ref aS, .ref aO, .ref aK, .ref aZ, .ref cv, .int tcn, .int mcn, .int swd, .int rwd, .int bpt, .int flm])), (aO, .inl (cI, 4, .inl so)), (aK, .inl (cI, 4, .inl ki))] U.heap ∧ va_K (dC, dI) vwCl [(cI, .int), (cZ, .boolean)] U ∧ va_D (fun _ => True) [(x, .inr (1, [.ref aH, .ref aL, .ref aS, .ref aO, .ref aK, .ref aZ, .ref cv, .int tcn, .int mcn, .int swd, .int rwd, .int bpt, .int flm])), (aO, .inl (cI, 4, .inl so)), (aK, .inl (cI, 4, .inl ki))])) (va_Qi (fun (r9 : Int32) (u9 : Unit) => post r9) (fun (u9 : Unit) (t9 : State) => va_P (dC, dI) vwCl [(x, .inr (1, [.ref aH, .ref aL, .ref aS, .ref aO, .ref aK, .ref aZ, .ref cv, .int tcn, .int mcn, .int swd, .int rwd, .int bpt, .int flm])), (aO, .inl (cI, 4, .inl so)), (aK, .inl (cI, 4, .inl ki))] t9.heap ∧ va_K (dC, dI) vwCl [(cI, .int), (cZ, .boolean)] t9 ∧ va_D (va_A [(x, .inr (1, [.ref aH, .ref aL, .ref aS, .ref aO, .ref aK, .ref aZ, .ref cv, .int tcn, .int mcn, .int swd, .int rwd, .int bpt, .int flm])), (aO, .inl (cI, 4, .inl so)), (aK, .inl (cI, 4, .inl ki))] sz) [(x, .inr (1, [.ref aH, .ref aL, .ref aS, .ref aO, .ref aK, .ref aZ, .ref cv, .int tcn, .int mcn, .int swd, .int rwd, .int bpt, .int flm])), (aO, .inl (cI, 4, .inl so)), (aK, .inl (cI, 4, .inl ki))]) (va_A [(x, .inr (1, [.ref aH, .ref aL, .ref aS, .ref aO, .ref aK, .ref aZ, .ref cv, .int tcn, .int mcn, .int swd, .int rwd, .int bpt, .int flm])), (aO, .inl (cI, 4, .inl so)), (aK, .inl (cI, 4, .inl ki))] sz)) 0 0 (va_A [(x, .inr (1, [.ref aH, .ref aL, .ref aS, .ref aO, .ref aK, .ref aZ, .ref cv, .int tcn, .int mcn, .int swd, .int rwd, .int bpt, .int flm])), (aO, .inl (cI, 4, .inl so)), (aK, .inl (cI, 4, .inl ki))] sz) := by
  refine Met.ofW (cc := cX1_twinRows) (maxL := 5) (ret := (some .int)) (by decide) rfl ?_
  intro p e s m args below meth c s₁ B hml hv
  obtain ⟨rfl, hsz, hP, hK, hD0⟩ := hv
  have hx := B.exec
  have hb := B.bytes
  have hr := B.returns
  have hts := atoms_spec (ws := wsX1_twinRows) B.pre
  have hown : s.vm.findClass RX1 = some m.cls := findClass_of_methodNamed B.named
  have hlocks := B.notSynchronized
  have hinX1 : ∀ w ∈ u_ws RX1 TX1 13, w ∈ wsX1_twinRows := by decide +kernel
  subst hsz
  have hD := hD0.self (sz := s.heap.size)
  generalize hAe : va_A [(x, .inr (1, [.ref aH, .ref aL, .ref aS, .ref aO, .ref aK, .ref aZ, .ref cv, .int tcn, .int mcn, .int swd, .int rwd, .int bpt, .int flm])), (aO, .inl (cI, 4, .inl so)), (aK, .inl (cI, 4, .inl ki))] s.heap.size = A at hD ⊢
  have hA : ∀ q : Nat, s.heap.size ≤ q → A q := fun q h => by rw [← hAe]; exact Or.inr h
  have hS : va_S A s.heap s.heap [] := va_S.rf
  have hl := lv_entry ([.ref x]) (n := 5) (Nat.le_of_ble_eq_true rfl)
  rw [lg_entry_eq]
  generalize (lg_sl ([.ref x]) ++ List.replicate (5 - (lg_sl ([.ref x])).length) Slot.unset).toArray = ls at hl ⊢
  have hl : lv_has ls 5 [(0, .ref x)] := hl
  refine (?_ : ∀ Q9 : State → Prop, MQ below _ _ s _ _ _ = Q9 → W p l e ({ frames := 0, cells := 0, slots := 0, locals := 0 } : Room) s m _ below meth c s.heap [] 0 0 Q9 (F0 m 0 ls [])) _ rfl
  intro Q9 hQ9
  have hw : ∃ n9, w_X1_twinRows_b7 post mcn so ki n9 (0 : Int32) mcn := hw
  have L78 : ∀ (K7 : Int32 → Int32 → Prop) (hK7 : ∀ (v1 : Int32) (v2 : Int32) (H : Heap) (locs : List Loc) (ls : Array Slot), K7 v1 v2 → va_P (dC, dI) vwCl [(x, .inr (1, [.ref aH, .ref aL, .ref aS, .ref aO, .ref aK, .ref aZ, .ref cv, .int tcn, .int mcn, .int swd, .int rwd, .int bpt, .int flm])), (aO, .inl (cI, 4, .inl so)), (aK, .inl (cI, 4, .inl ki))] H → va_D A [(x, .inr (1, [.ref aH, .ref aL, .ref aS, .ref aO, .ref aK, .ref aZ, .ref cv, .int tcn, .int mcn, .int swd, .int rwd, .int bpt, .int flm])), (aO, .inl (cI, 4, .inl so)), (aK, .inl (cI, 4, .inl ki))] → va_S A s.heap H locs → lv_has ls 5 [(0, .ref x), (1, .int v1), (2, .int v2)] → W p l e ({ frames := 0, cells := 0, slots := 0, locals := 0 } : Room) s m ([.ref x] : List Value).toArray below meth c H locs 0 0 Q9 (F0 m 7 ls [])), ∀ (v1 : Int32) (v2 : Int32) (H : Heap) (locs : List Loc) (ls : Array Slot), w_X1_twinRows_b78 post mcn so ki K7 v1 v2 → va_P (dC, dI) vwCl [(x, .inr (1, [.ref aH, .ref aL, .ref aS, .ref aO, .ref aK, .ref aZ, .ref cv, .int tcn, .int mcn, .int swd, .int rwd, .int bpt, .int flm])), (aO, .inl (cI, 4, .inl so)), (aK, .inl (cI, 4, .inl ki))] H → va_D A [(x, .inr (1, [.ref aH, .ref aL, .ref aS, .ref aO, .ref aK, .ref aZ, .ref cv, .int tcn, .int mcn, .int swd, .int rwd, .int bpt, .int flm])), (aO, .inl (cI, 4, .inl so)), (aK, .inl (cI, 4, .inl ki))] → va_S A s.heap H locs → lv_has ls 5 [(0, .ref x), (1, .int v1), (2, .int v2)] → W p l e ({ frames := 0, cells := 0, slots := 0, locals := 0 } : Room) s m ([.ref x] : List Value).toArray below meth c H locs 0 0 Q9 (F0 m 78 ls []) := by
    intro K7 hK7 v1 v2 H locs ls hw hP hD hS hl
    refine lv_iinc (v := v2 + 1) (lv' := [(2, .int (v2 + 1)), (0, .ref x), (1, .int v1)]) hx hb dX1_twinRows_78 hl (k := 2) rfl rfl (by decide) rfl (fun ls hl => ?_)
    refine lv_goto (tgt := 7) hx hb dX1_twinRows_81 (by decide) ?_
    exact hK7 v1 (v2 + 1) _ _ _ hw hP hD hS (lv_sub hl [1, 2, 0] rfl)
  have L61 : ∀ (K7 : Int32 → Int32 → Prop) (hK7 : ∀ (v1 : Int32) (v2 : Int32) (H : Heap) (locs : List Loc) (ls : Array Slot), K7 v1 v2 → va_P (dC, dI) vwCl [(x, .inr (1, [.ref aH, .ref aL, .ref aS, .ref aO, .ref aK, .ref aZ, .ref cv, .int tcn, .int mcn, .int swd, .int rwd, .int bpt, .int flm])), (aO, .inl (cI, 4, .inl so)), (aK, .inl (cI, 4, .inl ki))] H → va_D A [(x, .inr (1, [.ref aH, .ref aL, .ref aS, .ref aO, .ref aK, .ref aZ, .ref cv, .int tcn, .int mcn, .int swd, .int rwd, .int bpt, .int flm])), (aO, .inl (cI, 4, .inl so)), (aK, .inl (cI, 4, .inl ki))] → va_S A s.heap H locs → lv_has ls 5 [(0, .ref x), (1, .int v1), (2, .int v2)] → W p l e ({ frames := 0, cells := 0, slots := 0, locals := 0 } : Room) s m ([.ref x] : List Value).toArray below meth c H locs 0 0 Q9 (F0 m 7 ls [])), ∀ (v1 : Int32) (v2 : Int32) (v3 : Int32) (H : Heap) (locs : List Loc) (ls : Array Slot), w_X1_twinRows_b61 post mcn so ki K7 v1 v2 v3 → va_P (dC, dI) vwCl [(x, .inr (1, [.ref aH, .ref aL, .ref aS, .ref aO, .ref aK, .ref aZ, .ref cv, .int tcn, .int mcn, .int swd, .int rwd, .int bpt, .int flm])), (aO, .inl (cI, 4, .inl so)), (aK, .inl (cI, 4, .inl ki))] H → va_D A [(x, .inr (1, [.ref aH, .ref aL, .ref aS, .ref aO, .ref aK, .ref aZ, .ref cv, .int tcn, .int mcn, .int swd, .int rwd, .int bpt, .int flm])), (aO, .inl (cI, 4, .inl so)), (aK, .inl (cI, 4, .inl ki))] → va_S A s.heap H locs → lv_has ls 5 [(0, .ref x), (1, .int v1), (2, .int v2), (3, .int v3)] → W p l e ({ frames := 0, cells := 0, slots := 0, locals := 0 } : Room) s m ([.ref x] : List Value).toArray below meth c H locs 0 0 Q9 (F0 m 61 ls []) := by
    intro K7 hK7 v1 v2 v3 H locs ls hw hP hD hS hl
    refine lv_aload_n hx hb dX1_twinRows_61 rfl (lv_at hl 0 rfl) ?_
    refine va_get (D := (dC, dI)) (ci := 1) (v := .ref aO) (C := RX1) (T := TX1) (N := 13) hx hb hts hinX1 hown hK hP 0 rfl rfl 3 (by decide) (hts (.fieldLink RX1 19 "TileHand" "setSorts" "[I") (by decide +kernel)) (fun _ h9 => h9) rfl dX1_twinRows_62 ?_
    refine lv_iload_n hx hb dX1_twinRows_65 rfl (lv_at hl 2 rfl) ?_
    obtain ⟨h3, hw⟩ := hw
    refine va_iald hx hb hK hP 1 0 rfl rfl h3 dX1_twinRows_66 ?_
    refine lv_if_ne (tgt := 78) hx hb dX1_twinRows_67 (by decide) (fun c4 => ?_) (fun c4 => ?_)
    · have hw := hw.2 c4
      exact L78 K7 hK7 v1 v2 _ _ _ hw hP hD hS (lv_sub hl [0, 1, 2] rfl)
    · have hw := hw.1 c4
      refine lv_iload_n hx hb dX1_twinRows_70 rfl (lv_at hl 3 rfl) ?_
      refine lv_iconst (v := 1) hx hb dX1_twinRows_71 (by decide) ?_
      refine lv_icmp_ne (tgt := 78) hx hb dX1_twinRows_72 (by decide) (fun c5 => ?_) (fun c5 => ?_)
      · have hw := hw.2 c5
        exact L78 K7 hK7 v1 v2 _ _ _ hw hP hD hS (lv_sub hl [0, 1, 2] rfl)
      · have hw := hw.1 c5
        refine lv_iinc (v := v1 + 1) (lv' := [(1, .int (v1 + 1)), (0, .ref x), (2, .int v2), (3, .int v3)]) hx hb dX1_twinRows_75 hl (k := 1) rfl rfl (by decide) rfl (fun ls hl => ?_)
        exact L78 K7 hK7 (v1 + 1) v2 _ _ _ hw hP hD hS (lv_sub hl [1, 0, 2] rfl)
  have L55 : ∀ (K7 : Int32 → Int32 → Prop) (hK7 : ∀ (v1 : Int32) (v2 : Int32) (H : Heap) (locs : List Loc) (ls : Array Slot), K7 v1 v2 → va_P (dC, dI) vwCl [(x, .inr (1, [.ref aH, .ref aL, .ref aS, .ref aO, .ref aK, .ref aZ, .ref cv, .int tcn, .int mcn, .int swd, .int rwd, .int bpt, .int flm])), (aO, .inl (cI, 4, .inl so)), (aK, .inl (cI, 4, .inl ki))] H → va_D A [(x, .inr (1, [.ref aH, .ref aL, .ref aS, .ref aO, .ref aK, .ref aZ, .ref cv, .int tcn, .int mcn, .int swd, .int rwd, .int bpt, .int flm])), (aO, .inl (cI, 4, .inl so)), (aK, .inl (cI, 4, .inl ki))] → va_S A s.heap H locs → lv_has ls 5 [(0, .ref x), (1, .int v1), (2, .int v2)] → W p l e ({ frames := 0, cells := 0, slots := 0, locals := 0 } : Room) s m ([.ref x] : List Value).toArray below meth c H locs 0 0 Q9 (F0 m 7 ls [])) (K20 : Int32 → Int32 → Int32 → Int32 → Prop) (hK20 : ∀ (v1 : Int32) (v2 : Int32) (v3 : Int32) (v4 : Int32) (H : Heap) (locs : List Loc) (ls : Array Slot), K20 v1 v2 v3 v4 → va_P (dC, dI) vwCl [(x, .inr (1, [.ref aH, .ref aL, .ref aS, .ref aO, .ref aK, .ref aZ, .ref cv, .int tcn, .int mcn, .int swd, .int rwd, .int bpt, .int flm])), (aO, .inl (cI, 4, .inl so)), (aK, .inl (cI, 4, .inl ki))] H → va_D A [(x, .inr (1, [.ref aH, .ref aL, .ref aS, .ref aO, .ref aK, .ref aZ, .ref cv, .int tcn, .int mcn, .int swd, .int rwd, .int bpt, .int flm])), (aO, .inl (cI, 4, .inl so)), (aK, .inl (cI, 4, .inl ki))] → va_S A s.heap H locs → lv_has ls 5 [(0, .ref x), (1, .int v1), (2, .int v2), (3, .int v3), (4, .int v4)] → W p l e ({ frames := 0, cells := 0, slots := 0, locals := 0 } : Room) s m ([.ref x] : List Value).toArray below meth c H locs 0 0 Q9 (F0 m 20 ls [])), ∀ (v1 : Int32) (v2 : Int32) (v3 : Int32) (v4 : Int32) (H : Heap) (locs : List Loc) (ls : Array Slot), w_X1_twinRows_b55 post mcn so ki K7 K20 v1 v2 v3 v4 → va_P (dC, dI) vwCl [(x, .inr (1, [.ref aH, .ref aL, .ref aS, .ref aO, .ref aK, .ref aZ, .ref cv, .int tcn, .int mcn, .int swd, .int rwd, .int bpt, .int flm])), (aO, .inl (cI, 4, .inl so)), (aK, .inl (cI, 4, .inl ki))] H → va_D A [(x, .inr (1, [.ref aH, .ref aL, .ref aS, .ref aO, .ref aK, .ref aZ, .ref cv, .int tcn, .int mcn, .int swd, .int rwd, .int bpt, .int flm])), (aO, .inl (cI, 4, .inl so)), (aK, .inl (cI, 4, .inl ki))] → va_S A s.heap H locs → lv_has ls 5 [(0, .ref x), (1, .int v1), (2, .int v2), (3, .int v3), (4, .int v4)] → W p l e ({ frames := 0, cells := 0, slots := 0, locals := 0 } : Room) s m ([.ref x] : List Value).toArray below meth c H locs 0 0 Q9 (F0 m 55 ls []) := by
    intro K7 hK7 K20 hK20 v1 v2 v3 v4 H locs ls hw hP hD hS hl
    refine lv_iinc (v := v4 + 1) (lv' := [(4, .int (v4 + 1)), (0, .ref x), (1, .int v1), (2, .int v2), (3, .int v3)]) hx hb dX1_twinRows_55 hl (k := 4) rfl rfl (by decide) rfl (fun ls hl => ?_)
    refine lv_goto (tgt := 20) hx hb dX1_twinRows_58 (by decide) ?_
    exact hK20 v1 v2 v3 (v4 + 1) _ _ _ hw hP hD hS (lv_sub hl [1, 2, 3, 4, 0] rfl)
  have L20 : ∀ (K7 : Int32 → Int32 → Prop) (hK7 : ∀ (v1 : Int32) (v2 : Int32) (H : Heap) (locs : List Loc) (ls : Array Slot), K7 v1 v2 → va_P (dC, dI) vwCl [(x, .inr (1, [.ref aH, .ref aL, .ref aS, .ref aO, .ref aK, .ref aZ, .ref cv, .int tcn, .int mcn, .int swd, .int rwd, .int bpt, .int flm])), (aO, .inl (cI, 4, .inl so)), (aK, .inl (cI, 4, .inl ki))] H → va_D A [(x, .inr (1, [.ref aH, .ref aL, .ref aS, .ref aO, .ref aK, .ref aZ, .ref cv, .int tcn, .int mcn, .int swd, .int rwd, .int bpt, .int flm])), (aO, .inl (cI, 4, .inl so)), (aK, .inl (cI, 4, .inl ki))] → va_S A s.heap H locs → lv_has ls 5 [(0, .ref x), (1, .int v1), (2, .int v2)] → W p l e ({ frames := 0, cells := 0, slots := 0, locals := 0 } : Room) s m ([.ref x] : List Value).toArray below meth c H locs 0 0 Q9 (F0 m 7 ls [])), ∀ (n : Nat), ∀ (v1 : Int32) (v2 : Int32) (v3 : Int32) (v4 : Int32) (H : Heap) (locs : List Loc) (ls : Array Slot), w_X1_twinRows_b20 post mcn so ki K7 n v1 v2 v3 v4 → va_P (dC, dI) vwCl [(x, .inr (1, [.ref aH, .ref aL, .ref aS, .ref aO, .ref aK, .ref aZ, .ref cv, .int tcn, .int mcn, .int swd, .int rwd, .int bpt, .int flm])), (aO, .inl (cI, 4, .inl so)), (aK, .inl (cI, 4, .inl ki))] H → va_D A [(x, .inr (1, [.ref aH, .ref aL, .ref aS, .ref aO, .ref aK, .ref aZ, .ref cv, .int tcn, .int mcn, .int swd, .int rwd, .int bpt, .int flm])), (aO, .inl (cI, 4, .inl so)), (aK, .inl (cI, 4, .inl ki))] → va_S A s.heap H locs → lv_has ls 5 [(0, .ref x), (1, .int v1), (2, .int v2), (3, .int v3), (4, .int v4)] → W p l e ({ frames := 0, cells := 0, slots := 0, locals := 0 } : Room) s m ([.ref x] : List Value).toArray below meth c H locs 0 0 Q9 (F0 m 20 ls []) := by
    intro K7 hK7 n
    induction n with
    | zero => intro v1 v2 v3 v4 H locs ls hw _ _ _ _; exact False.elim hw
    | succ n ih =>
      intro v1 v2 v3 v4 H locs ls hw hP hD hS hl
      refine lv_iload hx hb dX1_twinRows_20 (lv_at hl 4 rfl) ?_
      refine lv_iload_n hx hb dX1_twinRows_22 rfl (lv_at hl 2 rfl) ?_
      refine lv_icmp_ge (tgt := 61) hx hb dX1_twinRows_23 (by decide) (fun c2 => ?_) (fun c2 => ?_)
      · have hw := hw.1 c2
        exact L61 K7 hK7 v1 v2 v3 _ _ _ hw hP hD hS (lv_sub hl [0, 1, 2, 3] rfl)
      · have hw := hw.2 c2
        refine lv_aload_n hx hb dX1_twinRows_26 rfl (lv_at hl 0 rfl) ?_
        refine va_get (D := (dC, dI)) (ci := 1) (v := .ref aO) (C := RX1) (T := TX1) (N := 13) hx hb hts hinX1 hown hK hP 0 rfl rfl 3 (by decide) (hts (.fieldLink RX1 19 "TileHand" "setSorts" "[I") (by decide +kernel)) (fun _ h9 => h9) rfl dX1_twinRows_27 ?_
        refine lv_iload hx hb dX1_twinRows_30 (lv_at hl 4 rfl) ?_
        obtain ⟨h6, hw⟩ := hw
        refine va_iald hx hb hK hP 1 0 rfl rfl h6 dX1_twinRows_32 ?_
        refine lv_if_ne (tgt := 55) hx hb dX1_twinRows_33 (by decide) (fun c7 => ?_) (fun c7 => ?_)
        · have hw := hw.2 c7
          exact L55 K7 hK7 (w_X1_twinRows_b20 post mcn so ki K7 n) ih v1 v2 v3 v4 _ _ _ hw hP hD hS (lv_sub hl [0, 1, 2, 3, 4] rfl)
        · have hw := hw.1 c7
          refine lv_aload_n hx hb dX1_twinRows_36 rfl (lv_at hl 0 rfl) ?_
          refine va_get (D := (dC, dI)) (ci := 1) (v := .ref aK) (C := RX1) (T := TX1) (N := 13) hx hb hts hinX1 hown hK hP 0 rfl rfl 4 (by decide) (hts (.fieldLink RX1 22 "TileHand" "setKinds" "[I") (by decide +kernel)) (fun _ h9 => h9) rfl dX1_twinRows_37 ?_
          refine lv_iload hx hb dX1_twinRows_40 (lv_at hl 4 rfl) ?_
          obtain ⟨h8, hw⟩ := hw
          refine va_iald hx hb hK hP 2 0 rfl rfl h8 dX1_twinRows_42 ?_
          refine lv_aload_n hx hb dX1_twinRows_43 rfl (lv_at hl 0 rfl) ?_
          refine va_get (D := (dC, dI)) (ci := 1) (v := .ref aK) (C := RX1) (T := TX1) (N := 13) hx hb hts hinX1 hown hK hP 0 rfl rfl 4 (by decide) (hts (.fieldLink RX1 22 "TileHand" "setKinds" "[I") (by decide +kernel)) (fun _ h9 => h9) rfl dX1_twinRows_44 ?_
          refine lv_iload_n hx hb dX1_twinRows_47 rfl (lv_at hl 2 rfl) ?_
          obtain ⟨h9, hw⟩ := hw
          refine va_iald hx hb hK hP 2 0 rfl rfl h9 dX1_twinRows_48 ?_
          refine lv_icmp_ne (tgt := 55) hx hb dX1_twinRows_49 (by decide) (fun c10 => ?_) (fun c10 => ?_)
          · have hw := hw.2 c10
            exact L55 K7 hK7 (w_X1_twinRows_b20 post mcn so ki K7 n) ih v1 v2 v3 v4 _ _ _ hw hP hD hS (lv_sub hl [0, 1, 2, 3, 4] rfl)
          · have hw := hw.1 c10
            refine lv_iinc (v := v3 + 1) (lv' := [(3, .int (v3 + 1)), (0, .ref x), (1, .int v1), (2, .int v2), (4, .int v4)]) hx hb dX1_twinRows_52 hl (k := 3) rfl rfl (by decide) rfl (fun ls hl => ?_)
            exact L55 K7 hK7 (w_X1_twinRows_b20 post mcn so ki K7 n) ih v1 v2 (v3 + 1) v4 _ _ _ hw hP hD hS (lv_sub hl [1, 2, 3, 0, 4] rfl)
  have L7 : ∀ (n : Nat), ∀ (v1 : Int32) (v2 : Int32) (H : Heap) (locs : List Loc) (ls : Array Slot), w_X1_twinRows_b7 post mcn so ki n v1 v2 → va_P (dC, dI) vwCl [(x, .inr (1, [.ref aH, .ref aL, .ref aS, .ref aO, .ref aK, .ref aZ, .ref cv, .int tcn, .int mcn, .int swd, .int rwd, .int bpt, .int flm])), (aO, .inl (cI, 4, .inl so)), (aK, .inl (cI, 4, .inl ki))] H → va_D A [(x, .inr (1, [.ref aH, .ref aL, .ref aS, .ref aO, .ref aK, .ref aZ, .ref cv, .int tcn, .int mcn, .int swd, .int rwd, .int bpt, .int flm])), (aO, .inl (cI, 4, .inl so)), (aK, .inl (cI, 4, .inl ki))] → va_S A s.heap H locs → lv_has ls 5 [(0, .ref x), (1, .int v1), (2, .int v2)] → W p l e ({ frames := 0, cells := 0, slots := 0, locals := 0 } : Room) s m ([.ref x] : List Value).toArray below meth c H locs 0 0 Q9 (F0 m 7 ls []) := by
    intro n
    induction n with
    | zero => intro v1 v2 H locs ls hw _ _ _ _; exact False.elim hw
    | succ n ih =>
      intro v1 v2 H locs ls hw hP hD hS hl
      refine lv_iload_n hx hb dX1_twinRows_7 rfl (lv_at hl 2 rfl) ?_
      refine lv_iconst (v := 4) hx hb dX1_twinRows_8 (by decide) ?_
      refine lv_icmp_ge (tgt := 84) hx hb dX1_twinRows_9 (by decide) (fun c1 => ?_) (fun c1 => ?_)
      · have hw := hw.1 c1
        refine lv_iload_n hx hb dX1_twinRows_84 rfl (lv_at hl 1 rfl) ?_
        rw [← hQ9]
        exact W.iret (v := v1) hx hb hr (fun t ht hW => ⟨⟨v1, (), rfl, hw, by rw [ht]; exact hP, va_K.moved hW.alike hK, hD⟩, hS.F ht⟩) hS.2.2 dX1_twinRows_85
      · have hw := hw.2 c1
        refine lv_iconst (v := 0) hx hb dX1_twinRows_12 (by decide) ?_
        refine lv_istore_n (lv' := [(3, .int (0 : Int32)), (0, .ref x), (1, .int v1), (2, .int v2)]) hx hb dX1_twinRows_13 rfl hl (by decide) rfl (fun ls hl => ?_)
        refine lv_aload_n hx hb dX1_twinRows_14 rfl (lv_at hl 1 rfl) ?_
        refine va_get (D := (dC, dI)) (ci := 1) (v := .int mcn) (C := RX1) (T := TX1) (N := 13) hx hb hts hinX1 hown hK hP 0 rfl rfl 8 (by decide) (hts (.fieldLink RX1 89 "TileHand" "meldCount" "I") (by decide +kernel)) (fun _ h9 => h9) rfl dX1_twinRows_15 ?_
        refine lv_istore (lv' := [(4, .int mcn), (3, .int (0 : Int32)), (0, .ref x), (1, .int v1), (2, .int v2)]) hx hb dX1_twinRows_18 hl (by decide) rfl (fun ls hl => ?_)
        obtain ⟨n9, hw⟩ := hw
        exact L20 (w_X1_twinRows_b7 post mcn so ki n) ih n9 v1 v2 (0 : Int32) mcn _ _ _ hw hP hD hS (lv_sub hl [2, 3, 4, 1, 0] rfl)
  refine lv_iconst (v := 0) hx hb dX1_twinRows_0 (by decide) ?_
  refine lv_istore_n (lv' := [(1, .int (0 : Int32)), (0, .ref x)]) hx hb dX1_twinRows_1 rfl hl (by decide) rfl (fun ls hl => ?_)
  refine lv_aload_n hx hb dX1_twinRows_2 rfl (lv_at hl 1 rfl) ?_
  refine va_get (D := (dC, dI)) (ci := 1) (v := .int mcn) (C := RX1) (T := TX1) (N := 13) hx hb hts hinX1 hown hK hP 0 rfl rfl 8 (by decide) (hts (.fieldLink RX1 89 "TileHand" "meldCount" "I") (by decide +kernel)) (fun _ h9 => h9) rfl dX1_twinRows_3 ?_
  refine lv_istore_n (lv' := [(2, .int mcn), (1, .int (0 : Int32)), (0, .ref x)]) hx hb dX1_twinRows_6 rfl hl (by decide) rfl (fun ls hl => ?_)
  obtain ⟨n9, hw⟩ := hw
  exact L7 n9 (0 : Int32) mcn _ _ _ hw hP hD hS (lv_sub hl [2, 1, 0] rfl)

def w_X1_fansOfSets_b73 (post : Int32 → Prop) (mcn : Int32) (swd : Int32) (rwd : Int32) (so : (Nat → Int32)) (ki : (Nat → Int32)) (p0 : Int32) (v2 : Int32) (v3 : Int32) : Prop := ((v3 = (4 : Int32) → (w_X1_honourFans swd rwd p0 (fun r5 => (((r5 = 0 → (post (v2 + 1))) ∧ (¬ r5 = 0 → (post v2))))))) ∧ (¬ v3 = (4 : Int32) → (post v2)))

def w_X1_fansOfSets_b66 (post : Int32 → Prop) (mcn : Int32) (swd : Int32) (rwd : Int32) (so : (Nat → Int32)) (ki : (Nat → Int32)) (p0 : Int32) (v2 : Int32) (v3 : Int32) : Prop := ((v3 = 0 → (w_X1_fansOfSets_b73 post mcn swd rwd so ki p0 (v2 + 2) v3)) ∧ (¬ v3 = 0 → (w_X1_fansOfSets_b73 post mcn swd rwd so ki p0 v2 v3)))

def w_X1_fansOfSets_b60 (post : Int32 → Prop) (mcn : Int32) (swd : Int32) (rwd : Int32) (so : (Nat → Int32)) (ki : (Nat → Int32)) (p0 : Int32) (K10 : Int32 → Int32 → Int32 → Prop) (v2 : Int32) (v3 : Int32) (v4 : Int32) : Prop := K10 v2 v3 (v4 + 1)

def w_X1_fansOfSets_b46 (post : Int32 → Prop) (mcn : Int32) (swd : Int32) (rwd : Int32) (so : (Nat → Int32)) (ki : (Nat → Int32)) (p0 : Int32) (K10 : Int32 → Int32 → Int32 → Prop) (v2 : Int32) (v3 : Int32) (v4 : Int32) : Prop := vp_in v4 4 ∧ ((((so v4.toNatClampNeg) = (2 : Int32) → (w_X1_fansOfSets_b60 post mcn swd rwd so ki p0 K10 (v2 + 1) v3 v4)) ∧ (¬ (so v4.toNatClampNeg) = (2 : Int32) → (w_X1_fansOfSets_b60 post mcn swd rwd so ki p0 K10 v2 v3 v4))))

def w_X1_fansOfSets_b10 (post : Int32 → Prop) (mcn : Int32) (swd : Int32) (rwd : Int32) (so : (Nat → Int32)) (ki : (Nat → Int32)) (p0 : Int32) : Nat → Int32 → Int32 → Int32 → Prop
  | 0, _, _, _ => False
  | n + 1, v2, v3, v4 => (((4 : Int32) ≤ v4 → (w_X1_fansOfSets_b66 post mcn swd rwd so ki p0 v2 v3)) ∧ (¬ (4 : Int32) ≤ v4 → (vp_in v4 4 ∧ ((((so v4.toNatClampNeg) = 0 → (w_X1_fansOfSets_b46 post mcn swd rwd so ki p0 (w_X1_fansOfSets_b10 post mcn swd rwd so ki p0 n) v2 (v3 + 1) v4)) ∧ (¬ (so v4.toNatClampNeg) = 0 → (vp_in v4 4 ∧ (w_X1_honourFans swd rwd (ki v4.toNatClampNeg) (fun r10 => (w_X1_fansOfSets_b46 post mcn swd rwd so ki p0 (w_X1_fansOfSets_b10 post mcn swd rwd so ki p0 n) (v2 + r10) v3 v4))))))))))

def w_X1_fansOfSets (mcn : Int32) (swd : Int32) (rwd : Int32) (so : (Nat → Int32)) (ki : (Nat → Int32)) (p0 : Int32) (post : Int32 → Prop) : Prop := w_X1_twinRows mcn so ki (fun r1 => (∃ n9, w_X1_fansOfSets_b10 post mcn swd rwd so ki p0 n9 r1 (0 : Int32) (0 : Int32)))

set_option maxHeartbeats 4000000 in
set_option maxRecDepth 100000 in
theorem c_X1_fansOfSets (l : Launch) (dC : Nat → ClassId) (dI : Nat → Nat → Nat) (cI cZ : ClassId) (x : Nat) (aH : Nat) (aL : Nat) (aS : Nat) (aO : Nat) (aK : Nat) (aZ : Nat) (cv : Nat) (sz : Nat) (tcn : Int32) (mcn : Int32) (swd : Int32) (rwd : Int32) (bpt : Int32) (flm : Int32) (so : (Nat → Int32)) (ki : (Nat → Int32)) (p0 : Int32) (post : Int32 → Prop) (hw : w_X1_fansOfSets mcn swd rwd so ki p0 post) : Met l yX1_fansOfSets wsX1_fansOfSets ({ frames := 2, cells := 0, slots := 0, locals := 40 } : Room) (va_Pc [.ref x, .int p0] (fun U => U.heap.size = sz ∧ va_P (dC, dI) vwCl [(x, .inr (1, [.ref aH, .ref aL, .ref aS, .ref aO, .ref aK, .ref aZ, .ref cv, .int tcn, .int mcn, .int swd, .int rwd, .int bpt, .int flm])), (aO, .inl (cI, 4, .inl so)), (aK, .inl (cI, 4, .inl ki))] U.heap ∧ va_K (dC, dI) vwCl [(cI, .int), (cZ, .boolean)] U ∧ va_D (fun _ => True) [(x, .inr (1, [.ref aH, .ref aL, .ref aS, .ref aO, .ref aK, .ref aZ, .ref cv, .int tcn, .int mcn, .int swd, .int rwd, .int bpt, .int flm])), (aO, .inl (cI, 4, .inl so)), (aK, .inl (cI, 4, .inl ki))])) (va_Qi (fun (r9 : Int32) (u9 : Unit) => post r9) (fun (u9 : Unit) (t9 : State) => va_P (dC, dI) vwCl [(x, .inr (1, [.ref aH, .ref aL, .ref aS, .ref aO, .ref aK, .ref aZ, .ref cv, .int tcn, .int mcn, .int swd, .int rwd, .int bpt, .int flm])), (aO, .inl (cI, 4, .inl so)), (aK, .inl (cI, 4, .inl ki))] t9.heap ∧ va_K (dC, dI) vwCl [(cI, .int), (cZ, .boolean)] t9 ∧ va_D (va_A [(x, .inr (1, [.ref aH, .ref aL, .ref aS, .ref aO, .ref aK, .ref aZ, .ref cv, .int tcn, .int mcn, .int swd, .int rwd, .int bpt, .int flm])), (aO, .inl (cI, 4, .inl so)), (aK, .inl (cI, 4, .inl ki))] sz) [(x, .inr (1, [.ref aH, .ref aL, .ref aS, .ref aO, .ref aK, .ref aZ, .ref cv, .int tcn, .int mcn, .int swd, .int rwd, .int bpt, .int flm])), (aO, .inl (cI, 4, .inl so)), (aK, .inl (cI, 4, .inl ki))]) (va_A [(x, .inr (1, [.ref aH, .ref aL, .ref aS, .ref aO, .ref aK, .ref aZ, .ref cv, .int tcn, .int mcn, .int swd, .int rwd, .int bpt, .int flm])), (aO, .inl (cI, 4, .inl so)), (aK, .inl (cI, 4, .inl ki))] sz)) 0 0 (va_A [(x, .inr (1, [.ref aH, .ref aL, .ref aS, .ref aO, .ref aK, .ref aZ, .ref cv, .int tcn, .int mcn, .int swd, .int rwd, .int bpt, .int flm])), (aO, .inl (cI, 4, .inl so)), (aK, .inl (cI, 4, .inl ki))] sz) := by
  refine Met.ofW (cc := cX1_fansOfSets) (maxL := 5) (ret := (some .int)) (by decide) rfl ?_
  intro p e s m args below meth c s₁ B hml hv
  obtain ⟨rfl, hsz, hP, hK, hD0⟩ := hv
  have hx := B.exec
  have hb := B.bytes
  have hr := B.returns
  have hts := atoms_spec (ws := wsX1_fansOfSets) B.pre
  have hown : s.vm.findClass RX1 = some m.cls := findClass_of_methodNamed B.named
  have hlocks := B.notSynchronized
  have hinX1 : ∀ w ∈ u_ws RX1 TX1 13, w ∈ wsX1_fansOfSets := by decide +kernel
  subst hsz
  have hD := hD0.self (sz := s.heap.size)
  generalize hAe : va_A [(x, .inr (1, [.ref aH, .ref aL, .ref aS, .ref aO, .ref aK, .ref aZ, .ref cv, .int tcn, .int mcn, .int swd, .int rwd, .int bpt, .int flm])), (aO, .inl (cI, 4, .inl so)), (aK, .inl (cI, 4, .inl ki))] s.heap.size = A at hD ⊢
  have hA : ∀ q : Nat, s.heap.size ≤ q → A q := fun q h => by rw [← hAe]; exact Or.inr h
  have hS : va_S A s.heap s.heap [] := va_S.rf
  have hl := lv_entry ([.ref x, .int p0]) (n := 5) (Nat.le_of_ble_eq_true rfl)
  rw [lg_entry_eq]
  generalize (lg_sl ([.ref x, .int p0]) ++ List.replicate (5 - (lg_sl ([.ref x, .int p0])).length) Slot.unset).toArray = ls at hl ⊢
  have hl : lv_has ls 5 [(0, .ref x), (1, .int p0)] := hl
  refine (?_ : ∀ Q9 : State → Prop, MQ below _ _ s _ _ _ = Q9 → W p l e ({ frames := 2, cells := 0, slots := 0, locals := 40 } : Room) s m _ below meth c s.heap [] 0 0 Q9 (F0 m 0 ls [])) _ rfl
  intro Q9 hQ9
  have hw : w_X1_twinRows mcn so ki (fun r1 => (∃ n9, w_X1_fansOfSets_b10 post mcn swd rwd so ki p0 n9 r1 (0 : Int32) (0 : Int32))) := hw
  have L73 : ∀ (v2 : Int32) (v3 : Int32) (H : Heap) (locs : List Loc) (ls : Array Slot), w_X1_fansOfSets_b73 post mcn swd rwd so ki p0 v2 v3 → va_P (dC, dI) vwCl [(x, .inr (1, [.ref aH, .ref aL, .ref aS, .ref aO, .ref aK, .ref aZ, .ref cv, .int tcn, .int mcn, .int swd, .int rwd, .int bpt, .int flm])), (aO, .inl (cI, 4, .inl so)), (aK, .inl (cI, 4, .inl ki))] H → va_D A [(x, .inr (1, [.ref aH, .ref aL, .ref aS, .ref aO, .ref aK, .ref aZ, .ref cv, .int tcn, .int mcn, .int swd, .int rwd, .int bpt, .int flm])), (aO, .inl (cI, 4, .inl so)), (aK, .inl (cI, 4, .inl ki))] → va_S A s.heap H locs → lv_has ls 5 [(0, .ref x), (1, .int p0), (2, .int v2), (3, .int v3)] → W p l e ({ frames := 2, cells := 0, slots := 0, locals := 40 } : Room) s m ([.ref x, .int p0] : List Value).toArray below meth c H locs 0 0 Q9 (F0 m 73 ls []) := by
    intro v2 v3 H locs ls hw hP hD hS hl
    refine lv_iload_n hx hb dX1_fansOfSets_73 rfl (lv_at hl 3 rfl) ?_
    refine lv_iconst (v := 4) hx hb dX1_fansOfSets_74 (by decide) ?_
    refine lv_icmp_ne (tgt := 89) hx hb dX1_fansOfSets_75 (by decide) (fun c4 => ?_) (fun c4 => ?_)
    · have hw := hw.2 c4
      refine lv_iload_n hx hb dX1_fansOfSets_89 rfl (lv_at hl 2 rfl) ?_
      rw [← hQ9]
      exact W.iret (v := v2) hx hb hr (fun t ht hW => ⟨⟨v2, (), rfl, hw, by rw [ht]; exact hP, va_K.moved hW.alike hK, hD⟩, hS.F ht⟩) hS.2.2 dX1_fansOfSets_90
    · have hw := hw.1 c4
      refine lv_aload_n hx hb dX1_fansOfSets_78 rfl (lv_at hl 0 rfl) ?_
      refine lv_iload_n hx hb dX1_fansOfSets_79 rfl (lv_at hl 1 rfl) ?_
      have hPc := hP.sub (ws' := [(x, .inr (1, [.ref aH, .ref aL, .ref aS, .ref aO, .ref aK, .ref aZ, .ref cv, .int tcn, .int mcn, .int swd, .int rwd, .int bpt, .int flm]))]) [0] rfl
      have hDc := hD.sub (ws' := [(x, .inr (1, [.ref aH, .ref aL, .ref aS, .ref aO, .ref aK, .ref aZ, .ref cv, .int tcn, .int mcn, .int swd, .int rwd, .int bpt, .int flm]))]) [0] (by decide) rfl
      have hFc := va_free (wc := [(x, .inr (1, [.ref aH, .ref aL, .ref aS, .ref aO, .ref aK, .ref aZ, .ref cv, .int tcn, .int mcn, .int swd, .int rwd, .int bpt, .int flm]))]) hD hS hA [0] rfl
      refine va_calli (va_runV (As := [.int p0]) (rest := []) ⟨hx, hb, hml, hown, hts⟩ (c_X1_honourFans l dC dI cI cZ x aH aL aS aO aK aZ cv H.size tcn mcn swd rwd bpt flm p0 _ hw) (cwV 1 hts gX1_fansOfSets_X1_honourFans rfl rfl rfl (by decide +kernel) ⟨Nat.le_of_ble_eq_true rfl, Nat.le_of_ble_eq_true rfl⟩) ⟨fun a U g mk q => by obtain ⟨q0, q1, qP, qK, qD⟩ := q; exact ⟨q0, q1, qP, va_K.moved (u := U) (U := U.calling g mk a) (Vm.Alike.refl U.vm) qK, qD⟩, va_recv hK hPc (ci := 1) (q0 := 0) rfl rfl, fun U hU hW => ⟨rfl, by rw [hU], by rw [hU]; exact hPc, va_K.moved hW.alike hK, hDc.weaken (fun _ _ _ _ => trivial)⟩⟩ rfl rfl hl.1 rfl (lv_room (Nat.le_of_ble_eq_true rfl)) dX1_fansOfSets_80 ⟨Nat.le_of_ble_eq_true rfl, Nat.le_of_ble_eq_true rfl⟩) hS (fun q _ h => hFc q h) hFc (fun r5 u t H1 locs ht hvm hw hB hz1 hk1 hS => ?_)
      obtain ⟨hP1, -, hD1⟩ := hB
      have hw := And.intro hw trivial
      try dsimp only at hw
      have hw := hw.1
      rw [ht] at hP1
      obtain ⟨hP, hD⟩ := va_join (wr := [(aO, .inl (cI, 4, .inl so)), (aK, .inl (cI, 4, .inl ki))]) (w1 := [(x, .inr (1, [.ref aH, .ref aL, .ref aS, .ref aO, .ref aK, .ref aZ, .ref cv, .int tcn, .int mcn, .int swd, .int rwd, .int bpt, .int flm]))]) hP hD [0] [1, 2] rfl rfl (by decide) (by decide) hk1 hFc hP1 hD1
      generalize H1 = H at hP hS ⊢
      have hP : va_P (dC, dI) vwCl [(aO, .inl (cI, 4, .inl so)), (aK, .inl (cI, 4, .inl ki)), (x, .inr (1, [.ref aH, .ref aL, .ref aS, .ref aO, .ref aK, .ref aZ, .ref cv, .int tcn, .int mcn, .int swd, .int rwd, .int bpt, .int flm]))] H := hP
      have hD : va_D A [(aO, .inl (cI, 4, .inl so)), (aK, .inl (cI, 4, .inl ki)), (x, .inr (1, [.ref aH, .ref aL, .ref aS, .ref aO, .ref aK, .ref aZ, .ref cv, .int tcn, .int mcn, .int swd, .int rwd, .int bpt, .int flm]))] := hD
      refine lv_if_ne (tgt := 89) hx hb dX1_fansOfSets_83 (by decide) (fun c6 => ?_) (fun c6 => ?_)
      · have hw := hw.2 c6
        refine lv_iload_n hx hb dX1_fansOfSets_89 rfl (lv_at hl 2 rfl) ?_
        have hP9 := hP.sub (ws' := [(x, .inr (1, [.ref aH, .ref aL, .ref aS, .ref aO, .ref aK, .ref aZ, .ref cv, .int tcn, .int mcn, .int swd, .int rwd, .int bpt, .int flm])), (aO, .inl (cI, 4, .inl so)), (aK, .inl (cI, 4, .inl ki))]) [2, 0, 1] rfl
        have hD9 := hD.sub (ws' := [(x, .inr (1, [.ref aH, .ref aL, .ref aS, .ref aO, .ref aK, .ref aZ, .ref cv, .int tcn, .int mcn, .int swd, .int rwd, .int bpt, .int flm])), (aO, .inl (cI, 4, .inl so)), (aK, .inl (cI, 4, .inl ki))]) [2, 0, 1] (by decide) rfl
        rw [← hQ9]
        exact W.iret (v := v2) hx hb hr (fun t ht hW => ⟨⟨v2, (), rfl, hw, by rw [ht]; exact hP9, va_K.moved hW.alike hK, hD9⟩, hS.F ht⟩) hS.2.2 dX1_fansOfSets_90
      · have hw := hw.1 c6
        refine lv_iinc (v := v2 + 1) (lv' := [(2, .int (v2 + 1)), (0, .ref x), (1, .int p0), (3, .int v3)]) hx hb dX1_fansOfSets_86 hl (k := 2) rfl rfl (by decide) rfl (fun ls hl => ?_)
        refine lv_iload_n hx hb dX1_fansOfSets_89 rfl (lv_at hl 0 rfl) ?_
        have hP9 := hP.sub (ws' := [(x, .inr (1, [.ref aH, .ref aL, .ref aS, .ref aO, .ref aK, .ref aZ, .ref cv, .int tcn, .int mcn, .int swd, .int rwd, .int bpt, .int flm])), (aO, .inl (cI, 4, .inl so)), (aK, .inl (cI, 4, .inl ki))]) [2, 0, 1] rfl
        have hD9 := hD.sub (ws' := [(x, .inr (1, [.ref aH, .ref aL, .ref aS, .ref aO, .ref aK, .ref aZ, .ref cv, .int tcn, .int mcn, .int swd, .int rwd, .int bpt, .int flm])), (aO, .inl (cI, 4, .inl so)), (aK, .inl (cI, 4, .inl ki))]) [2, 0, 1] (by decide) rfl
        rw [← hQ9]
        exact W.iret (v := v2 + 1) hx hb hr (fun t ht hW => ⟨⟨v2 + 1, (), rfl, hw, by rw [ht]; exact hP9, va_K.moved hW.alike hK, hD9⟩, hS.F ht⟩) hS.2.2 dX1_fansOfSets_90
  have L66 : ∀ (v2 : Int32) (v3 : Int32) (H : Heap) (locs : List Loc) (ls : Array Slot), w_X1_fansOfSets_b66 post mcn swd rwd so ki p0 v2 v3 → va_P (dC, dI) vwCl [(x, .inr (1, [.ref aH, .ref aL, .ref aS, .ref aO, .ref aK, .ref aZ, .ref cv, .int tcn, .int mcn, .int swd, .int rwd, .int bpt, .int flm])), (aO, .inl (cI, 4, .inl so)), (aK, .inl (cI, 4, .inl ki))] H → va_D A [(x, .inr (1, [.ref aH, .ref aL, .ref aS, .ref aO, .ref aK, .ref aZ, .ref cv, .int tcn, .int mcn, .int swd, .int rwd, .int bpt, .int flm])), (aO, .inl (cI, 4, .inl so)), (aK, .inl (cI, 4, .inl ki))] → va_S A s.heap H locs → lv_has ls 5 [(0, .ref x), (1, .int p0), (2, .int v2), (3, .int v3)] → W p l e ({ frames := 2, cells := 0, slots := 0, locals := 40 } : Room) s m ([.ref x, .int p0] : List Value).toArray below meth c H locs 0 0 Q9 (F0 m 66 ls []) := by
    intro v2 v3 H locs ls hw hP hD hS hl
    refine lv_iload_n hx hb dX1_fansOfSets_66 rfl (lv_at hl 3 rfl) ?_
    refine lv_if_ne (tgt := 73) hx hb dX1_fansOfSets_67 (by decide) (fun c3 => ?_) (fun c3 => ?_)
    · have hw := hw.2 c3
      exact L73 v2 v3 _ _ _ hw hP hD hS (lv_sub hl [0, 1, 2, 3] rfl)
    · have hw := hw.1 c3
      refine lv_iinc (v := v2 + 2) (lv' := [(2, .int (v2 + 2)), (0, .ref x), (1, .int p0), (3, .int v3)]) hx hb dX1_fansOfSets_70 hl (k := 2) rfl rfl (by decide) rfl (fun ls hl => ?_)
      exact L73 (v2 + 2) v3 _ _ _ hw hP hD hS (lv_sub hl [1, 2, 0, 3] rfl)
  have L60 : ∀ (K10 : Int32 → Int32 → Int32 → Prop) (hK10 : ∀ (v2 : Int32) (v3 : Int32) (v4 : Int32) (H : Heap) (locs : List Loc) (ls : Array Slot), K10 v2 v3 v4 → va_P (dC, dI) vwCl [(x, .inr (1, [.ref aH, .ref aL, .ref aS, .ref aO, .ref aK, .ref aZ, .ref cv, .int tcn, .int mcn, .int swd, .int rwd, .int bpt, .int flm])), (aO, .inl (cI, 4, .inl so)), (aK, .inl (cI, 4, .inl ki))] H → va_D A [(x, .inr (1, [.ref aH, .ref aL, .ref aS, .ref aO, .ref aK, .ref aZ, .ref cv, .int tcn, .int mcn, .int swd, .int rwd, .int bpt, .int flm])), (aO, .inl (cI, 4, .inl so)), (aK, .inl (cI, 4, .inl ki))] → va_S A s.heap H locs → lv_has ls 5 [(0, .ref x), (1, .int p0), (2, .int v2), (3, .int v3), (4, .int v4)] → W p l e ({ frames := 2, cells := 0, slots := 0, locals := 40 } : Room) s m ([.ref x, .int p0] : List Value).toArray below meth c H locs 0 0 Q9 (F0 m 10 ls [])), ∀ (v2 : Int32) (v3 : Int32) (v4 : Int32) (H : Heap) (locs : List Loc) (ls : Array Slot), w_X1_fansOfSets_b60 post mcn swd rwd so ki p0 K10 v2 v3 v4 → va_P (dC, dI) vwCl [(x, .inr (1, [.ref aH, .ref aL, .ref aS, .ref aO, .ref aK, .ref aZ, .ref cv, .int tcn, .int mcn, .int swd, .int rwd, .int bpt, .int flm])), (aO, .inl (cI, 4, .inl so)), (aK, .inl (cI, 4, .inl ki))] H → va_D A [(x, .inr (1, [.ref aH, .ref aL, .ref aS, .ref aO, .ref aK, .ref aZ, .ref cv, .int tcn, .int mcn, .int swd, .int rwd, .int bpt, .int flm])), (aO, .inl (cI, 4, .inl so)), (aK, .inl (cI, 4, .inl ki))] → va_S A s.heap H locs → lv_has ls 5 [(0, .ref x), (1, .int p0), (2, .int v2), (3, .int v3), (4, .int v4)] → W p l e ({ frames := 2, cells := 0, slots := 0, locals := 40 } : Room) s m ([.ref x, .int p0] : List Value).toArray below meth c H locs 0 0 Q9 (F0 m 60 ls []) := by
    intro K10 hK10 v2 v3 v4 H locs ls hw hP hD hS hl
    refine lv_iinc (v := v4 + 1) (lv' := [(4, .int (v4 + 1)), (0, .ref x), (1, .int p0), (2, .int v2), (3, .int v3)]) hx hb dX1_fansOfSets_60 hl (k := 4) rfl rfl (by decide) rfl (fun ls hl => ?_)
    refine lv_goto (tgt := 10) hx hb dX1_fansOfSets_63 (by decide) ?_
    exact hK10 v2 v3 (v4 + 1) _ _ _ hw hP hD hS (lv_sub hl [1, 2, 3, 4, 0] rfl)
  have L46 : ∀ (K10 : Int32 → Int32 → Int32 → Prop) (hK10 : ∀ (v2 : Int32) (v3 : Int32) (v4 : Int32) (H : Heap) (locs : List Loc) (ls : Array Slot), K10 v2 v3 v4 → va_P (dC, dI) vwCl [(x, .inr (1, [.ref aH, .ref aL, .ref aS, .ref aO, .ref aK, .ref aZ, .ref cv, .int tcn, .int mcn, .int swd, .int rwd, .int bpt, .int flm])), (aO, .inl (cI, 4, .inl so)), (aK, .inl (cI, 4, .inl ki))] H → va_D A [(x, .inr (1, [.ref aH, .ref aL, .ref aS, .ref aO, .ref aK, .ref aZ, .ref cv, .int tcn, .int mcn, .int swd, .int rwd, .int bpt, .int flm])), (aO, .inl (cI, 4, .inl so)), (aK, .inl (cI, 4, .inl ki))] → va_S A s.heap H locs → lv_has ls 5 [(0, .ref x), (1, .int p0), (2, .int v2), (3, .int v3), (4, .int v4)] → W p l e ({ frames := 2, cells := 0, slots := 0, locals := 40 } : Room) s m ([.ref x, .int p0] : List Value).toArray below meth c H locs 0 0 Q9 (F0 m 10 ls [])), ∀ (v2 : Int32) (v3 : Int32) (v4 : Int32) (H : Heap) (locs : List Loc) (ls : Array Slot), w_X1_fansOfSets_b46 post mcn swd rwd so ki p0 K10 v2 v3 v4 → va_P (dC, dI) vwCl [(x, .inr (1, [.ref aH, .ref aL, .ref aS, .ref aO, .ref aK, .ref aZ, .ref cv, .int tcn, .int mcn, .int swd, .int rwd, .int bpt, .int flm])), (aO, .inl (cI, 4, .inl so)), (aK, .inl (cI, 4, .inl ki))] H → va_D A [(x, .inr (1, [.ref aH, .ref aL, .ref aS, .ref aO, .ref aK, .ref aZ, .ref cv, .int tcn, .int mcn, .int swd, .int rwd, .int bpt, .int flm])), (aO, .inl (cI, 4, .inl so)), (aK, .inl (cI, 4, .inl ki))] → va_S A s.heap H locs → lv_has ls 5 [(0, .ref x), (1, .int p0), (2, .int v2), (3, .int v3), (4, .int v4)] → W p l e ({ frames := 2, cells := 0, slots := 0, locals := 40 } : Room) s m ([.ref x, .int p0] : List Value).toArray below meth c H locs 0 0 Q9 (F0 m 46 ls []) := by
    intro K10 hK10 v2 v3 v4 H locs ls hw hP hD hS hl
    refine lv_aload_n hx hb dX1_fansOfSets_46 rfl (lv_at hl 0 rfl) ?_
    refine va_get (D := (dC, dI)) (ci := 1) (v := .ref aO) (C := RX1) (T := TX1) (N := 13) hx hb hts hinX1 hown hK hP 0 rfl rfl 3 (by decide) (hts (.fieldLink RX1 19 "TileHand" "setSorts" "[I") (by decide +kernel)) (fun _ h9 => h9) rfl dX1_fansOfSets_47 ?_
    refine lv_iload hx hb dX1_fansOfSets_50 (lv_at hl 4 rfl) ?_
    obtain ⟨h11, hw⟩ := hw
    refine va_iald hx hb hK hP 1 0 rfl rfl h11 dX1_fansOfSets_52 ?_
    refine lv_iconst (v := 2) hx hb dX1_fansOfSets_53 (by decide) ?_
    refine lv_icmp_ne (tgt := 60) hx hb dX1_fansOfSets_54 (by decide) (fun c12 => ?_) (fun c12 => ?_)
    · have hw := hw.2 c12
      exact L60 K10 hK10 v2 v3 v4 _ _ _ hw hP hD hS (lv_sub hl [0, 1, 2, 3, 4] rfl)
    · have hw := hw.1 c12
      refine lv_iinc (v := v2 + 1) (lv' := [(2, .int (v2 + 1)), (0, .ref x), (1, .int p0), (3, .int v3), (4, .int v4)]) hx hb dX1_fansOfSets_57 hl (k := 2) rfl rfl (by decide) rfl (fun ls hl => ?_)
      exact L60 K10 hK10 (v2 + 1) v3 v4 _ _ _ hw hP hD hS (lv_sub hl [1, 2, 0, 3, 4] rfl)
  have L10 : ∀ (n : Nat), ∀ (v2 : Int32) (v3 : Int32) (v4 : Int32) (H : Heap) (locs : List Loc) (ls : Array Slot), w_X1_fansOfSets_b10 post mcn swd rwd so ki p0 n v2 v3 v4 → va_P (dC, dI) vwCl [(x, .inr (1, [.ref aH, .ref aL, .ref aS, .ref aO, .ref aK, .ref aZ, .ref cv, .int tcn, .int mcn, .int swd, .int rwd, .int bpt, .int flm])), (aO, .inl (cI, 4, .inl so)), (aK, .inl (cI, 4, .inl ki))] H → va_D A [(x, .inr (1, [.ref aH, .ref aL, .ref aS, .ref aO, .ref aK, .ref aZ, .ref cv, .int tcn, .int mcn, .int swd, .int rwd, .int bpt, .int flm])), (aO, .inl (cI, 4, .inl so)), (aK, .inl (cI, 4, .inl ki))] → va_S A s.heap H locs → lv_has ls 5 [(0, .ref x), (1, .int p0), (2, .int v2), (3, .int v3), (4, .int v4)] → W p l e ({ frames := 2, cells := 0, slots := 0, locals := 40 } : Room) s m ([.ref x, .int p0] : List Value).toArray below meth c H locs 0 0 Q9 (F0 m 10 ls []) := by
    intro n
    induction n with
    | zero => intro v2 v3 v4 H locs ls hw _ _ _ _; exact False.elim hw
    | succ n ih =>
      intro v2 v3 v4 H locs ls hw hP hD hS hl
      refine lv_iload hx hb dX1_fansOfSets_10 (lv_at hl 4 rfl) ?_
      refine lv_iconst (v := 4) hx hb dX1_fansOfSets_12 (by decide) ?_
      refine lv_icmp_ge (tgt := 66) hx hb dX1_fansOfSets_13 (by decide) (fun c2 => ?_) (fun c2 => ?_)
      · have hw := hw.1 c2
        exact L66 v2 v3 _ _ _ hw hP hD hS (lv_sub hl [0, 1, 2, 3] rfl)
      · have hw := hw.2 c2
        refine lv_aload_n hx hb dX1_fansOfSets_16 rfl (lv_at hl 0 rfl) ?_
        refine va_get (D := (dC, dI)) (ci := 1) (v := .ref aO) (C := RX1) (T := TX1) (N := 13) hx hb hts hinX1 hown hK hP 0 rfl rfl 3 (by decide) (hts (.fieldLink RX1 19 "TileHand" "setSorts" "[I") (by decide +kernel)) (fun _ h9 => h9) rfl dX1_fansOfSets_17 ?_
        refine lv_iload hx hb dX1_fansOfSets_20 (lv_at hl 4 rfl) ?_
        obtain ⟨h7, hw⟩ := hw
        refine va_iald hx hb hK hP 1 0 rfl rfl h7 dX1_fansOfSets_22 ?_
        refine lv_if_ne (tgt := 32) hx hb dX1_fansOfSets_23 (by decide) (fun c8 => ?_) (fun c8 => ?_)
        · have hw := hw.2 c8
          refine lv_iload_n hx hb dX1_fansOfSets_32 rfl (lv_at hl 2 rfl) ?_
          refine lv_aload_n hx hb dX1_fansOfSets_33 rfl (lv_at hl 0 rfl) ?_
          refine lv_aload_n hx hb dX1_fansOfSets_34 rfl (lv_at hl 0 rfl) ?_
          refine va_get (D := (dC, dI)) (ci := 1) (v := .ref aK) (C := RX1) (T := TX1) (N := 13) hx hb hts hinX1 hown hK hP 0 rfl rfl 4 (by decide) (hts (.fieldLink RX1 22 "TileHand" "setKinds" "[I") (by decide +kernel)) (fun _ h9 => h9) rfl dX1_fansOfSets_35 ?_
          refine lv_iload hx hb dX1_fansOfSets_38 (lv_at hl 4 rfl) ?_
          obtain ⟨h9, hw⟩ := hw
          refine va_iald hx hb hK hP 2 0 rfl rfl h9 dX1_fansOfSets_40 ?_
          have hPc := hP.sub (ws' := [(x, .inr (1, [.ref aH, .ref aL, .ref aS, .ref aO, .ref aK, .ref aZ, .ref cv, .int tcn, .int mcn, .int swd, .int rwd, .int bpt, .int flm]))]) [0] rfl
          have hDc := hD.sub (ws' := [(x, .inr (1, [.ref aH, .ref aL, .ref aS, .ref aO, .ref aK, .ref aZ, .ref cv, .int tcn, .int mcn, .int swd, .int rwd, .int bpt, .int flm]))]) [0] (by decide) rfl
          have hFc := va_free (wc := [(x, .inr (1, [.ref aH, .ref aL, .ref aS, .ref aO, .ref aK, .ref aZ, .ref cv, .int tcn, .int mcn, .int swd, .int rwd, .int bpt, .int flm]))]) hD hS hA [0] rfl
          refine va_calli (va_runV (As := [.int (ki v4.toNatClampNeg)]) (rest := [.int v2]) ⟨hx, hb, hml, hown, hts⟩ (c_X1_honourFans l dC dI cI cZ x aH aL aS aO aK aZ cv H.size tcn mcn swd rwd bpt flm (ki v4.toNatClampNeg) _ hw) (cwV 1 hts gX1_fansOfSets_X1_honourFans rfl rfl rfl (by decide +kernel) ⟨Nat.le_of_ble_eq_true rfl, Nat.le_of_ble_eq_true rfl⟩) ⟨fun a U g mk q => by obtain ⟨q0, q1, qP, qK, qD⟩ := q; exact ⟨q0, q1, qP, va_K.moved (u := U) (U := U.calling g mk a) (Vm.Alike.refl U.vm) qK, qD⟩, va_recv hK hPc (ci := 1) (q0 := 0) rfl rfl, fun U hU hW => ⟨rfl, by rw [hU], by rw [hU]; exact hPc, va_K.moved hW.alike hK, hDc.weaken (fun _ _ _ _ => trivial)⟩⟩ rfl rfl hl.1 rfl (lv_room (Nat.le_of_ble_eq_true rfl)) dX1_fansOfSets_41 ⟨Nat.le_of_ble_eq_true rfl, Nat.le_of_ble_eq_true rfl⟩) hS (fun q _ h => hFc q h) hFc (fun r10 u t H1 locs ht hvm hw hB hz1 hk1 hS => ?_)
          obtain ⟨hP1, -, hD1⟩ := hB
          have hw := And.intro hw trivial
          try dsimp only at hw
          have hw := hw.1
          rw [ht] at hP1
          obtain ⟨hP, hD⟩ := va_join (wr := [(aO, .inl (cI, 4, .inl so)), (aK, .inl (cI, 4, .inl ki))]) (w1 := [(x, .inr (1, [.ref aH, .ref aL, .ref aS, .ref aO, .ref aK, .ref aZ, .ref cv, .int tcn, .int mcn, .int swd, .int rwd, .int bpt, .int flm]))]) hP hD [0] [1, 2] rfl rfl (by decide) (by decide) hk1 hFc hP1 hD1
          generalize H1 = H at hP hS ⊢
          have hP : va_P (dC, dI) vwCl [(aO, .inl (cI, 4, .inl so)), (aK, .inl (cI, 4, .inl ki)), (x, .inr (1, [.ref aH, .ref aL, .ref aS, .ref aO, .ref aK, .ref aZ, .ref cv, .int tcn, .int mcn, .int swd, .int rwd, .int bpt, .int flm]))] H := hP
          have hD : va_D A [(aO, .inl (cI, 4, .inl so)), (aK, .inl (cI, 4, .inl ki)), (x, .inr (1, [.ref aH, .ref aL, .ref aS, .ref aO, .ref aK, .ref aZ, .ref cv, .int tcn, .int mcn, .int swd, .int rwd, .int bpt, .int flm]))] := hD
          refine lv_iadd hx hb dX1_fansOfSets_44 ?_
          refine lv_istore_n (lv' := [(2, .int (v2 + r10)), (0, .ref x), (1, .int p0), (3, .int v3), (4, .int v4)]) hx hb dX1_fansOfSets_45 rfl hl (by decide) rfl (fun ls hl => ?_)
          have hP9 := hP.sub (ws' := [(x, .inr (1, [.ref aH, .ref aL, .ref aS, .ref aO, .ref aK, .ref aZ, .ref cv, .int tcn, .int mcn, .int swd, .int rwd, .int bpt, .int flm])), (aO, .inl (cI, 4, .inl so)), (aK, .inl (cI, 4, .inl ki))]) [2, 0, 1] rfl
          have hD9 := hD.sub (ws' := [(x, .inr (1, [.ref aH, .ref aL, .ref aS, .ref aO, .ref aK, .ref aZ, .ref cv, .int tcn, .int mcn, .int swd, .int rwd, .int bpt, .int flm])), (aO, .inl (cI, 4, .inl so)), (aK, .inl (cI, 4, .inl ki))]) [2, 0, 1] (by decide) rfl
          exact L46 (w_X1_fansOfSets_b10 post mcn swd rwd so ki p0 n) ih (v2 + r10) v3 v4 _ _ _ hw hP9 hD9 hS (lv_sub hl [1, 2, 0, 3, 4] rfl)
        · have hw := hw.1 c8
          refine lv_iinc (v := v3 + 1) (lv' := [(3, .int (v3 + 1)), (0, .ref x), (1, .int p0), (2, .int v2), (4, .int v4)]) hx hb dX1_fansOfSets_26 hl (k := 3) rfl rfl (by decide) rfl (fun ls hl => ?_)
          refine lv_goto (tgt := 46) hx hb dX1_fansOfSets_29 (by decide) ?_
          exact L46 (w_X1_fansOfSets_b10 post mcn swd rwd so ki p0 n) ih v2 (v3 + 1) v4 _ _ _ hw hP hD hS (lv_sub hl [1, 2, 3, 0, 4] rfl)
  refine lv_aload_n hx hb dX1_fansOfSets_0 rfl (lv_at hl 0 rfl) ?_
  have hPc := hP.sub (ws' := [(x, .inr (1, [.ref aH, .ref aL, .ref aS, .ref aO, .ref aK, .ref aZ, .ref cv, .int tcn, .int mcn, .int swd, .int rwd, .int bpt, .int flm])), (aO, .inl (cI, 4, .inl so)), (aK, .inl (cI, 4, .inl ki))]) [0, 1, 2] rfl
  have hDc := hD.sub (ws' := [(x, .inr (1, [.ref aH, .ref aL, .ref aS, .ref aO, .ref aK, .ref aZ, .ref cv, .int tcn, .int mcn, .int swd, .int rwd, .int bpt, .int flm])), (aO, .inl (cI, 4, .inl so)), (aK, .inl (cI, 4, .inl ki))]) [0, 1, 2] (by decide) rfl
  have hFc := va_free (wc := [(x, .inr (1, [.ref aH, .ref aL, .ref aS, .ref aO, .ref aK, .ref aZ, .ref cv, .int tcn, .int mcn, .int swd, .int rwd, .int bpt, .int flm])), (aO, .inl (cI, 4, .inl so)), (aK, .inl (cI, 4, .inl ki))]) hD hS hA [0, 1, 2] rfl
  refine va_calli (va_runV (As := []) (rest := []) ⟨hx, hb, hml, hown, hts⟩ (c_X1_twinRows l dC dI cI cZ x aH aL aS aO aK aZ cv s.heap.size tcn mcn swd rwd bpt flm so ki _ hw) (cwV 0 hts gX1_fansOfSets_X1_twinRows rfl rfl rfl (by decide +kernel) ⟨Nat.le_of_ble_eq_true rfl, Nat.le_of_ble_eq_true rfl⟩) ⟨fun a U g mk q => by obtain ⟨q0, q1, qP, qK, qD⟩ := q; exact ⟨q0, q1, qP, va_K.moved (u := U) (U := U.calling g mk a) (Vm.Alike.refl U.vm) qK, qD⟩, va_recv hK hPc (ci := 1) (q0 := 0) rfl rfl, fun U hU hW => ⟨rfl, by rw [hU], by rw [hU]; exact hPc, va_K.moved hW.alike hK, hDc.weaken (fun _ _ _ _ => trivial)⟩⟩ rfl rfl hl.1 rfl (lv_room (Nat.le_of_ble_eq_true rfl)) dX1_fansOfSets_1 ⟨Nat.le_of_ble_eq_true rfl, Nat.le_of_ble_eq_true rfl⟩) hS (fun q _ h => hFc q h) hFc (fun r1 u t H1 locs ht hvm hw hB hz1 hk1 hS => ?_)
  obtain ⟨hP1, -, hD1⟩ := hB
  have hw := And.intro hw trivial
  try dsimp only at hw
  have hw := hw.1
  rw [ht] at hP1
  obtain ⟨hP, hD⟩ := va_join (wr := []) (w1 := [(x, .inr (1, [.ref aH, .ref aL, .ref aS, .ref aO, .ref aK, .ref aZ, .ref cv, .int tcn, .int mcn, .int swd, .int rwd, .int bpt, .int flm])), (aO, .inl (cI, 4, .inl so)), (aK, .inl (cI, 4, .inl ki))]) hP hD [0, 1, 2] [] rfl rfl (by decide) (by decide) hk1 hFc hP1 hD1
  generalize H1 = H at hP hS ⊢
  have hP : va_P (dC, dI) vwCl [(x, .inr (1, [.ref aH, .ref aL, .ref aS, .ref aO, .ref aK, .ref aZ, .ref cv, .int tcn, .int mcn, .int swd, .int rwd, .int bpt, .int flm])), (aO, .inl (cI, 4, .inl so)), (aK, .inl (cI, 4, .inl ki))] H := hP
  have hD : va_D A [(x, .inr (1, [.ref aH, .ref aL, .ref aS, .ref aO, .ref aK, .ref aZ, .ref cv, .int tcn, .int mcn, .int swd, .int rwd, .int bpt, .int flm])), (aO, .inl (cI, 4, .inl so)), (aK, .inl (cI, 4, .inl ki))] := hD
  refine lv_istore_n (lv' := [(2, .int r1), (0, .ref x), (1, .int p0)]) hx hb dX1_fansOfSets_4 rfl hl (by decide) rfl (fun ls hl => ?_)
  refine lv_iconst (v := 0) hx hb dX1_fansOfSets_5 (by decide) ?_
  refine lv_istore_n (lv' := [(3, .int (0 : Int32)), (2, .int r1), (0, .ref x), (1, .int p0)]) hx hb dX1_fansOfSets_6 rfl hl (by decide) rfl (fun ls hl => ?_)
  refine lv_iconst (v := 0) hx hb dX1_fansOfSets_7 (by decide) ?_
  refine lv_istore (lv' := [(4, .int (0 : Int32)), (3, .int (0 : Int32)), (2, .int r1), (0, .ref x), (1, .int p0)]) hx hb dX1_fansOfSets_8 hl (by decide) rfl (fun ls hl => ?_)
  obtain ⟨n9, hw⟩ := hw
  exact L10 n9 r1 (0 : Int32) (0 : Int32) _ _ _ hw hP hD hS (lv_sub hl [3, 4, 2, 1, 0] rfl)

def w_X1_firstHeld_b2 (post : Int32 → Prop) (hd : (Nat → Int32)) (p0 : Int32) : Nat → Int32 → Prop
  | 0, _ => False
  | n + 1, v2 => (((34 : Int32) ≤ v2 → (post (34 : Int32))) ∧ (¬ (34 : Int32) ≤ v2 → (vp_in v2 34 ∧ ((((hd v2.toNatClampNeg) ≤ 0 → (w_X1_firstHeld_b2 post hd p0 n (v2 + 1))) ∧ (¬ (hd v2.toNatClampNeg) ≤ 0 → (post v2)))))))

def w_X1_firstHeld (hd : (Nat → Int32)) (p0 : Int32) (post : Int32 → Prop) : Prop := ∃ n9, w_X1_firstHeld_b2 post hd p0 n9 p0

set_option maxHeartbeats 4000000 in
set_option maxRecDepth 100000 in
theorem c_X1_firstHeld (l : Launch) (dC : Nat → ClassId) (dI : Nat → Nat → Nat) (cI cZ : ClassId) (x : Nat) (aH : Nat) (aL : Nat) (aS : Nat) (aO : Nat) (aK : Nat) (aZ : Nat) (cv : Nat) (sz : Nat) (tcn : Int32) (mcn : Int32) (swd : Int32) (rwd : Int32) (bpt : Int32) (flm : Int32) (hd : (Nat → Int32)) (p0 : Int32) (post : Int32 → Prop) (hw : w_X1_firstHeld hd p0 post) : Met l yX1_firstHeld wsX1_firstHeld ({ frames := 0, cells := 0, slots := 0, locals := 0 } : Room) (va_Pc [.ref x, .int p0] (fun U => U.heap.size = sz ∧ va_P (dC, dI) vwCl [(x, .inr (1, [.ref aH, .ref aL, .ref aS, .ref aO, .ref aK, .ref aZ, .ref cv, .int tcn, .int mcn, .int swd, .int rwd, .int bpt, .int flm])), (aH, .inl (cI, 34, .inl hd))] U.heap ∧ va_K (dC, dI) vwCl [(cI, .int), (cZ, .boolean)] U ∧ va_D (fun _ => True) [(x, .inr (1, [.ref aH, .ref aL, .ref aS, .ref aO, .ref aK, .ref aZ, .ref cv, .int tcn, .int mcn, .int swd, .int rwd, .int bpt, .int flm])), (aH, .inl (cI, 34, .inl hd))])) (va_Qi (fun (r9 : Int32) (u9 : Unit) => post r9) (fun (u9 : Unit) (t9 : State) => va_P (dC, dI) vwCl [(x, .inr (1, [.ref aH, .ref aL, .ref aS, .ref aO, .ref aK, .ref aZ, .ref cv, .int tcn, .int mcn, .int swd, .int rwd, .int bpt, .int flm])), (aH, .inl (cI, 34, .inl hd))] t9.heap ∧ va_K (dC, dI) vwCl [(cI, .int), (cZ, .boolean)] t9 ∧ va_D (va_A [(x, .inr (1, [.ref aH, .ref aL, .ref aS, .ref aO, .ref aK, .ref aZ, .ref cv, .int tcn, .int mcn, .int swd, .int rwd, .int bpt, .int flm])), (aH, .inl (cI, 34, .inl hd))] sz) [(x, .inr (1, [.ref aH, .ref aL, .ref aS, .ref aO, .ref aK, .ref aZ, .ref cv, .int tcn, .int mcn, .int swd, .int rwd, .int bpt, .int flm])), (aH, .inl (cI, 34, .inl hd))]) (va_A [(x, .inr (1, [.ref aH, .ref aL, .ref aS, .ref aO, .ref aK, .ref aZ, .ref cv, .int tcn, .int mcn, .int swd, .int rwd, .int bpt, .int flm])), (aH, .inl (cI, 34, .inl hd))] sz)) 0 0 (va_A [(x, .inr (1, [.ref aH, .ref aL, .ref aS, .ref aO, .ref aK, .ref aZ, .ref cv, .int tcn, .int mcn, .int swd, .int rwd, .int bpt, .int flm])), (aH, .inl (cI, 34, .inl hd))] sz) := by
  refine Met.ofW (cc := cX1_firstHeld) (maxL := 3) (ret := (some .int)) (by decide) rfl ?_
  intro p e s m args below meth c s₁ B hml hv
  obtain ⟨rfl, hsz, hP, hK, hD0⟩ := hv
  have hx := B.exec
  have hb := B.bytes
  have hr := B.returns
  have hts := atoms_spec (ws := wsX1_firstHeld) B.pre
  have hown : s.vm.findClass RX1 = some m.cls := findClass_of_methodNamed B.named
  have hlocks := B.notSynchronized
  have hinX1 : ∀ w ∈ u_ws RX1 TX1 13, w ∈ wsX1_firstHeld := by decide +kernel
  subst hsz
  have hD := hD0.self (sz := s.heap.size)
  generalize hAe : va_A [(x, .inr (1, [.ref aH, .ref aL, .ref aS, .ref aO, .ref aK, .ref aZ, .ref cv, .int tcn, .int mcn, .int swd, .int rwd, .int bpt, .int flm])), (aH, .inl (cI, 34, .inl hd))] s.heap.size = A at hD ⊢
  have hA : ∀ q : Nat, s.heap.size ≤ q → A q := fun q h => by rw [← hAe]; exact Or.inr h
  have hS : va_S A s.heap s.heap [] := va_S.rf
  have hl := lv_entry ([.ref x, .int p0]) (n := 3) (Nat.le_of_ble_eq_true rfl)
  rw [lg_entry_eq]
  generalize (lg_sl ([.ref x, .int p0]) ++ List.replicate (3 - (lg_sl ([.ref x, .int p0])).length) Slot.unset).toArray = ls at hl ⊢
  have hl : lv_has ls 3 [(0, .ref x), (1, .int p0)] := hl
  refine (?_ : ∀ Q9 : State → Prop, MQ below _ _ s _ _ _ = Q9 → W p l e ({ frames := 0, cells := 0, slots := 0, locals := 0 } : Room) s m _ below meth c s.heap [] 0 0 Q9 (F0 m 0 ls [])) _ rfl
  intro Q9 hQ9
  have hw : ∃ n9, w_X1_firstHeld_b2 post hd p0 n9 p0 := hw
  have L2 : ∀ (n : Nat), ∀ (v2 : Int32) (H : Heap) (locs : List Loc) (ls : Array Slot), w_X1_firstHeld_b2 post hd p0 n v2 → va_P (dC, dI) vwCl [(x, .inr (1, [.ref aH, .ref aL, .ref aS, .ref aO, .ref aK, .ref aZ, .ref cv, .int tcn, .int mcn, .int swd, .int rwd, .int bpt, .int flm])), (aH, .inl (cI, 34, .inl hd))] H → va_D A [(x, .inr (1, [.ref aH, .ref aL, .ref aS, .ref aO, .ref aK, .ref aZ, .ref cv, .int tcn, .int mcn, .int swd, .int rwd, .int bpt, .int flm])), (aH, .inl (cI, 34, .inl hd))] → va_S A s.heap H locs → lv_has ls 3 [(0, .ref x), (2, .int v2)] → W p l e ({ frames := 0, cells := 0, slots := 0, locals := 0 } : Room) s m ([.ref x, .int p0] : List Value).toArray below meth c H locs 0 0 Q9 (F0 m 2 ls []) := by
    intro n
    induction n with
    | zero => intro v2 H locs ls hw _ _ _ _; exact False.elim hw
    | succ n ih =>
      intro v2 H locs ls hw hP hD hS hl
      refine lv_iload_n hx hb dX1_firstHeld_2 rfl (lv_at hl 1 rfl) ?_
      refine lv_bipush (v := 34) hx hb dX1_firstHeld_3 (by decide) ?_
      refine lv_icmp_ge (tgt := 25) hx hb dX1_firstHeld_5 (by decide) (fun c1 => ?_) (fun c1 => ?_)
      · have hw := hw.1 c1
        refine lv_bipush (v := 34) hx hb dX1_firstHeld_25 (by decide) ?_
        rw [← hQ9]
        exact W.iret (v := (34 : Int32)) hx hb hr (fun t ht hW => ⟨⟨(34 : Int32), (), rfl, hw, by rw [ht]; exact hP, va_K.moved hW.alike hK, hD⟩, hS.F ht⟩) hS.2.2 dX1_firstHeld_27
      · have hw := hw.2 c1
        refine lv_aload_n hx hb dX1_firstHeld_8 rfl (lv_at hl 0 rfl) ?_
        refine va_get (D := (dC, dI)) (ci := 1) (v := .ref aH) (C := RX1) (T := TX1) (N := 13) hx hb hts hinX1 hown hK hP 0 rfl rfl 0 (by decide) (hts (.fieldLink RX1 9 "TileHand" "hand" "[I") (by decide +kernel)) (fun _ h9 => h9) rfl dX1_firstHeld_9 ?_
        refine lv_iload_n hx hb dX1_firstHeld_12 rfl (lv_at hl 1 rfl) ?_
        obtain ⟨h2, hw⟩ := hw
        refine va_iald hx hb hK hP 1 0 rfl rfl h2 dX1_firstHeld_13 ?_
        refine lv_if_le (tgt := 19) hx hb dX1_firstHeld_14 (by decide) (fun c3 => ?_) (fun c3 => ?_)
        · have hw := hw.1 c3
          refine lv_iinc (v := v2 + 1) (lv' := [(2, .int (v2 + 1)), (0, .ref x)]) hx hb dX1_firstHeld_19 hl (k := 1) rfl rfl (by decide) rfl (fun ls hl => ?_)
          refine lv_goto (tgt := 2) hx hb dX1_firstHeld_22 (by decide) ?_
          exact ih (v2 + 1) _ _ _ hw hP hD hS (lv_sub hl [1, 0] rfl)
        · have hw := hw.2 c3
          refine lv_iload_n hx hb dX1_firstHeld_17 rfl (lv_at hl 1 rfl) ?_
          rw [← hQ9]
          exact W.iret (v := v2) hx hb hr (fun t ht hW => ⟨⟨v2, (), rfl, hw, by rw [ht]; exact hP, va_K.moved hW.alike hK, hD⟩, hS.F ht⟩) hS.2.2 dX1_firstHeld_18
  refine lv_iload_n hx hb dX1_firstHeld_0 rfl (lv_at hl 1 rfl) ?_
  refine lv_istore_n (lv' := [(2, .int p0), (0, .ref x), (1, .int p0)]) hx hb dX1_firstHeld_1 rfl hl (by decide) rfl (fun ls hl => ?_)
  obtain ⟨n9, hw⟩ := hw
  exact L2 n9 p0 _ _ _ hw hP hD hS (lv_sub hl [1, 0] rfl)

def w_X1_moveRow (hd : (Nat → Int32)) (p0 : Int32) (p1 : Int32) (post : (Nat → Int32) → Prop) : Prop := vp_in p0 34 ∧ (vp_in p0 34 ∧ (vp_in (p0 + (1 : Int32)) 34 ∧ (vp_in (p0 + (1 : Int32)) 34 ∧ (vp_in (p0 + (2 : Int32)) 34 ∧ (vp_in (p0 + (2 : Int32)) 34 ∧ (post (upd (upd (upd hd p0.toNatClampNeg ((hd p0.toNatClampNeg) + p1)) (p0 + (1 : Int32)).toNatClampNeg (((upd hd p0.toNatClampNeg ((hd p0.toNatClampNeg) + p1)) (p0 + (1 : Int32)).toNatClampNeg) + p1)) (p0 + (2 : Int32)).toNatClampNeg (((upd (upd hd p0.toNatClampNeg ((hd p0.toNatClampNeg) + p1)) (p0 + (1 : Int32)).toNatClampNeg (((upd hd p0.toNatClampNeg ((hd p0.toNatClampNeg) + p1)) (p0 + (1 : Int32)).toNatClampNeg) + p1)) (p0 + (2 : Int32)).toNatClampNeg) + p1))))))))

set_option maxHeartbeats 4000000 in
set_option maxRecDepth 100000 in
theorem c_X1_moveRow (l : Launch) (dC : Nat → ClassId) (dI : Nat → Nat → Nat) (cI cZ : ClassId) (x : Nat) (aH : Nat) (aL : Nat) (aS : Nat) (aO : Nat) (aK : Nat) (aZ : Nat) (cv : Nat) (sz : Nat) (tcn : Int32) (mcn : Int32) (swd : Int32) (rwd : Int32) (bpt : Int32) (flm : Int32) (hd : (Nat → Int32)) (p0 : Int32) (p1 : Int32) (post : (Nat → Int32) → Prop) (hw : w_X1_moveRow hd p0 p1 post) : Met l yX1_moveRow wsX1_moveRow ({ frames := 0, cells := 0, slots := 0, locals := 0 } : Room) (va_Pc [.ref x, .int p0, .int p1] (fun U => U.heap.size = sz ∧ va_P (dC, dI) vwCl [(x, .inr (1, [.ref aH, .ref aL, .ref aS, .ref aO, .ref aK, .ref aZ, .ref cv, .int tcn, .int mcn, .int swd, .int rwd, .int bpt, .int flm])), (aH, .inl (cI, 34, .inl hd))] U.heap ∧ va_K (dC, dI) vwCl [(cI, .int), (cZ, .boolean)] U ∧ va_D (fun _ => True) [(x, .inr (1, [.ref aH, .ref aL, .ref aS, .ref aO, .ref aK, .ref aZ, .ref cv, .int tcn, .int mcn, .int swd, .int rwd, .int bpt, .int flm])), (aH, .inl (cI, 34, .inl hd))])) (va_Qv (fun (u9 : (Nat → Int32)) => post u9) (fun (u9 : (Nat → Int32)) (t9 : State) => va_P (dC, dI) vwCl [(x, .inr (1, [.ref aH, .ref aL, .ref aS, .ref aO, .ref aK, .ref aZ, .ref cv, .int tcn, .int mcn, .int swd, .int rwd, .int bpt, .int flm])), (aH, .inl (cI, 34, .inl u9))] t9.heap ∧ va_K (dC, dI) vwCl [(cI, .int), (cZ, .boolean)] t9 ∧ va_D (va_A [(x, .inr (1, [.ref aH, .ref aL, .ref aS, .ref aO, .ref aK, .ref aZ, .ref cv, .int tcn, .int mcn, .int swd, .int rwd, .int bpt, .int flm])), (aH, .inl (cI, 34, .inl hd))] sz) [(x, .inr (1, [.ref aH, .ref aL, .ref aS, .ref aO, .ref aK, .ref aZ, .ref cv, .int tcn, .int mcn, .int swd, .int rwd, .int bpt, .int flm])), (aH, .inl (cI, 34, .inl u9))]) (va_A [(x, .inr (1, [.ref aH, .ref aL, .ref aS, .ref aO, .ref aK, .ref aZ, .ref cv, .int tcn, .int mcn, .int swd, .int rwd, .int bpt, .int flm])), (aH, .inl (cI, 34, .inl hd))] sz)) 0 0 (va_A [(x, .inr (1, [.ref aH, .ref aL, .ref aS, .ref aO, .ref aK, .ref aZ, .ref cv, .int tcn, .int mcn, .int swd, .int rwd, .int bpt, .int flm])), (aH, .inl (cI, 34, .inl hd))] sz) := by
  refine Met.ofW (cc := cX1_moveRow) (maxL := 3) (ret := none) (by decide) rfl ?_
  intro p e s m args below meth c s₁ B hml hv
  obtain ⟨rfl, hsz, hP, hK, hD0⟩ := hv
  have hx := B.exec
  have hb := B.bytes
  have hr := B.returns
  have hts := atoms_spec (ws := wsX1_moveRow) B.pre
  have hown : s.vm.findClass RX1 = some m.cls := findClass_of_methodNamed B.named
  have hlocks := B.notSynchronized
  have hinX1 : ∀ w ∈ u_ws RX1 TX1 13, w ∈ wsX1_moveRow := by decide +kernel
  subst hsz
  have hD := hD0.self (sz := s.heap.size)
  generalize hAe : va_A [(x, .inr (1, [.ref aH, .ref aL, .ref aS, .ref aO, .ref aK, .ref aZ, .ref cv, .int tcn, .int mcn, .int swd, .int rwd, .int bpt, .int flm])), (aH, .inl (cI, 34, .inl hd))] s.heap.size = A at hD ⊢
  have hA : ∀ q : Nat, s.heap.size ≤ q → A q := fun q h => by rw [← hAe]; exact Or.inr h
  have hS : va_S A s.heap s.heap [] := va_S.rf
  have hl := lv_entry ([.ref x, .int p0, .int p1]) (n := 3) (Nat.le_of_ble_eq_true rfl)
  rw [lg_entry_eq]
  generalize (lg_sl ([.ref x, .int p0, .int p1]) ++ List.replicate (3 - (lg_sl ([.ref x, .int p0, .int p1])).length) Slot.unset).toArray = ls at hl ⊢
  have hl : lv_has ls 3 [(0, .ref x), (1, .int p0), (2, .int p1)] := hl
  refine (?_ : ∀ Q9 : State → Prop, MQ below _ _ s _ _ _ = Q9 → W p l e ({ frames := 0, cells := 0, slots := 0, locals := 0 } : Room) s m _ below meth c s.heap [] 0 0 Q9 (F0 m 0 ls [])) _ rfl
  intro Q9 hQ9
  have hw : vp_in p0 34 ∧ (vp_in p0 34 ∧ (vp_in (p0 + (1 : Int32)) 34 ∧ (vp_in (p0 + (1 : Int32)) 34 ∧ (vp_in (p0 + (2 : Int32)) 34 ∧ (vp_in (p0 + (2 : Int32)) 34 ∧ (post (upd (upd (upd hd p0.toNatClampNeg ((hd p0.toNatClampNeg) + p1)) (p0 + (1 : Int32)).toNatClampNeg (((upd hd p0.toNatClampNeg ((hd p0.toNatClampNeg) + p1)) (p0 + (1 : Int32)).toNatClampNeg) + p1)) (p0 + (2 : Int32)).toNatClampNeg (((upd (upd hd p0.toNatClampNeg ((hd p0.toNatClampNeg) + p1)) (p0 + (1 : Int32)).toNatClampNeg (((upd hd p0.toNatClampNeg ((hd p0.toNatClampNeg) + p1)) (p0 + (1 : Int32)).toNatClampNeg) + p1)) (p0 + (2 : Int32)).toNatClampNeg) + p1)))))))) := hw
  refine lv_aload_n hx hb dX1_moveRow_0 rfl (lv_at hl 0 rfl) ?_
  refine va_get (D := (dC, dI)) (ci := 1) (v := .ref aH) (C := RX1) (T := TX1) (N := 13) hx hb hts hinX1 hown hK hP 0 rfl rfl 0 (by decide) (hts (.fieldLink RX1 9 "TileHand" "hand" "[I") (by decide +kernel)) (fun _ h9 => h9) rfl dX1_moveRow_1 ?_
  refine lv_iload_n hx hb dX1_moveRow_4 rfl (lv_at hl 1 rfl) ?_
  refine lv_dup2_11 hx hb dX1_moveRow_5 rfl rfl ?_
  obtain ⟨h1, hw⟩ := hw
  refine va_iald hx hb hK hP 1 0 rfl rfl h1 dX1_moveRow_6 ?_
  refine lv_iload_n hx hb dX1_moveRow_7 rfl (lv_at hl 2 rfl) ?_
  refine lv_iadd hx hb dX1_moveRow_8 ?_
  obtain ⟨h2, hw⟩ := hw
  refine va_iast hx hb hK hP hD hS 1 0 rfl rfl h2 dX1_moveRow_9 (fun H locs hP hD hS => ?_)
  have hP : va_P (dC, dI) vwCl [(x, .inr (1, [.ref aH, .ref aL, .ref aS, .ref aO, .ref aK, .ref aZ, .ref cv, .int tcn, .int mcn, .int swd, .int rwd, .int bpt, .int flm])), (aH, .inl (cI, 34, .inl (upd hd p0.toNatClampNeg ((hd p0.toNatClampNeg) + p1))))] H := hP
  have hD : va_D A [(x, .inr (1, [.ref aH, .ref aL, .ref aS, .ref aO, .ref aK, .ref aZ, .ref cv, .int tcn, .int mcn, .int swd, .int rwd, .int bpt, .int flm])), (aH, .inl (cI, 34, .inl (upd hd p0.toNatClampNeg ((hd p0.toNatClampNeg) + p1))))] := hD
  refine lv_aload_n hx hb dX1_moveRow_10 rfl (lv_at hl 0 rfl) ?_
  refine va_get (D := (dC, dI)) (ci := 1) (v := .ref aH) (C := RX1) (T := TX1) (N := 13) hx hb hts hinX1 hown hK hP 0 rfl rfl 0 (by decide) (hts (.fieldLink RX1 9 "TileHand" "hand" "[I") (by decide +kernel)) (fun _ h9 => h9) rfl dX1_moveRow_11 ?_
  refine lv_iload_n hx hb dX1_moveRow_14 rfl (lv_at hl 1 rfl) ?_
  refine lv_iconst (v := 1) hx hb dX1_moveRow_15 (by decide) ?_
  refine lv_iadd hx hb dX1_moveRow_16 ?_
  refine lv_dup2_11 hx hb dX1_moveRow_17 rfl rfl ?_
  obtain ⟨h3, hw⟩ := hw
  refine va_iald hx hb hK hP 1 0 rfl rfl h3 dX1_moveRow_18 ?_
  refine lv_iload_n hx hb dX1_moveRow_19 rfl (lv_at hl 2 rfl) ?_
  refine lv_iadd hx hb dX1_moveRow_20 ?_
  obtain ⟨h4, hw⟩ := hw
  refine va_iast hx hb hK hP hD hS 1 0 rfl rfl h4 dX1_moveRow_21 (fun H locs hP hD hS => ?_)
  have hP : va_P (dC, dI) vwCl [(x, .inr (1, [.ref aH, .ref aL, .ref aS, .ref aO, .ref aK, .ref aZ, .ref cv, .int tcn, .int mcn, .int swd, .int rwd, .int bpt, .int flm])), (aH, .inl (cI, 34, .inl (upd (upd hd p0.toNatClampNeg ((hd p0.toNatClampNeg) + p1)) (p0 + (1 : Int32)).toNatClampNeg (((upd hd p0.toNatClampNeg ((hd p0.toNatClampNeg) + p1)) (p0 + (1 : Int32)).toNatClampNeg) + p1))))] H := hP
  have hD : va_D A [(x, .inr (1, [.ref aH, .ref aL, .ref aS, .ref aO, .ref aK, .ref aZ, .ref cv, .int tcn, .int mcn, .int swd, .int rwd, .int bpt, .int flm])), (aH, .inl (cI, 34, .inl (upd (upd hd p0.toNatClampNeg ((hd p0.toNatClampNeg) + p1)) (p0 + (1 : Int32)).toNatClampNeg (((upd hd p0.toNatClampNeg ((hd p0.toNatClampNeg) + p1)) (p0 + (1 : Int32)).toNatClampNeg) + p1))))] := hD
  refine lv_aload_n hx hb dX1_moveRow_22 rfl (lv_at hl 0 rfl) ?_
  refine va_get (D := (dC, dI)) (ci := 1) (v := .ref aH) (C := RX1) (T := TX1) (N := 13) hx hb hts hinX1 hown hK hP 0 rfl rfl 0 (by decide) (hts (.fieldLink RX1 9 "TileHand" "hand" "[I") (by decide +kernel)) (fun _ h9 => h9) rfl dX1_moveRow_23 ?_
  refine lv_iload_n hx hb dX1_moveRow_26 rfl (lv_at hl 1 rfl) ?_
  refine lv_iconst (v := 2) hx hb dX1_moveRow_27 (by decide) ?_
  refine lv_iadd hx hb dX1_moveRow_28 ?_
  refine lv_dup2_11 hx hb dX1_moveRow_29 rfl rfl ?_
  obtain ⟨h5, hw⟩ := hw
  refine va_iald hx hb hK hP 1 0 rfl rfl h5 dX1_moveRow_30 ?_
  refine lv_iload_n hx hb dX1_moveRow_31 rfl (lv_at hl 2 rfl) ?_
  refine lv_iadd hx hb dX1_moveRow_32 ?_
  obtain ⟨h6, hw⟩ := hw
  refine va_iast hx hb hK hP hD hS 1 0 rfl rfl h6 dX1_moveRow_33 (fun H locs hP hD hS => ?_)
  have hP : va_P (dC, dI) vwCl [(x, .inr (1, [.ref aH, .ref aL, .ref aS, .ref aO, .ref aK, .ref aZ, .ref cv, .int tcn, .int mcn, .int swd, .int rwd, .int bpt, .int flm])), (aH, .inl (cI, 34, .inl (upd (upd (upd hd p0.toNatClampNeg ((hd p0.toNatClampNeg) + p1)) (p0 + (1 : Int32)).toNatClampNeg (((upd hd p0.toNatClampNeg ((hd p0.toNatClampNeg) + p1)) (p0 + (1 : Int32)).toNatClampNeg) + p1)) (p0 + (2 : Int32)).toNatClampNeg (((upd (upd hd p0.toNatClampNeg ((hd p0.toNatClampNeg) + p1)) (p0 + (1 : Int32)).toNatClampNeg (((upd hd p0.toNatClampNeg ((hd p0.toNatClampNeg) + p1)) (p0 + (1 : Int32)).toNatClampNeg) + p1)) (p0 + (2 : Int32)).toNatClampNeg) + p1))))] H := hP
  have hD : va_D A [(x, .inr (1, [.ref aH, .ref aL, .ref aS, .ref aO, .ref aK, .ref aZ, .ref cv, .int tcn, .int mcn, .int swd, .int rwd, .int bpt, .int flm])), (aH, .inl (cI, 34, .inl (upd (upd (upd hd p0.toNatClampNeg ((hd p0.toNatClampNeg) + p1)) (p0 + (1 : Int32)).toNatClampNeg (((upd hd p0.toNatClampNeg ((hd p0.toNatClampNeg) + p1)) (p0 + (1 : Int32)).toNatClampNeg) + p1)) (p0 + (2 : Int32)).toNatClampNeg (((upd (upd hd p0.toNatClampNeg ((hd p0.toNatClampNeg) + p1)) (p0 + (1 : Int32)).toNatClampNeg (((upd hd p0.toNatClampNeg ((hd p0.toNatClampNeg) + p1)) (p0 + (1 : Int32)).toNatClampNeg) + p1)) (p0 + (2 : Int32)).toNatClampNeg) + p1))))] := hD
  rw [← hQ9]
  exact W.vret hx hb hr (fun t ht hW => ⟨⟨(upd (upd (upd hd p0.toNatClampNeg ((hd p0.toNatClampNeg) + p1)) (p0 + (1 : Int32)).toNatClampNeg (((upd hd p0.toNatClampNeg ((hd p0.toNatClampNeg) + p1)) (p0 + (1 : Int32)).toNatClampNeg) + p1)) (p0 + (2 : Int32)).toNatClampNeg (((upd (upd hd p0.toNatClampNeg ((hd p0.toNatClampNeg) + p1)) (p0 + (1 : Int32)).toNatClampNeg (((upd hd p0.toNatClampNeg ((hd p0.toNatClampNeg) + p1)) (p0 + (1 : Int32)).toNatClampNeg) + p1)) (p0 + (2 : Int32)).toNatClampNeg) + p1)), rfl, hw, by rw [ht]; exact hP, va_K.moved hW.alike hK, hD⟩, hS.F ht⟩) hS.2.2 dX1_moveRow_34

def w_X1_splitWithRow (rec9 : Int32 → Int32 → Int32 → (Nat → Int32) → (Nat → Int32) → (Nat → Int32) → Int32 → Int32 → Int32 → (Int32 → (Nat → Int32) → (Nat → Int32) → (Nat → Int32) → Prop) → Prop) (mcn : Int32) (swd : Int32) (rwd : Int32) (hd : (Nat → Int32)) (so : (Nat → Int32)) (ki : (Nat → Int32)) (p0 : Int32) (p1 : Int32) (p2 : Int32) (post : Int32 → (Nat → Int32) → (Nat → Int32) → (Nat → Int32) → Prop) : Prop := w_X1_beginsRow p1 (fun r1 => (((r1 = 0 → (post (-1 : Int32) hd so ki)) ∧ (¬ r1 = 0 → (vp_in (p1 + (1 : Int32)) 34 ∧ ((((hd (p1 + (1 : Int32)).toNatClampNeg) ≤ 0 → (post (-1 : Int32) hd so ki)) ∧ (¬ (hd (p1 + (1 : Int32)).toNatClampNeg) ≤ 0 → (vp_in (p1 + (2 : Int32)) 34 ∧ (((0 < (hd (p1 + (2 : Int32)).toNatClampNeg) → (vp_in p2 4 ∧ (vp_in p2 4 ∧ (w_X1_moveRow hd p1 (-1 : Int32) (fun hd_9 => (rec9 mcn swd rwd hd_9 (upd so p2.toNatClampNeg (0 : Int32)) (upd ki p2.toNatClampNeg p1) p0 p1 (p2 + (1 : Int32)) (fun r10 hd_11 so_12 ki_13 => (w_X1_moveRow hd_11 p1 (1 : Int32) (fun hd_14 => (post r10 hd_14 so_12 ki_13)))))))))) ∧ (¬ 0 < (hd (p1 + (2 : Int32)).toNatClampNeg) → (post (-1 : Int32) hd so ki)))))))))))))

set_option maxHeartbeats 4000000 in
set_option maxRecDepth 100000 in
theorem c_X1_splitWithRow (l : Launch) (dC : Nat → ClassId) (dI : Nat → Nat → Nat) (cI cZ : ClassId) (d9 : Nat) (rec9 : Int32 → Int32 → Int32 → (Nat → Int32) → (Nat → Int32) → (Nat → Int32) → Int32 → Int32 → Int32 → (Int32 → (Nat → Int32) → (Nat → Int32) → (Nat → Int32) → Prop) → Prop) (ihd : ∀ (x : Nat) (aH : Nat) (aL : Nat) (aS : Nat) (aO : Nat) (aK : Nat) (aZ : Nat) (cv : Nat) (sz : Nat) (tcn : Int32) (mcn : Int32) (swd : Int32) (rwd : Int32) (bpt : Int32) (flm : Int32) (hd : (Nat → Int32)) (so : (Nat → Int32)) (ki : (Nat → Int32)) (p0 : Int32) (p1 : Int32) (p2 : Int32) (post : Int32 → (Nat → Int32) → (Nat → Int32) → (Nat → Int32) → Prop), rec9 mcn swd rwd hd so ki p0 p1 p2 post → Met l yX1_bestSplit wsX1_bestSplit ({ frames := 3 + d9 * 2, cells := 0, slots := 0, locals := 64 + d9 * 48 } : Room) (va_Pc [.ref x, .int p0, .int p1, .int p2] (fun U => U.heap.size = sz ∧ va_P (dC, dI) vwCl [(x, .inr (1, [.ref aH, .ref aL, .ref aS, .ref aO, .ref aK, .ref aZ, .ref cv, .int tcn, .int mcn, .int swd, .int rwd, .int bpt, .int flm])), (aH, .inl (cI, 34, .inl hd)), (aO, .inl (cI, 4, .inl so)), (aK, .inl (cI, 4, .inl ki))] U.heap ∧ va_K (dC, dI) vwCl [(cI, .int), (cZ, .boolean)] U ∧ va_D (fun _ => True) [(x, .inr (1, [.ref aH, .ref aL, .ref aS, .ref aO, .ref aK, .ref aZ, .ref cv, .int tcn, .int mcn, .int swd, .int rwd, .int bpt, .int flm])), (aH, .inl (cI, 34, .inl hd)), (aO, .inl (cI, 4, .inl so)), (aK, .inl (cI, 4, .inl ki))])) (va_Qi (fun (r9 : Int32) (u9 : (Nat → Int32) × (Nat → Int32) × (Nat → Int32)) => post r9 u9.1 u9.2.1 u9.2.2) (fun (u9 : (Nat → Int32) × (Nat → Int32) × (Nat → Int32)) (t9 : State) => va_P (dC, dI) vwCl [(x, .inr (1, [.ref aH, .ref aL, .ref aS, .ref aO, .ref aK, .ref aZ, .ref cv, .int tcn, .int mcn, .int swd, .int rwd, .int bpt, .int flm])), (aH, .inl (cI, 34, .inl u9.1)), (aO, .inl (cI, 4, .inl u9.2.1)), (aK, .inl (cI, 4, .inl u9.2.2))] t9.heap ∧ va_K (dC, dI) vwCl [(cI, .int), (cZ, .boolean)] t9 ∧ va_D (va_A [(x, .inr (1, [.ref aH, .ref aL, .ref aS, .ref aO, .ref aK, .ref aZ, .ref cv, .int tcn, .int mcn, .int swd, .int rwd, .int bpt, .int flm])), (aH, .inl (cI, 34, .inl hd)), (aO, .inl (cI, 4, .inl so)), (aK, .inl (cI, 4, .inl ki))] sz) [(x, .inr (1, [.ref aH, .ref aL, .ref aS, .ref aO, .ref aK, .ref aZ, .ref cv, .int tcn, .int mcn, .int swd, .int rwd, .int bpt, .int flm])), (aH, .inl (cI, 34, .inl u9.1)), (aO, .inl (cI, 4, .inl u9.2.1)), (aK, .inl (cI, 4, .inl u9.2.2))]) (va_A [(x, .inr (1, [.ref aH, .ref aL, .ref aS, .ref aO, .ref aK, .ref aZ, .ref cv, .int tcn, .int mcn, .int swd, .int rwd, .int bpt, .int flm])), (aH, .inl (cI, 34, .inl hd)), (aO, .inl (cI, 4, .inl so)), (aK, .inl (cI, 4, .inl ki))] sz)) 0 0 (va_A [(x, .inr (1, [.ref aH, .ref aL, .ref aS, .ref aO, .ref aK, .ref aZ, .ref cv, .int tcn, .int mcn, .int swd, .int rwd, .int bpt, .int flm])), (aH, .inl (cI, 34, .inl hd)), (aO, .inl (cI, 4, .inl so)), (aK, .inl (cI, 4, .inl ki))] sz)) (x : Nat) (aH : Nat) (aL : Nat) (aS : Nat) (aO : Nat) (aK : Nat) (aZ : Nat) (cv : Nat) (sz : Nat) (tcn : Int32) (mcn : Int32) (swd : Int32) (rwd : Int32) (bpt : Int32) (flm : Int32) (hd : (Nat → Int32)) (so : (Nat → Int32)) (ki : (Nat → Int32)) (p0 : Int32) (p1 : Int32) (p2 : Int32) (post : Int32 → (Nat → Int32) → (Nat → Int32) → (Nat → Int32) → Prop) (hw : w_X1_splitWithRow rec9 mcn swd rwd hd so ki p0 p1 p2 post) : Met l yX1_splitWithRow wsX1_splitWithRow ({ frames := 3 + d9 * 2 + 1, cells := 0, slots := 0, locals := 64 + d9 * 48 + 24 } : Room) (va_Pc [.ref x, .int p0, .int p1, .int p2] (fun U => U.heap.size = sz ∧ va_P (dC, dI) vwCl [(x, .inr (1, [.ref aH, .ref aL, .ref aS, .ref aO, .ref aK, .ref aZ, .ref cv, .int tcn, .int mcn, .int swd, .int rwd, .int bpt, .int flm])), (aH, .inl (cI, 34, .inl hd)), (aO, .inl (cI, 4, .inl so)), (aK, .inl (cI, 4, .inl ki))] U.heap ∧ va_K (dC, dI) vwCl [(cI, .int), (cZ, .boolean)] U ∧ va_D (fun _ => True) [(x, .inr (1, [.ref aH, .ref aL, .ref aS, .ref aO, .ref aK, .ref aZ, .ref cv, .int tcn, .int mcn, .int swd, .int rwd, .int bpt, .int flm])), (aH, .inl (cI, 34, .inl hd)), (aO, .inl (cI, 4, .inl so)), (aK, .inl (cI, 4, .inl ki))])) (va_Qi (fun (r9 : Int32) (u9 : (Nat → Int32) × (Nat → Int32) × (Nat → Int32)) => post r9 u9.1 u9.2.1 u9.2.2) (fun (u9 : (Nat → Int32) × (Nat → Int32) × (Nat → Int32)) (t9 : State) => va_P (dC, dI) vwCl [(x, .inr (1, [.ref aH, .ref aL, .ref aS, .ref aO, .ref aK, .ref aZ, .ref cv, .int tcn, .int mcn, .int swd, .int rwd, .int bpt, .int flm])), (aH, .inl (cI, 34, .inl u9.1)), (aO, .inl (cI, 4, .inl u9.2.1)), (aK, .inl (cI, 4, .inl u9.2.2))] t9.heap ∧ va_K (dC, dI) vwCl [(cI, .int), (cZ, .boolean)] t9 ∧ va_D (va_A [(x, .inr (1, [.ref aH, .ref aL, .ref aS, .ref aO, .ref aK, .ref aZ, .ref cv, .int tcn, .int mcn, .int swd, .int rwd, .int bpt, .int flm])), (aH, .inl (cI, 34, .inl hd)), (aO, .inl (cI, 4, .inl so)), (aK, .inl (cI, 4, .inl ki))] sz) [(x, .inr (1, [.ref aH, .ref aL, .ref aS, .ref aO, .ref aK, .ref aZ, .ref cv, .int tcn, .int mcn, .int swd, .int rwd, .int bpt, .int flm])), (aH, .inl (cI, 34, .inl u9.1)), (aO, .inl (cI, 4, .inl u9.2.1)), (aK, .inl (cI, 4, .inl u9.2.2))]) (va_A [(x, .inr (1, [.ref aH, .ref aL, .ref aS, .ref aO, .ref aK, .ref aZ, .ref cv, .int tcn, .int mcn, .int swd, .int rwd, .int bpt, .int flm])), (aH, .inl (cI, 34, .inl hd)), (aO, .inl (cI, 4, .inl so)), (aK, .inl (cI, 4, .inl ki))] sz)) 0 0 (va_A [(x, .inr (1, [.ref aH, .ref aL, .ref aS, .ref aO, .ref aK, .ref aZ, .ref cv, .int tcn, .int mcn, .int swd, .int rwd, .int bpt, .int flm])), (aH, .inl (cI, 34, .inl hd)), (aO, .inl (cI, 4, .inl so)), (aK, .inl (cI, 4, .inl ki))] sz) := by
  refine Met.ofW (cc := cX1_splitWithRow) (maxL := 5) (ret := (some .int)) (by decide) rfl ?_
  intro p e s m args below meth c s₁ B hml hv
  obtain ⟨rfl, hsz, hP, hK, hD0⟩ := hv
  have hx := B.exec
  have hb := B.bytes
  have hr := B.returns
  have hts := atoms_spec (ws := wsX1_splitWithRow) B.pre
  have hown : s.vm.findClass RX1 = some m.cls := findClass_of_methodNamed B.named
  have hlocks := B.notSynchronized
  have hinX1 : ∀ w ∈ u_ws RX1 TX1 13, w ∈ wsX1_splitWithRow := by decide +kernel
  subst hsz
  have hD := hD0.self (sz := s.heap.size)
  generalize hAe : va_A [(x, .inr (1, [.ref aH, .ref aL, .ref aS, .ref aO, .ref aK, .ref aZ, .ref cv, .int tcn, .int mcn, .int swd, .int rwd, .int bpt, .int flm])), (aH, .inl (cI, 34, .inl hd)), (aO, .inl (cI, 4, .inl so)), (aK, .inl (cI, 4, .inl ki))] s.heap.size = A at hD ⊢
  have hA : ∀ q : Nat, s.heap.size ≤ q → A q := fun q h => by rw [← hAe]; exact Or.inr h
  have hS : va_S A s.heap s.heap [] := va_S.rf
  have hl := lv_entry ([.ref x, .int p0, .int p1, .int p2]) (n := 5) ((by first | exact Nat.le_of_ble_eq_true rfl | (simp only [headSpec]; omega) | (simp only [headSpec, List.map_nil, List.map_cons, List.sum_nil, List.sum_cons, Value.category]; omega)))
  rw [lg_entry_eq]
  generalize (lg_sl ([.ref x, .int p0, .int p1, .int p2]) ++ List.replicate (5 - (lg_sl ([.ref x, .int p0, .int p1, .int p2])).length) Slot.unset).toArray = ls at hl ⊢
  have hl : lv_has ls 5 [(0, .ref x), (1, .int p0), (2, .int p1), (3, .int p2)] := hl
  refine (?_ : ∀ Q9 : State → Prop, MQ below _ _ s _ _ _ = Q9 → W p l e ({ frames := 3 + d9 * 2 + 1, cells := 0, slots := 0, locals := 64 + d9 * 48 + 24 } : Room) s m _ below meth c s.heap [] 0 0 Q9 (F0 m 0 ls [])) _ rfl
  intro Q9 hQ9
  have hw : w_X1_beginsRow p1 (fun r1 => (((r1 = 0 → (post (-1 : Int32) hd so ki)) ∧ (¬ r1 = 0 → (vp_in (p1 + (1 : Int32)) 34 ∧ ((((hd (p1 + (1 : Int32)).toNatClampNeg) ≤ 0 → (post (-1 : Int32) hd so ki)) ∧ (¬ (hd (p1 + (1 : Int32)).toNatClampNeg) ≤ 0 → (vp_in (p1 + (2 : Int32)) 34 ∧ (((0 < (hd (p1 + (2 : Int32)).toNatClampNeg) → (vp_in p2 4 ∧ (vp_in p2 4 ∧ (w_X1_moveRow hd p1 (-1 : Int32) (fun hd_9 => (rec9 mcn swd rwd hd_9 (upd so p2.toNatClampNeg (0 : Int32)) (upd ki p2.toNatClampNeg p1) p0 p1 (p2 + (1 : Int32)) (fun r10 hd_11 so_12 ki_13 => (w_X1_moveRow hd_11 p1 (1 : Int32) (fun hd_14 => (post r10 hd_14 so_12 ki_13)))))))))) ∧ (¬ 0 < (hd (p1 + (2 : Int32)).toNatClampNeg) → (post (-1 : Int32) hd so ki))))))))))))) := hw
  refine lv_iload_n hx hb dX1_splitWithRow_0 rfl (lv_at hl 2 rfl) ?_
  have hPc := hP.sub (ws' := []) [] rfl
  have hDc := hD.sub (ws' := []) [] (by decide) rfl
  have hFc := va_free (wc := []) hD hS hA [] rfl
  refine va_calli (va_runS (As := [.int p1]) (rest := []) ⟨hx, hb, hml, hown, hts⟩ (c_X1_beginsRow l dC dI cI cZ s.heap.size p1 _ hw) (va_cwS 1 hts gX1_splitWithRow_X1_beginsRow rfl rfl rfl (by decide +kernel) ⟨(by first | exact Nat.le_of_ble_eq_true rfl | (simp only [headSpec]; omega) | (simp only [headSpec, List.map_nil, List.map_cons, List.sum_nil, List.sum_cons, Value.category]; omega)), (by first | exact Nat.le_of_ble_eq_true rfl | (simp only [headSpec]; omega) | (simp only [headSpec, List.map_nil, List.map_cons, List.sum_nil, List.sum_cons, Value.category]; omega))⟩) ⟨fun a U g mk q => by obtain ⟨q0, q1, qP, qK, qD⟩ := q; exact ⟨q0, q1, qP, va_K.moved (u := U) (U := U.calling g mk a) (Vm.Alike.refl U.vm) qK, qD⟩, fun U hU hW => ⟨rfl, by rw [hU], by rw [hU]; exact hPc, va_K.moved hW.alike hK, hDc.weaken (fun _ _ _ _ => trivial)⟩⟩ rfl rfl hl.1 rfl (lv_room ((by first | exact Nat.le_of_ble_eq_true rfl | (simp only [headSpec]; omega) | (simp only [headSpec, List.map_nil, List.map_cons, List.sum_nil, List.sum_cons, Value.category]; omega)))) dX1_splitWithRow_1 ⟨(by first | exact Nat.le_of_ble_eq_true rfl | (simp only [headSpec]; omega) | (simp only [headSpec, List.map_nil, List.map_cons, List.sum_nil, List.sum_cons, Value.category]; omega)), (by first | exact Nat.le_of_ble_eq_true rfl | (simp only [headSpec]; omega) | (simp only [headSpec, List.map_nil, List.map_cons, List.sum_nil, List.sum_cons, Value.category]; omega))⟩) hS (fun q _ h => hFc q h) hFc (fun r1 u t H1 locs ht hvm hw hB hz1 hk1 hS => ?_)
  obtain ⟨hP1, -, hD1⟩ := hB
  have hw := And.intro hw trivial
  try dsimp only at hw
  have hw := hw.1
  rw [ht] at hP1
  obtain ⟨hP, hD⟩ := va_join (wr := [(x, .inr (1, [.ref aH, .ref aL, .ref aS, .ref aO, .ref aK, .ref aZ, .ref cv, .int tcn, .int mcn, .int swd, .int rwd, .int bpt, .int flm])), (aH, .inl (cI, 34, .inl hd)), (aO, .inl (cI, 4, .inl so)), (aK, .inl (cI, 4, .inl ki))]) (w1 := []) hP hD [] [0, 1, 2, 3] rfl rfl (by decide) (by decide) hk1 hFc hP1 hD1
  generalize H1 = H at hP hS ⊢
  have hP : va_P (dC, dI) vwCl [(x, .inr (1, [.ref aH, .ref aL, .ref aS, .ref aO, .ref aK, .ref aZ, .ref cv, .int tcn, .int mcn, .int swd, .int rwd, .int bpt, .int flm])), (aH, .inl (cI, 34, .inl hd)), (aO, .inl (cI, 4, .inl so)), (aK, .inl (cI, 4, .inl ki))] H := hP
  have hD : va_D A [(x, .inr (1, [.ref aH, .ref aL, .ref aS, .ref aO, .ref aK, .ref aZ, .ref cv, .int tcn, .int mcn, .int swd, .int rwd, .int bpt, .int flm])), (aH, .inl (cI, 34, .inl hd)), (aO, .inl (cI, 4, .inl so)), (aK, .inl (cI, 4, .inl ki))] := hD
  refine lv_if_eq (tgt := 29) hx hb dX1_splitWithRow_4 (by decide) (fun c2 => ?_) (fun c2 => ?_)
  · have hw := hw.1 c2
    refine lv_iconst (v := -1) hx hb dX1_splitWithRow_29 (by decide) ?_
    rw [← hQ9]
    exact W.iret (v := (-1 : Int32)) hx hb hr (fun t ht hW => ⟨⟨(-1 : Int32), (hd, so, ki), rfl, hw, by rw [ht]; exact hP, va_K.moved hW.alike hK, hD⟩, hS.F ht⟩) hS.2.2 dX1_splitWithRow_30
  · have hw := hw.2 c2
    refine lv_aload_n hx hb dX1_splitWithRow_7 rfl (lv_at hl 0 rfl) ?_
    refine va_get (D := (dC, dI)) (ci := 1) (v := .ref aH) (C := RX1) (T := TX1) (N := 13) hx hb hts hinX1 hown hK hP 0 rfl rfl 0 (by decide) (hts (.fieldLink RX1 9 "TileHand" "hand" "[I") (by decide +kernel)) (fun _ h9 => h9) rfl dX1_splitWithRow_8 ?_
    refine lv_iload_n hx hb dX1_splitWithRow_11 rfl (lv_at hl 2 rfl) ?_
    refine lv_iconst (v := 1) hx hb dX1_splitWithRow_12 (by decide) ?_
    refine lv_iadd hx hb dX1_splitWithRow_13 ?_
    obtain ⟨h3, hw⟩ := hw
    refine va_iald hx hb hK hP 1 0 rfl rfl h3 dX1_splitWithRow_14 ?_
    refine lv_if_le (tgt := 29) hx hb dX1_splitWithRow_15 (by decide) (fun c4 => ?_) (fun c4 => ?_)
    · have hw := hw.1 c4
      refine lv_iconst (v := -1) hx hb dX1_splitWithRow_29 (by decide) ?_
      rw [← hQ9]
      exact W.iret (v := (-1 : Int32)) hx hb hr (fun t ht hW => ⟨⟨(-1 : Int32), (hd, so, ki), rfl, hw, by rw [ht]; exact hP, va_K.moved hW.alike hK, hD⟩, hS.F ht⟩) hS.2.2 dX1_splitWithRow_30
    · have hw := hw.2 c4
      refine lv_aload_n hx hb dX1_splitWithRow_18 rfl (lv_at hl 0 rfl) ?_
      refine va_get (D := (dC, dI)) (ci := 1) (v := .ref aH) (C := RX1) (T := TX1) (N := 13) hx hb hts hinX1 hown hK hP 0 rfl rfl 0 (by decide) (hts (.fieldLink RX1 9 "TileHand" "hand" "[I") (by decide +kernel)) (fun _ h9 => h9) rfl dX1_splitWithRow_19 ?_
      refine lv_iload_n hx hb dX1_splitWithRow_22 rfl (lv_at hl 2 rfl) ?_
      refine lv_iconst (v := 2) hx hb dX1_splitWithRow_23 (by decide) ?_
      refine lv_iadd hx hb dX1_splitWithRow_24 ?_
      obtain ⟨h5, hw⟩ := hw
      refine va_iald hx hb hK hP 1 0 rfl rfl h5 dX1_splitWithRow_25 ?_
      refine lv_if_gt (tgt := 31) hx hb dX1_splitWithRow_26 (by decide) (fun c6 => ?_) (fun c6 => ?_)
      · have hw := hw.1 c6
        refine lv_aload_n hx hb dX1_splitWithRow_31 rfl (lv_at hl 0 rfl) ?_
        refine va_get (D := (dC, dI)) (ci := 1) (v := .ref aO) (C := RX1) (T := TX1) (N := 13) hx hb hts hinX1 hown hK hP 0 rfl rfl 3 (by decide) (hts (.fieldLink RX1 19 "TileHand" "setSorts" "[I") (by decide +kernel)) (fun _ h9 => h9) rfl dX1_splitWithRow_32 ?_
        refine lv_iload_n hx hb dX1_splitWithRow_35 rfl (lv_at hl 3 rfl) ?_
        refine lv_iconst (v := 0) hx hb dX1_splitWithRow_36 (by decide) ?_
        obtain ⟨h7, hw⟩ := hw
        refine va_iast hx hb hK hP hD hS 2 0 rfl rfl h7 dX1_splitWithRow_37 (fun H locs hP hD hS => ?_)
        have hP : va_P (dC, dI) vwCl [(x, .inr (1, [.ref aH, .ref aL, .ref aS, .ref aO, .ref aK, .ref aZ, .ref cv, .int tcn, .int mcn, .int swd, .int rwd, .int bpt, .int flm])), (aH, .inl (cI, 34, .inl hd)), (aO, .inl (cI, 4, .inl (upd so p2.toNatClampNeg (0 : Int32)))), (aK, .inl (cI, 4, .inl ki))] H := hP
        have hD : va_D A [(x, .inr (1, [.ref aH, .ref aL, .ref aS, .ref aO, .ref aK, .ref aZ, .ref cv, .int tcn, .int mcn, .int swd, .int rwd, .int bpt, .int flm])), (aH, .inl (cI, 34, .inl hd)), (aO, .inl (cI, 4, .inl (upd so p2.toNatClampNeg (0 : Int32)))), (aK, .inl (cI, 4, .inl ki))] := hD
        refine lv_aload_n hx hb dX1_splitWithRow_38 rfl (lv_at hl 0 rfl) ?_
        refine va_get (D := (dC, dI)) (ci := 1) (v := .ref aK) (C := RX1) (T := TX1) (N := 13) hx hb hts hinX1 hown hK hP 0 rfl rfl 4 (by decide) (hts (.fieldLink RX1 22 "TileHand" "setKinds" "[I") (by decide +kernel)) (fun _ h9 => h9) rfl dX1_splitWithRow_39 ?_
        refine lv_iload_n hx hb dX1_splitWithRow_42 rfl (lv_at hl 3 rfl) ?_
        refine lv_iload_n hx hb dX1_splitWithRow_43 rfl (lv_at hl 2 rfl) ?_
        obtain ⟨h8, hw⟩ := hw
        refine va_iast hx hb hK hP hD hS 3 0 rfl rfl h8 dX1_splitWithRow_44 (fun H locs hP hD hS => ?_)
        have hP : va_P (dC, dI) vwCl [(x, .inr (1, [.ref aH, .ref aL, .ref aS, .ref aO, .ref aK, .ref aZ, .ref cv, .int tcn, .int mcn, .int swd, .int rwd, .int bpt, .int flm])), (aH, .inl (cI, 34, .inl hd)), (aO, .inl (cI, 4, .inl (upd so p2.toNatClampNeg (0 : Int32)))), (aK, .inl (cI, 4, .inl (upd ki p2.toNatClampNeg p1)))] H := hP
        have hD : va_D A [(x, .inr (1, [.ref aH, .ref aL, .ref aS, .ref aO, .ref aK, .ref aZ, .ref cv, .int tcn, .int mcn, .int swd, .int rwd, .int bpt, .int flm])), (aH, .inl (cI, 34, .inl hd)), (aO, .inl (cI, 4, .inl (upd so p2.toNatClampNeg (0 : Int32)))), (aK, .inl (cI, 4, .inl (upd ki p2.toNatClampNeg p1)))] := hD
        refine lv_aload_n hx hb dX1_splitWithRow_45 rfl (lv_at hl 0 rfl) ?_
        refine lv_iload_n hx hb dX1_splitWithRow_46 rfl (lv_at hl 2 rfl) ?_
        refine lv_iconst (v := -1) hx hb dX1_splitWithRow_47 (by decide) ?_
        have hPc := hP.sub (ws' := [(x, .inr (1, [.ref aH, .ref aL, .ref aS, .ref aO, .ref aK, .ref aZ, .ref cv, .int tcn, .int mcn, .int swd, .int rwd, .int bpt, .int flm])), (aH, .inl (cI, 34, .inl hd))]) [0, 1] rfl
        have hDc := hD.sub (ws' := [(x, .inr (1, [.ref aH, .ref aL, .ref aS, .ref aO, .ref aK, .ref aZ, .ref cv, .int tcn, .int mcn, .int swd, .int rwd, .int bpt, .int flm])), (aH, .inl (cI, 34, .inl hd))]) [0, 1] (by decide) rfl
        have hFc := va_free (wc := [(x, .inr (1, [.ref aH, .ref aL, .ref aS, .ref aO, .ref aK, .ref aZ, .ref cv, .int tcn, .int mcn, .int swd, .int rwd, .int bpt, .int flm])), (aH, .inl (cI, 34, .inl hd))]) hD hS hA [0, 1] rfl
        refine va_callv (va_runV (As := [.int p1, .int (-1 : Int32)]) (rest := []) ⟨hx, hb, hml, hown, hts⟩ (c_X1_moveRow l dC dI cI cZ x aH aL aS aO aK aZ cv H.size tcn mcn swd rwd bpt flm hd p1 (-1 : Int32) _ hw) (cwV 2 hts gX1_splitWithRow_X1_moveRow rfl rfl rfl (by decide +kernel) ⟨(by first | exact Nat.le_of_ble_eq_true rfl | (simp only [headSpec]; omega) | (simp only [headSpec, List.map_nil, List.map_cons, List.sum_nil, List.sum_cons, Value.category]; omega)), (by first | exact Nat.le_of_ble_eq_true rfl | (simp only [headSpec]; omega) | (simp only [headSpec, List.map_nil, List.map_cons, List.sum_nil, List.sum_cons, Value.category]; omega))⟩) ⟨fun a U g mk q => by obtain ⟨q0, q1, qP, qK, qD⟩ := q; exact ⟨q0, q1, qP, va_K.moved (u := U) (U := U.calling g mk a) (Vm.Alike.refl U.vm) qK, qD⟩, va_recv hK hPc (ci := 1) (q0 := 0) rfl rfl, fun U hU hW => ⟨rfl, by rw [hU], by rw [hU]; exact hPc, va_K.moved hW.alike hK, hDc.weaken (fun _ _ _ _ => trivial)⟩⟩ rfl rfl hl.1 rfl (lv_room ((by first | exact Nat.le_of_ble_eq_true rfl | (simp only [headSpec]; omega) | (simp only [headSpec, List.map_nil, List.map_cons, List.sum_nil, List.sum_cons, Value.category]; omega)))) dX1_splitWithRow_48 ⟨(by first | exact Nat.le_of_ble_eq_true rfl | (simp only [headSpec]; omega) | (simp only [headSpec, List.map_nil, List.map_cons, List.sum_nil, List.sum_cons, Value.category]; omega)), (by first | exact Nat.le_of_ble_eq_true rfl | (simp only [headSpec]; omega) | (simp only [headSpec, List.map_nil, List.map_cons, List.sum_nil, List.sum_cons, Value.category]; omega))⟩) hS (fun q _ h => hFc q h) hFc (fun u t H1 locs ht hvm hw hB hz1 hk1 hS => ?_)
        obtain ⟨hd_9, rfl⟩ : ∃ z, z = u := ⟨_, rfl⟩
        obtain ⟨hP1, -, hD1⟩ := hB
        have hw := And.intro hw trivial
        try dsimp only at hw
        have hw := hw.1
        rw [ht] at hP1
        obtain ⟨hP, hD⟩ := va_join (wr := [(aO, .inl (cI, 4, .inl (upd so p2.toNatClampNeg (0 : Int32)))), (aK, .inl (cI, 4, .inl (upd ki p2.toNatClampNeg p1)))]) (w1 := [(x, .inr (1, [.ref aH, .ref aL, .ref aS, .ref aO, .ref aK, .ref aZ, .ref cv, .int tcn, .int mcn, .int swd, .int rwd, .int bpt, .int flm])), (aH, .inl (cI, 34, .inl hd_9))]) hP hD [0, 1] [2, 3] rfl rfl (by decide) (by decide) hk1 hFc hP1 hD1
        generalize H1 = H at hP hS ⊢
        have hP : va_P (dC, dI) vwCl [(aO, .inl (cI, 4, .inl (upd so p2.toNatClampNeg (0 : Int32)))), (aK, .inl (cI, 4, .inl (upd ki p2.toNatClampNeg p1))), (x, .inr (1, [.ref aH, .ref aL, .ref aS, .ref aO, .ref aK, .ref aZ, .ref cv, .int tcn, .int mcn, .int swd, .int rwd, .int bpt, .int flm])), (aH, .inl (cI, 34, .inl hd_9))] H := hP
        have hD : va_D A [(aO, .inl (cI, 4, .inl (upd so p2.toNatClampNeg (0 : Int32)))), (aK, .inl (cI, 4, .inl (upd ki p2.toNatClampNeg p1))), (x, .inr (1, [.ref aH, .ref aL, .ref aS, .ref aO, .ref aK, .ref aZ, .ref cv, .int tcn, .int mcn, .int swd, .int rwd, .int bpt, .int flm])), (aH, .inl (cI, 34, .inl hd_9))] := hD
        refine lv_aload_n hx hb dX1_splitWithRow_51 rfl (lv_at hl 0 rfl) ?_
        refine lv_iload_n hx hb dX1_splitWithRow_52 rfl (lv_at hl 1 rfl) ?_
        refine lv_iload_n hx hb dX1_splitWithRow_53 rfl (lv_at hl 2 rfl) ?_
        refine lv_iload_n hx hb dX1_splitWithRow_54 rfl (lv_at hl 3 rfl) ?_
        refine lv_iconst (v := 1) hx hb dX1_splitWithRow_55 (by decide) ?_
        refine lv_iadd hx hb dX1_splitWithRow_56 ?_
        have hPc := hP.sub (ws' := [(x, .inr (1, [.ref aH, .ref aL, .ref aS, .ref aO, .ref aK, .ref aZ, .ref cv, .int tcn, .int mcn, .int swd, .int rwd, .int bpt, .int flm])), (aH, .inl (cI, 34, .inl hd_9)), (aO, .inl (cI, 4, .inl (upd so p2.toNatClampNeg (0 : Int32)))), (aK, .inl (cI, 4, .inl (upd ki p2.toNatClampNeg p1)))]) [2, 3, 0, 1] rfl
        have hDc := hD.sub (ws' := [(x, .inr (1, [.ref aH, .ref aL, .ref aS, .ref aO, .ref aK, .ref aZ, .ref cv, .int tcn, .int mcn, .int swd, .int rwd, .int bpt, .int flm])), (aH, .inl (cI, 34, .inl hd_9)), (aO, .inl (cI, 4, .inl (upd so p2.toNatClampNeg (0 : Int32)))), (aK, .inl (cI, 4, .inl (upd ki p2.toNatClampNeg p1)))]) [2, 3, 0, 1] (by decide) rfl
        have hFc := va_free (wc := [(x, .inr (1, [.ref aH, .ref aL, .ref aS, .ref aO, .ref aK, .ref aZ, .ref cv, .int tcn, .int mcn, .int swd, .int rwd, .int bpt, .int flm])), (aH, .inl (cI, 34, .inl hd_9)), (aO, .inl (cI, 4, .inl (upd so p2.toNatClampNeg (0 : Int32)))), (aK, .inl (cI, 4, .inl (upd ki p2.toNatClampNeg p1)))]) hD hS hA [2, 3, 0, 1] rfl
        refine va_calli (va_runV (As := [.int p0, .int p1, .int (p2 + (1 : Int32))]) (rest := []) ⟨hx, hb, hml, hown, hts⟩ (ihd x aH aL aS aO aK aZ cv H.size tcn mcn swd rwd bpt flm hd_9 (upd so p2.toNatClampNeg (0 : Int32)) (upd ki p2.toNatClampNeg p1) p0 p1 (p2 + (1 : Int32)) _ hw) (cwV 3 hts gX1_splitWithRow_X1_bestSplit rfl rfl rfl (by decide +kernel) ⟨(by first | exact Nat.le_of_ble_eq_true rfl | (simp only [headSpec]; omega) | (simp only [headSpec, List.map_nil, List.map_cons, List.sum_nil, List.sum_cons, Value.category]; omega)), (by first | exact Nat.le_of_ble_eq_true rfl | (simp only [headSpec]; omega) | (simp only [headSpec, List.map_nil, List.map_cons, List.sum_nil, List.sum_cons, Value.category]; omega))⟩) ⟨fun a U g mk q => by obtain ⟨q0, q1, qP, qK, qD⟩ := q; exact ⟨q0, q1, qP, va_K.moved (u := U) (U := U.calling g mk a) (Vm.Alike.refl U.vm) qK, qD⟩, va_recv hK hPc (ci := 1) (q0 := 0) rfl rfl, fun U hU hW => ⟨rfl, by rw [hU], by rw [hU]; exact hPc, va_K.moved hW.alike hK, hDc.weaken (fun _ _ _ _ => trivial)⟩⟩ rfl rfl hl.1 rfl (lv_room ((by first | exact Nat.le_of_ble_eq_true rfl | (simp only [headSpec]; omega) | (simp only [headSpec, List.map_nil, List.map_cons, List.sum_nil, List.sum_cons, Value.category]; omega)))) dX1_splitWithRow_57 ⟨(by first | exact Nat.le_of_ble_eq_true rfl | (simp only [headSpec]; omega) | (simp only [headSpec, List.map_nil, List.map_cons, List.sum_nil, List.sum_cons, Value.category]; omega)), (by first | exact Nat.le_of_ble_eq_true rfl | (simp only [headSpec]; omega) | (simp only [headSpec, List.map_nil, List.map_cons, List.sum_nil, List.sum_cons, Value.category]; omega))⟩) hS (fun q _ h => hFc q h) hFc (fun r10 u t H1 locs ht hvm hw hB hz1 hk1 hS => ?_)
        obtain ⟨hd_11, so_12, ki_13⟩ := u
        obtain ⟨hP1, -, hD1⟩ := hB
        have hw := And.intro hw trivial
        try dsimp only at hw
        have hw := hw.1
        rw [ht] at hP1
        obtain ⟨hP, hD⟩ := va_join (wr := []) (w1 := [(x, .inr (1, [.ref aH, .ref aL, .ref aS, .ref aO, .ref aK, .ref aZ, .ref cv, .int tcn, .int mcn, .int swd, .int rwd, .int bpt, .int flm])), (aH, .inl (cI, 34, .inl hd_11)), (aO, .inl (cI, 4, .inl so_12)), (aK, .inl (cI, 4, .inl ki_13))]) hP hD [2, 3, 0, 1] [] rfl rfl (by decide) (by decide) hk1 hFc hP1 hD1
        generalize H1 = H at hP hS ⊢
        have hP : va_P (dC, dI) vwCl [(x, .inr (1, [.ref aH, .ref aL, .ref aS, .ref aO, .ref aK, .ref aZ, .ref cv, .int tcn, .int mcn, .int swd, .int rwd, .int bpt, .int flm])), (aH, .inl (cI, 34, .inl hd_11)), (aO, .inl (cI, 4, .inl so_12)), (aK, .inl (cI, 4, .inl ki_13))] H := hP
        have hD : va_D A [(x, .inr (1, [.ref aH, .ref aL, .ref aS, .ref aO, .ref aK, .ref aZ, .ref cv, .int tcn, .int mcn, .int swd, .int rwd, .int bpt, .int flm])), (aH, .inl (cI, 34, .inl hd_11)), (aO, .inl (cI, 4, .inl so_12)), (aK, .inl (cI, 4, .inl ki_13))] := hD
        refine lv_istore (lv' := [(4, .int r10), (0, .ref x), (1, .int p0), (2, .int p1), (3, .int p2)]) hx hb dX1_splitWithRow_60 hl (by decide) rfl (fun ls hl => ?_)
        refine lv_aload_n hx hb dX1_splitWithRow_62 rfl (lv_at hl 1 rfl) ?_
        refine lv_iload_n hx hb dX1_splitWithRow_63 rfl (lv_at hl 3 rfl) ?_
        refine lv_iconst (v := 1) hx hb dX1_splitWithRow_64 (by decide) ?_
        have hPc := hP.sub (ws' := [(x, .inr (1, [.ref aH, .ref aL, .ref aS, .ref aO, .ref aK, .ref aZ, .ref cv, .int tcn, .int mcn, .int swd, .int rwd, .int bpt, .int flm])), (aH, .inl (cI, 34, .inl hd_11))]) [0, 1] rfl
        have hDc := hD.sub (ws' := [(x, .inr (1, [.ref aH, .ref aL, .ref aS, .ref aO, .ref aK, .ref aZ, .ref cv, .int tcn, .int mcn, .int swd, .int rwd, .int bpt, .int flm])), (aH, .inl (cI, 34, .inl hd_11))]) [0, 1] (by decide) rfl
        have hFc := va_free (wc := [(x, .inr (1, [.ref aH, .ref aL, .ref aS, .ref aO, .ref aK, .ref aZ, .ref cv, .int tcn, .int mcn, .int swd, .int rwd, .int bpt, .int flm])), (aH, .inl (cI, 34, .inl hd_11))]) hD hS hA [0, 1] rfl
        refine va_callv (va_runV (As := [.int p1, .int (1 : Int32)]) (rest := []) ⟨hx, hb, hml, hown, hts⟩ (c_X1_moveRow l dC dI cI cZ x aH aL aS aO aK aZ cv H.size tcn mcn swd rwd bpt flm hd_11 p1 (1 : Int32) _ hw) (cwV 2 hts gX1_splitWithRow_X1_moveRow rfl rfl rfl (by decide +kernel) ⟨(by first | exact Nat.le_of_ble_eq_true rfl | (simp only [headSpec]; omega) | (simp only [headSpec, List.map_nil, List.map_cons, List.sum_nil, List.sum_cons, Value.category]; omega)), (by first | exact Nat.le_of_ble_eq_true rfl | (simp only [headSpec]; omega) | (simp only [headSpec, List.map_nil, List.map_cons, List.sum_nil, List.sum_cons, Value.category]; omega))⟩) ⟨fun a U g mk q => by obtain ⟨q0, q1, qP, qK, qD⟩ := q; exact ⟨q0, q1, qP, va_K.moved (u := U) (U := U.calling g mk a) (Vm.Alike.refl U.vm) qK, qD⟩, va_recv hK hPc (ci := 1) (q0 := 0) rfl rfl, fun U hU hW => ⟨rfl, by rw [hU], by rw [hU]; exact hPc, va_K.moved hW.alike hK, hDc.weaken (fun _ _ _ _ => trivial)⟩⟩ rfl rfl hl.1 rfl (lv_room ((by first | exact Nat.le_of_ble_eq_true rfl | (simp only [headSpec]; omega) | (simp only [headSpec, List.map_nil, List.map_cons, List.sum_nil, List.sum_cons, Value.category]; omega)))) dX1_splitWithRow_65 ⟨(by first | exact Nat.le_of_ble_eq_true rfl | (simp only [headSpec]; omega) | (simp only [headSpec, List.map_nil, List.map_cons, List.sum_nil, List.sum_cons, Value.category]; omega)), (by first | exact Nat.le_of_ble_eq_true rfl | (simp only [headSpec]; omega) | (simp only [headSpec, List.map_nil, List.map_cons, List.sum_nil, List.sum_cons, Value.category]; omega))⟩) hS (fun q _ h => hFc q h) hFc (fun u t H1 locs ht hvm hw hB hz1 hk1 hS => ?_)
        obtain ⟨hd_14, rfl⟩ : ∃ z, z = u := ⟨_, rfl⟩
        obtain ⟨hP1, -, hD1⟩ := hB
        have hw := And.intro hw trivial
        try dsimp only at hw
        have hw := hw.1
        rw [ht] at hP1
        obtain ⟨hP, hD⟩ := va_join (wr := [(aO, .inl (cI, 4, .inl so_12)), (aK, .inl (cI, 4, .inl ki_13))]) (w1 := [(x, .inr (1, [.ref aH, .ref aL, .ref aS, .ref aO, .ref aK, .ref aZ, .ref cv, .int tcn, .int mcn, .int swd, .int rwd, .int bpt, .int flm])), (aH, .inl (cI, 34, .inl hd_14))]) hP hD [0, 1] [2, 3] rfl rfl (by decide) (by decide) hk1 hFc hP1 hD1
        generalize H1 = H at hP hS ⊢
        have hP : va_P (dC, dI) vwCl [(aO, .inl (cI, 4, .inl so_12)), (aK, .inl (cI, 4, .inl ki_13)), (x, .inr (1, [.ref aH, .ref aL, .ref aS, .ref aO, .ref aK, .ref aZ, .ref cv, .int tcn, .int mcn, .int swd, .int rwd, .int bpt, .int flm])), (aH, .inl (cI, 34, .inl hd_14))] H := hP
        have hD : va_D A [(aO, .inl (cI, 4, .inl so_12)), (aK, .inl (cI, 4, .inl ki_13)), (x, .inr (1, [.ref aH, .ref aL, .ref aS, .ref aO, .ref aK, .ref aZ, .ref cv, .int tcn, .int mcn, .int swd, .int rwd, .int bpt, .int flm])), (aH, .inl (cI, 34, .inl hd_14))] := hD
        refine lv_iload hx hb dX1_splitWithRow_68 (lv_at hl 0 rfl) ?_
        have hP9 := hP.sub (ws' := [(x, .inr (1, [.ref aH, .ref aL, .ref aS, .ref aO, .ref aK, .ref aZ, .ref cv, .int tcn, .int mcn, .int swd, .int rwd, .int bpt, .int flm])), (aH, .inl (cI, 34, .inl hd_14)), (aO, .inl (cI, 4, .inl so_12)), (aK, .inl (cI, 4, .inl ki_13))]) [2, 3, 0, 1] rfl
        have hD9 := hD.sub (ws' := [(x, .inr (1, [.ref aH, .ref aL, .ref aS, .ref aO, .ref aK, .ref aZ, .ref cv, .int tcn, .int mcn, .int swd, .int rwd, .int bpt, .int flm])), (aH, .inl (cI, 34, .inl hd_14)), (aO, .inl (cI, 4, .inl so_12)), (aK, .inl (cI, 4, .inl ki_13))]) [2, 3, 0, 1] (by decide) rfl
        rw [← hQ9]
        exact W.iret (v := r10) hx hb hr (fun t ht hW => ⟨⟨r10, (hd_14, so_12, ki_13), rfl, hw, by rw [ht]; exact hP9, va_K.moved hW.alike hK, hD9⟩, hS.F ht⟩) hS.2.2 dX1_splitWithRow_70
      · have hw := hw.2 c6
        refine lv_iconst (v := -1) hx hb dX1_splitWithRow_29 (by decide) ?_
        rw [← hQ9]
        exact W.iret (v := (-1 : Int32)) hx hb hr (fun t ht hW => ⟨⟨(-1 : Int32), (hd, so, ki), rfl, hw, by rw [ht]; exact hP, va_K.moved hW.alike hK, hD⟩, hS.F ht⟩) hS.2.2 dX1_splitWithRow_30
