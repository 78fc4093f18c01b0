def w_J7_fill_53178_b5 (post : (Nat → Int32) → Prop) (nF : Nat) (p0 : Int32) : Nat → Int32 → Int32 → (Nat → Int32) → Prop
  | 0, _, _, _ => False
  | n + 1, v2, v3, ff => ((v3 ≤ v2 → (post ff)) ∧ (¬ v3 ≤ v2 → (vp_in v2 nF ∧ (w_J7_fill_53178_b5 post nF p0 n (v2 + 1) v3 (upd ff v2.toNatClampNeg p0)))))

def w_J7_fill_53178 (nF : Nat) (ff : (Nat → Int32)) (p0 : Int32) (post : (Nat → Int32) → Prop) : Prop := ∃ n9, w_J7_fill_53178_b5 post nF p0 n9 (0 : Int32) (Int32.ofNat nF) ff

set_option maxHeartbeats 4000000 in
set_option maxRecDepth 100000 in
theorem c_J7_fill_53178 (l : Launch) (dC : Nat → ClassId) (dI : Nat → Nat → Nat) (cI cZ : ClassId) (aF : Nat) (nF : Nat) (sz : Nat) (ff : (Nat → Int32)) (p0 : Int32) (post : (Nat → Int32) → Prop) (hw : w_J7_fill_53178 nF ff p0 post) : Met l yJ7_fill_53178 wsJ7_fill_53178 ({ frames := 0, cells := 0, slots := 0, locals := 0 } : Room) (va_Pc [.ref aF, .int p0] (fun U => U.heap.size = sz ∧ va_P (dC, dI) vwCl [(aF, .inl (cI, nF, .inl ff))] U.heap ∧ va_K (dC, dI) vwCl [(cI, .int), (cZ, .boolean)] U ∧ va_D (fun _ => True) [(aF, .inl (cI, nF, .inl ff))])) (va_Qv (fun (u9 : (Nat → Int32)) => post u9) (fun (u9 : (Nat → Int32)) (t9 : State) => va_P (dC, dI) vwCl [(aF, .inl (cI, nF, .inl u9))] t9.heap ∧ va_K (dC, dI) vwCl [(cI, .int), (cZ, .boolean)] t9 ∧ va_D (va_A [(aF, .inl (cI, nF, .inl ff))] sz) [(aF, .inl (cI, nF, .inl u9))]) (va_A [(aF, .inl (cI, nF, .inl ff))] sz)) 0 0 (va_A [(aF, .inl (cI, nF, .inl ff))] sz) := by
  refine Met.ofW (cc := cJ7_fill_53178) (maxL := 4) (ret := none) (by decide) rfl ?_
  intro p e s m args below meth c s₁ B hml hv
  obtain ⟨rfl, hsz, hP, hK, hD0⟩ := hv
  have hx := B.exec
  have hb := B.bytes
  have hr := B.returns
  have hts := atoms_spec (ws := wsJ7_fill_53178) B.pre
  have hown : s.vm.findClass RJ7 = some m.cls := findClass_of_methodNamed B.named
  have hlocks := B.notSynchronized
  subst hsz
  have hD := hD0.self (sz := s.heap.size)
  generalize hAe : va_A [(aF, .inl (cI, nF, .inl ff))] s.heap.size = A at hD ⊢
  have hA : ∀ q : Nat, s.heap.size ≤ q → A q := fun q h => by rw [← hAe]; exact Or.inr h
  have hS : va_S A s.heap s.heap [] := va_S.rf
  have hl := lv_entry ([.ref aF, .int p0]) (n := 4) (Nat.le_of_ble_eq_true rfl)
  rw [lg_entry_eq]
  generalize (lg_sl ([.ref aF, .int p0]) ++ List.replicate (4 - (lg_sl ([.ref aF, .int p0])).length) Slot.unset).toArray = ls at hl ⊢
  have hl : lv_has ls 4 [(0, .ref aF), (1, .int p0)] := hl
  refine (?_ : ∀ Q9 : State → Prop, MQ below _ _ s _ _ _ = Q9 → W p l e ({ frames := 0, cells := 0, slots := 0, locals := 0 } : Room) s m _ below meth c s.heap [] 0 0 Q9 (F0 m 0 ls [])) _ rfl
  intro Q9 hQ9
  have hw : ∃ n9, w_J7_fill_53178_b5 post nF p0 n9 (0 : Int32) (Int32.ofNat nF) ff := hw
  have L5 : ∀ (n : Nat), ∀ (v2 : Int32) (v3 : Int32) (ff : (Nat → Int32)) (H : Heap) (locs : List Loc) (ls : Array Slot), w_J7_fill_53178_b5 post nF p0 n v2 v3 ff → va_P (dC, dI) vwCl [(aF, .inl (cI, nF, .inl ff))] H → va_D A [(aF, .inl (cI, nF, .inl ff))] → va_S A s.heap H locs → lv_has ls 4 [(0, .ref aF), (1, .int p0), (2, .int v2), (3, .int v3)] → W p l e ({ frames := 0, cells := 0, slots := 0, locals := 0 } : Room) s m ([.ref aF, .int p0] : List Value).toArray below meth c H locs 0 0 Q9 (F0 m 5 ls []) := by
    intro n
    induction n with
    | zero => intro v2 v3 ff H locs ls hw _ _ _ _; exact False.elim hw
    | succ n ih =>
      intro v2 v3 ff H locs ls hw hP hD hS hl
      refine lv_iload_n hx hb dJ7_fill_53178_5 rfl (lv_at hl 2 rfl) ?_
      refine lv_iload_n hx hb dJ7_fill_53178_6 rfl (lv_at hl 3 rfl) ?_
      refine lv_icmp_ge (tgt := 20) hx hb dJ7_fill_53178_7 (by decide) (fun c1 => ?_) (fun c1 => ?_)
      · have hw := hw.1 c1
        rw [← hQ9]
        exact W.vret hx hb hr (fun t ht hW => ⟨⟨(ff), rfl, hw, by rw [ht]; exact hP, va_K.moved hW.alike hK, hD⟩, hS.F ht⟩) hS.2.2 dJ7_fill_53178_20
      · have hw := hw.2 c1
        refine lv_aload_n hx hb dJ7_fill_53178_10 rfl (lv_at hl 0 rfl) ?_
        refine lv_iload_n hx hb dJ7_fill_53178_11 rfl (lv_at hl 2 rfl) ?_
        refine lv_iload_n hx hb dJ7_fill_53178_12 rfl (lv_at hl 1 rfl) ?_
        obtain ⟨h2, hw⟩ := hw
        refine va_iast hx hb hK hP hD hS 0 0 rfl rfl h2 dJ7_fill_53178_13 (fun H locs hP hD hS => ?_)
        have hP : va_P (dC, dI) vwCl [(aF, .inl (cI, nF, .inl (upd ff v2.toNatClampNeg p0)))] H := hP
        have hD : va_D A [(aF, .inl (cI, nF, .inl (upd ff v2.toNatClampNeg p0)))] := hD
        refine lv_iinc (v := v2 + 1) (lv' := [(2, .int (v2 + 1)), (0, .ref aF), (1, .int p0), (3, .int v3)]) hx hb dJ7_fill_53178_14 hl (k := 2) rfl rfl (by decide) rfl (fun ls hl => ?_)
        refine lv_goto (tgt := 5) hx hb dJ7_fill_53178_17 (by decide) ?_
        exact ih (v2 + 1) v3 (upd ff v2.toNatClampNeg p0) _ _ _ hw hP hD hS (lv_sub hl [1, 2, 0, 3] rfl)
  refine lv_iconst (v := 0) hx hb dJ7_fill_53178_0 (by decide) ?_
  refine lv_istore_n (lv' := [(2, .int (0 : Int32)), (0, .ref aF), (1, .int p0)]) hx hb dJ7_fill_53178_1 rfl hl (by decide) rfl (fun ls hl => ?_)
  refine lv_aload_n hx hb dJ7_fill_53178_2 rfl (lv_at hl 1 rfl) ?_
  refine va_alen (v := Int32.ofNat nF) hx hb hK hP 0 0 rfl rfl rfl dJ7_fill_53178_3 ?_
  refine lv_istore_n (lv' := [(3, .int (Int32.ofNat nF)), (2, .int (0 : Int32)), (0, .ref aF), (1, .int p0)]) hx hb dJ7_fill_53178_4 rfl hl (by decide) rfl (fun ls hl => ?_)
  obtain ⟨n9, hw⟩ := hw
  exact L5 n9 (0 : Int32) (Int32.ofNat nF) ff _ _ _ hw hP hD hS (lv_sub hl [2, 3, 1, 0] rfl)

def w_X1_beginsRow (p0 : Int32) (post : Int32 → Prop) : Prop := ((p0 < 0 → (post (0 : Int32))) ∧ (¬ p0 < 0 → ((((27 : Int32) ≤ p0 → (post (0 : Int32))) ∧ (¬ (27 : Int32) ≤ p0 → ((((6 : Int32) < (p0 - p0 / (9 : Int32) * (9 : Int32)) → (post (0 : Int32))) ∧ (¬ (6 : Int32) < (p0 - p0 / (9 : Int32) * (9 : Int32)) → (post (1 : Int32))))))))))

set_option maxHeartbeats 4000000 in
set_option maxRecDepth 100000 in
theorem c_X1_beginsRow (l : Launch) (dC : Nat → ClassId) (dI : Nat → Nat → Nat) (cI cZ : ClassId) (sz : Nat) (p0 : Int32) (post : Int32 → Prop) (hw : w_X1_beginsRow p0 post) : Met l yX1_beginsRow wsX1_beginsRow ({ frames := 0, cells := 0, slots := 0, locals := 0 } : Room) (va_Pc [.int p0] (fun U => U.heap.size = sz ∧ va_P (dC, dI) vwCl [] U.heap ∧ va_K (dC, dI) vwCl [(cI, .int), (cZ, .boolean)] U ∧ va_D (fun _ => True) [])) (va_Qi (fun (r9 : Int32) (u9 : Unit) => post r9) (fun (u9 : Unit) (t9 : State) => va_P (dC, dI) vwCl [] t9.heap ∧ va_K (dC, dI) vwCl [(cI, .int), (cZ, .boolean)] t9 ∧ va_D (va_A [] sz) []) (va_A [] sz)) 0 0 (va_A [] sz) := by
  refine Met.ofW (cc := cX1_beginsRow) (maxL := 1) (ret := (some .boolean)) (by decide) rfl ?_
  intro p e s m args below meth c s₁ B hml hv
  obtain ⟨rfl, hsz, hP, hK, hD0⟩ := hv
  have hx := B.exec
  have hb := B.bytes
  have hr := B.returns
  have hts := atoms_spec (ws := wsX1_beginsRow) B.pre
  have hown : s.vm.findClass RX1 = some m.cls := findClass_of_methodNamed B.named
  have hlocks := B.notSynchronized
  subst hsz
  have hD := hD0.self (sz := s.heap.size)
  generalize hAe : va_A [] s.heap.size = A at hD ⊢
  have hA : ∀ q : Nat, s.heap.size ≤ q → A q := fun q h => by rw [← hAe]; exact Or.inr h
  have hS : va_S A s.heap s.heap [] := va_S.rf
  have hl := lv_entry ([.int p0]) (n := 1) (Nat.le_of_ble_eq_true rfl)
  rw [lg_entry_eq]
  generalize (lg_sl ([.int p0]) ++ List.replicate (1 - (lg_sl ([.int p0])).length) Slot.unset).toArray = ls at hl ⊢
  have hl : lv_has ls 1 [(0, .int p0)] := hl
  refine (?_ : ∀ Q9 : State → Prop, MQ below _ _ s _ _ _ = Q9 → W p l e ({ frames := 0, cells := 0, slots := 0, locals := 0 } : Room) s m _ below meth c s.heap [] 0 0 Q9 (F0 m 0 ls [])) _ rfl
  intro Q9 hQ9
  have hw : ((p0 < 0 → (post (0 : Int32))) ∧ (¬ p0 < 0 → ((((27 : Int32) ≤ p0 → (post (0 : Int32))) ∧ (¬ (27 : Int32) ≤ p0 → ((((6 : Int32) < (p0 - p0 / (9 : Int32) * (9 : Int32)) → (post (0 : Int32))) ∧ (¬ (6 : Int32) < (p0 - p0 / (9 : Int32) * (9 : Int32)) → (post (1 : Int32)))))))))) := hw
  refine lv_iload_n hx hb dX1_beginsRow_0 rfl (lv_at hl 0 rfl) ?_
  refine lv_if_lt (tgt := 23) hx hb dX1_beginsRow_1 (by decide) (fun c1 => ?_) (fun c1 => ?_)
  · have hw := hw.1 c1
    refine lv_iconst (v := 0) hx hb dX1_beginsRow_23 (by decide) ?_
    rw [← hQ9]
    exact W.zret (v := (0 : Int32)) hx hb hr rfl (fun t ht hW => ⟨⟨(0 : Int32), (), rfl, hw, by rw [ht]; exact hP, va_K.moved hW.alike hK, hD⟩, hS.F ht⟩) hS.2.2 dX1_beginsRow_24
  · have hw := hw.2 c1
    refine lv_iload_n hx hb dX1_beginsRow_4 rfl (lv_at hl 0 rfl) ?_
    refine lv_bipush (v := 27) hx hb dX1_beginsRow_5 (by decide) ?_
    refine lv_icmp_ge (tgt := 23) hx hb dX1_beginsRow_7 (by decide) (fun c2 => ?_) (fun c2 => ?_)
    · have hw := hw.1 c2
      refine lv_iconst (v := 0) hx hb dX1_beginsRow_23 (by decide) ?_
      rw [← hQ9]
      exact W.zret (v := (0 : Int32)) hx hb hr rfl (fun t ht hW => ⟨⟨(0 : Int32), (), rfl, hw, by rw [ht]; exact hP, va_K.moved hW.alike hK, hD⟩, hS.F ht⟩) hS.2.2 dX1_beginsRow_24
    · have hw := hw.2 c2
      refine lv_iload_n hx hb dX1_beginsRow_10 rfl (lv_at hl 0 rfl) ?_
      refine lv_bipush (v := 9) hx hb dX1_beginsRow_11 (by decide) ?_
      refine lv_irem hx hb dX1_beginsRow_13 (by decide) ?_
      refine lv_bipush (v := 6) hx hb dX1_beginsRow_14 (by decide) ?_
      refine lv_icmp_gt (tgt := 23) hx hb dX1_beginsRow_16 (by decide) (fun c3 => ?_) (fun c3 => ?_)
      · have hw := hw.1 c3
        refine lv_iconst (v := 0) hx hb dX1_beginsRow_23 (by decide) ?_
        rw [← hQ9]
        exact W.zret (v := (0 : Int32)) hx hb hr rfl (fun t ht hW => ⟨⟨(0 : Int32), (), rfl, hw, by rw [ht]; exact hP, va_K.moved hW.alike hK, hD⟩, hS.F ht⟩) hS.2.2 dX1_beginsRow_24
      · have hw := hw.2 c3
        refine lv_iconst (v := 1) hx hb dX1_beginsRow_19 (by decide) ?_
        refine lv_goto (tgt := 24) hx hb dX1_beginsRow_20 (by decide) ?_
        rw [← hQ9]
        exact W.zret (v := (1 : Int32)) hx hb hr rfl (fun t ht hW => ⟨⟨(1 : Int32), (), rfl, hw, by rw [ht]; exact hP, va_K.moved hW.alike hK, hD⟩, hS.F ht⟩) hS.2.2 dX1_beginsRow_24

def w_X0_canRow (hd : (Nat → Int32)) (p0 : Int32) (post : Int32 → Prop) : Prop := w_X1_beginsRow p0 (fun r1 => (((r1 = 0 → (post (0 : Int32))) ∧ (¬ r1 = 0 → (vp_in p0 34 ∧ (vp_in (p0 + (1 : Int32)) 34 ∧ (vp_in (p0 + (2 : Int32)) 34 ∧ ((((((hd p0.toNatClampNeg) + (hd (p0 + (1 : Int32)).toNatClampNeg)) + (hd (p0 + (2 : Int32)).toNatClampNeg)) ≤ 0 → (post (0 : Int32))) ∧ (¬ (((hd p0.toNatClampNeg) + (hd (p0 + (1 : Int32)).toNatClampNeg)) + (hd (p0 + (2 : Int32)).toNatClampNeg)) ≤ 0 → (post (1 : Int32))))))))))))

set_option maxHeartbeats 4000000 in
set_option maxRecDepth 100000 in
theorem c_X0_canRow (l : Launch) (dC : Nat → ClassId) (dI : Nat → Nat → Nat) (cI cZ : ClassId) (aH : Nat) (sz : Nat) (hd : (Nat → Int32)) (p0 : Int32) (post : Int32 → Prop) (hw : w_X0_canRow hd p0 post) : Met l yX0_canRow wsX0_canRow ({ frames := 2, cells := 0, slots := 0, locals := 40 } : Room) (va_Pc [.ref aH, .int p0] (fun U => U.heap.size = sz ∧ va_P (dC, dI) vwCl [(aH, .inl (cI, 34, .inl hd))] U.heap ∧ va_K (dC, dI) vwCl [(cI, .int), (cZ, .boolean)] U ∧ va_D (fun _ => True) [(aH, .inl (cI, 34, .inl hd))] ∧ va_Nw (.methodLinkNest RX0 51 yX1_beginsRow "TileHand") U)) (va_Qi (fun (r9 : Int32) (u9 : Unit) => post r9) (fun (u9 : Unit) (t9 : State) => va_P (dC, dI) vwCl [(aH, .inl (cI, 34, .inl hd))] t9.heap ∧ va_K (dC, dI) vwCl [(cI, .int), (cZ, .boolean)] t9 ∧ va_D (va_A [(aH, .inl (cI, 34, .inl hd))] sz) [(aH, .inl (cI, 34, .inl hd))]) (va_A [(aH, .inl (cI, 34, .inl hd))] sz)) 0 0 (va_A [(aH, .inl (cI, 34, .inl hd))] sz) := by
  refine Met.ofW (cc := cX0_canRow) (maxL := 2) (ret := (some .boolean)) (by decide) rfl ?_
  intro p e s m args below meth c s₁ B hml hv
  obtain ⟨rfl, hsz, hP, hK, hD0, hnk⟩ := hv
  have hx := B.exec
  have hb := B.bytes
  have hr := B.returns
  have hts := atoms_spec (ws := wsX0_canRow) B.pre
  have hown : s.vm.findClass RX0 = some m.cls := findClass_of_methodNamed B.named
  have hlocks := B.notSynchronized
  subst hsz
  have hD := hD0.self (sz := s.heap.size)
  generalize hAe : va_A [(aH, .inl (cI, 34, .inl hd))] s.heap.size = A at hD ⊢
  have hA : ∀ q : Nat, s.heap.size ≤ q → A q := fun q h => by rw [← hAe]; exact Or.inr h
  have hS : va_S A s.heap s.heap [] := va_S.rf
  have hl := lv_entry ([.ref aH, .int p0]) (n := 2) (Nat.le_of_ble_eq_true rfl)
  rw [lg_entry_eq]
  generalize (lg_sl ([.ref aH, .int p0]) ++ List.replicate (2 - (lg_sl ([.ref aH, .int p0])).length) Slot.unset).toArray = ls at hl ⊢
  have hl : lv_has ls 2 [(0, .ref aH), (1, .int p0)] := hl
  refine (?_ : ∀ Q9 : State → Prop, MQ below _ _ s _ _ _ = Q9 → W p l e ({ frames := 2, cells := 0, slots := 0, locals := 40 } : Room) s m _ below meth c s.heap [] 0 0 Q9 (F0 m 0 ls [])) _ rfl
  intro Q9 hQ9
  have hw : w_X1_beginsRow p0 (fun r1 => (((r1 = 0 → (post (0 : Int32))) ∧ (¬ r1 = 0 → (vp_in p0 34 ∧ (vp_in (p0 + (1 : Int32)) 34 ∧ (vp_in (p0 + (2 : Int32)) 34 ∧ ((((((hd p0.toNatClampNeg) + (hd (p0 + (1 : Int32)).toNatClampNeg)) + (hd (p0 + (2 : Int32)).toNatClampNeg)) ≤ 0 → (post (0 : Int32))) ∧ (¬ (((hd p0.toNatClampNeg) + (hd (p0 + (1 : Int32)).toNatClampNeg)) + (hd (p0 + (2 : Int32)).toNatClampNeg)) ≤ 0 → (post (1 : Int32)))))))))))) := hw
  refine lv_iload_n hx hb dX0_canRow_0 rfl (lv_at hl 1 rfl) ?_
  have hPc := hP.sub (ws' := []) [] rfl
  have hDc := hD.sub (ws' := []) [] (by decide) rfl
  have hFc := va_free (wc := []) hD hS hA [] rfl
  refine va_calli (va_runSN (As := [.int p0]) (rest := []) ⟨hx, hb, hml, hown, hts⟩ (c_X1_beginsRow l dC dI cI cZ s.heap.size p0 _ hw) ⟨va_cnB 1 hts ggX0_canRow_X1_beginsRow rfl rfl rfl hnk (hts (.initialized RX1) (by decide +kernel)) (by decide +kernel) ⟨Nat.le_of_ble_eq_true rfl, Nat.le_of_ble_eq_true rfl⟩, hts (.static yX1_beginsRow) (by decide +kernel), trivial⟩ ⟨fun a U g mk q => by obtain ⟨q0, q1, qP, qK, qD⟩ := q; exact ⟨q0, q1, qP, va_K.moved (u := U) (U := U.calling g mk a) (Vm.Alike.refl U.vm) qK, qD⟩, fun U hU hW => ⟨rfl, by rw [hU], by rw [hU]; exact hPc, va_K.moved hW.alike hK, hDc.weaken (fun _ _ _ _ => trivial)⟩⟩ rfl rfl hl.1 rfl (lv_room (Nat.le_of_ble_eq_true rfl)) dX0_canRow_1 ⟨Nat.le_of_ble_eq_true rfl, Nat.le_of_ble_eq_true rfl⟩) hS (fun q _ h => hFc q h) hFc (fun r1 u t H1 locs ht hvm hw hB hz1 hk1 hS => ?_)
  obtain ⟨hP1, -, hD1⟩ := hB
  have hw := And.intro hw trivial
  try dsimp only at hw
  have hw := hw.1
  rw [ht] at hP1
  obtain ⟨hP, hD⟩ := va_join (wr := [(aH, .inl (cI, 34, .inl hd))]) (w1 := []) hP hD [] [0] rfl rfl (by decide) (by decide) hk1 hFc hP1 hD1
  generalize H1 = H at hP hS ⊢
  have hP : va_P (dC, dI) vwCl [(aH, .inl (cI, 34, .inl hd))] H := hP
  have hD : va_D A [(aH, .inl (cI, 34, .inl hd))] := hD
  refine lv_if_eq (tgt := 29) hx hb dX0_canRow_4 (by decide) (fun c2 => ?_) (fun c2 => ?_)
  · have hw := hw.1 c2
    refine lv_iconst (v := 0) hx hb dX0_canRow_29 (by decide) ?_
    rw [← hQ9]
    exact W.zret (v := (0 : Int32)) hx hb hr rfl (fun t ht hW => ⟨⟨(0 : Int32), (), rfl, hw, by rw [ht]; exact hP, va_K.moved hW.alike hK, hD⟩, hS.F ht⟩) hS.2.2 dX0_canRow_30
  · have hw := hw.2 c2
    refine lv_aload_n hx hb dX0_canRow_7 rfl (lv_at hl 0 rfl) ?_
    refine lv_iload_n hx hb dX0_canRow_8 rfl (lv_at hl 1 rfl) ?_
    obtain ⟨h3, hw⟩ := hw
    refine va_iald hx hb hK hP 0 0 rfl rfl h3 dX0_canRow_9 ?_
    refine lv_aload_n hx hb dX0_canRow_10 rfl (lv_at hl 0 rfl) ?_
    refine lv_iload_n hx hb dX0_canRow_11 rfl (lv_at hl 1 rfl) ?_
    refine lv_iconst (v := 1) hx hb dX0_canRow_12 (by decide) ?_
    refine lv_iadd hx hb dX0_canRow_13 ?_
    obtain ⟨h4, hw⟩ := hw
    refine va_iald hx hb hK hP 0 0 rfl rfl h4 dX0_canRow_14 ?_
    refine lv_iadd hx hb dX0_canRow_15 ?_
    refine lv_aload_n hx hb dX0_canRow_16 rfl (lv_at hl 0 rfl) ?_
    refine lv_iload_n hx hb dX0_canRow_17 rfl (lv_at hl 1 rfl) ?_
    refine lv_iconst (v := 2) hx hb dX0_canRow_18 (by decide) ?_
    refine lv_iadd hx hb dX0_canRow_19 ?_
    obtain ⟨h5, hw⟩ := hw
    refine va_iald hx hb hK hP 0 0 rfl rfl h5 dX0_canRow_20 ?_
    refine lv_iadd hx hb dX0_canRow_21 ?_
    refine lv_if_le (tgt := 29) hx hb dX0_canRow_22 (by decide) (fun c6 => ?_) (fun c6 => ?_)
    · have hw := hw.1 c6
      refine lv_iconst (v := 0) hx hb dX0_canRow_29 (by decide) ?_
      rw [← hQ9]
      exact W.zret (v := (0 : Int32)) hx hb hr rfl (fun t ht hW => ⟨⟨(0 : Int32), (), rfl, hw, by rw [ht]; exact hP, va_K.moved hW.alike hK, hD⟩, hS.F ht⟩) hS.2.2 dX0_canRow_30
    · have hw := hw.2 c6
      refine lv_iconst (v := 1) hx hb dX0_canRow_25 (by decide) ?_
      refine lv_goto (tgt := 30) hx hb dX0_canRow_26 (by decide) ?_
      rw [← hQ9]
      exact W.zret (v := (1 : Int32)) hx hb hr rfl (fun t ht hW => ⟨⟨(1 : Int32), (), rfl, hw, by rw [ht]; exact hP, va_K.moved hW.alike hK, hD⟩, hS.F ht⟩) hS.2.2 dX0_canRow_30

def w_X0_lay (glm : Int32) (rom : Int32) (hel : Int32) (nw : (Nat → Int32)) (nx : (Nat → Int32)) (p0 : Int32) (p1 : Int32) (p2 : Int32) (p3 : Int32) (post : (Nat → Int32) → Prop) : Prop := ∀ t1 : Int32, t1 = p0 - p0 / (3 : Int32) * (3 : Int32) → (∀ t2 : Int32, t2 = (p0 - p0 / (9 : Int32) * (9 : Int32)) / (3 : Int32) → (∀ t3 : Int32, t3 = ((p0 - p0 / (18 : Int32) * (18 : Int32)) / (9 : Int32)) + p2 → (∀ t4 : Int32, t4 = ((p0 / (18 : Int32)) + p1) + p3 → (∀ t5 : Int32, t5 = (((t1 + t2) + p1) + ((2 : Int32) * p2)) + ((3 : Int32) * p3) → (((rom < t5 → (post nx)) ∧ (¬ rom < t5 → ((((1 : Int32) < t3 → (post nx)) ∧ (¬ (1 : Int32) < t3 → (((glm < t4 → (post nx)) ∧ (¬ glm < t4 → (∀ t9 : Int32, t9 = ((((18 : Int32) * t4) + ((9 : Int32) * t3)) + ((3 : Int32) * p1)) + t2 → (vp_in t9 90 ∧ (vp_in p0 90 ∧ (vp_in t9 90 ∧ (post (upd nx t9.toNatClampNeg (if (nx t9.toNatClampNeg) < ((nw p0.toNatClampNeg) + (if hel < t5 then hel else t5)) then ((nw p0.toNatClampNeg) + (if hel < t5 then hel else t5)) else (nx t9.toNatClampNeg)))))))))))))))))))))

set_option maxHeartbeats 4000000 in
set_option maxRecDepth 100000 in
theorem c_X0_lay (l : Launch) (dC : Nat → ClassId) (dI : Nat → Nat → Nat) (cI cZ : ClassId) (cv : Nat) (aN : Nat) (aX : Nat) (sz : Nat) (glm : Int32) (rom : Int32) (hel : Int32) (nw : (Nat → Int32)) (nx : (Nat → Int32)) (p0 : Int32) (p1 : Int32) (p2 : Int32) (p3 : Int32) (post : (Nat → Int32) → Prop) (hw : w_X0_lay glm rom hel nw nx p0 p1 p2 p3 post) : Met l yX0_lay wsX0_lay ({ frames := 2, cells := 0, slots := 0, locals := 40 } : Room) (va_Pc [.ref cv, .int p0, .int p1, .int p2, .int p3] (fun U => U.heap.size = sz ∧ va_P (dC, dI) vwCl [(cv, .inr (0, [.ref aN, .ref aX, .int glm, .int rom, .int hel])), (aN, .inl (cI, 90, .inl nw)), (aX, .inl (cI, 90, .inl nx))] U.heap ∧ va_K (dC, dI) vwCl [(cI, .int), (cZ, .boolean)] U ∧ va_D (fun _ => True) [(cv, .inr (0, [.ref aN, .ref aX, .int glm, .int rom, .int hel])), (aN, .inl (cI, 90, .inl nw)), (aX, .inl (cI, 90, .inl nx))])) (va_Qv (fun (u9 : (Nat → Int32)) => post u9) (fun (u9 : (Nat → Int32)) (t9 : State) => va_P (dC, dI) vwCl [(cv, .inr (0, [.ref aN, .ref aX, .int glm, .int rom, .int hel])), (aN, .inl (cI, 90, .inl nw)), (aX, .inl (cI, 90, .inl u9))] t9.heap ∧ va_K (dC, dI) vwCl [(cI, .int), (cZ, .boolean)] t9 ∧ va_D (va_A [(cv, .inr (0, [.ref aN, .ref aX, .int glm, .int rom, .int hel])), (aN, .inl (cI, 90, .inl nw)), (aX, .inl (cI, 90, .inl nx))] sz) [(cv, .inr (0, [.ref aN, .ref aX, .int glm, .int rom, .int hel])), (aN, .inl (cI, 90, .inl nw)), (aX, .inl (cI, 90, .inl u9))]) (va_A [(cv, .inr (0, [.ref aN, .ref aX, .int glm, .int rom, .int hel])), (aN, .inl (cI, 90, .inl nw)), (aX, .inl (cI, 90, .inl nx))] sz)) 0 0 (va_A [(cv, .inr (0, [.ref aN, .ref aX, .int glm, .int rom, .int hel])), (aN, .inl (cI, 90, .inl nw)), (aX, .inl (cI, 90, .inl nx))] sz) := by
  refine Met.ofW (cc := cX0_lay) (maxL := 11) (ret := none) (by decide) rfl ?_
  intro p e s m args below meth c s₁ B hml hv
  obtain ⟨rfl, hsz, hP, hK, hD0⟩ := hv
  have hx := B.exec
  have hb := B.bytes
  have hr := B.returns
  have hts := atoms_spec (ws := wsX0_lay) B.pre
  have hown : s.vm.findClass RX0 = some m.cls := findClass_of_methodNamed B.named
  have hlocks := B.notSynchronized
  have hinX0 : ∀ w ∈ u_ws RX0 TX0 5, w ∈ wsX0_lay := by decide +kernel
  subst hsz
  have hD := hD0.self (sz := s.heap.size)
  generalize hAe : va_A [(cv, .inr (0, [.ref aN, .ref aX, .int glm, .int rom, .int hel])), (aN, .inl (cI, 90, .inl nw)), (aX, .inl (cI, 90, .inl nx))] s.heap.size = A at hD ⊢
  have hA : ∀ q : Nat, s.heap.size ≤ q → A q := fun q h => by rw [← hAe]; exact Or.inr h
  have hS : va_S A s.heap s.heap [] := va_S.rf
  have hl := lv_entry ([.ref cv, .int p0, .int p1, .int p2, .int p3]) (n := 11) (Nat.le_of_ble_eq_true rfl)
  rw [lg_entry_eq]
  generalize (lg_sl ([.ref cv, .int p0, .int p1, .int p2, .int p3]) ++ List.replicate (11 - (lg_sl ([.ref cv, .int p0, .int p1, .int p2, .int p3])).length) Slot.unset).toArray = ls at hl ⊢
  have hl : lv_has ls 11 [(0, .ref cv), (1, .int p0), (2, .int p1), (3, .int p2), (4, .int p3)] := hl
  refine (?_ : ∀ Q9 : State → Prop, MQ below _ _ s _ _ _ = Q9 → W p l e ({ frames := 2, cells := 0, slots := 0, locals := 40 } : Room) s m _ below meth c s.heap [] 0 0 Q9 (F0 m 0 ls [])) _ rfl
  intro Q9 hQ9
  have hw : ∀ t1 : Int32, t1 = p0 - p0 / (3 : Int32) * (3 : Int32) → (∀ t2 : Int32, t2 = (p0 - p0 / (9 : Int32) * (9 : Int32)) / (3 : Int32) → (∀ t3 : Int32, t3 = ((p0 - p0 / (18 : Int32) * (18 : Int32)) / (9 : Int32)) + p2 → (∀ t4 : Int32, t4 = ((p0 / (18 : Int32)) + p1) + p3 → (∀ t5 : Int32, t5 = (((t1 + t2) + p1) + ((2 : Int32) * p2)) + ((3 : Int32) * p3) → (((rom < t5 → (post nx)) ∧ (¬ rom < t5 → ((((1 : Int32) < t3 → (post nx)) ∧ (¬ (1 : Int32) < t3 → (((glm < t4 → (post nx)) ∧ (¬ glm < t4 → (∀ t9 : Int32, t9 = ((((18 : Int32) * t4) + ((9 : Int32) * t3)) + ((3 : Int32) * p1)) + t2 → (vp_in t9 90 ∧ (vp_in p0 90 ∧ (vp_in t9 90 ∧ (post (upd nx t9.toNatClampNeg (if (nx t9.toNatClampNeg) < ((nw p0.toNatClampNeg) + (if hel < t5 then hel else t5)) then ((nw p0.toNatClampNeg) + (if hel < t5 then hel else t5)) else (nx t9.toNatClampNeg))))))))))))))))))))) := hw
  refine lv_iload_n hx hb dX0_lay_0 rfl (lv_at hl 1 rfl) ?_
  refine lv_iconst (v := 3) hx hb dX0_lay_1 (by decide) ?_
  refine lv_irem hx hb dX0_lay_2 (by decide) ?_
  refine lv_topi (fun t1 et1 => ?_)
  have hw := hw t1 et1
  refine lv_istore (lv' := [(5, .int t1), (0, .ref cv), (1, .int p0), (2, .int p1), (3, .int p2), (4, .int p3)]) hx hb dX0_lay_3 hl (by decide) rfl (fun ls hl => ?_)
  refine lv_iload_n hx hb dX0_lay_5 rfl (lv_at hl 2 rfl) ?_
  refine lv_bipush (v := 9) hx hb dX0_lay_6 (by decide) ?_
  refine lv_irem hx hb dX0_lay_8 (by decide) ?_
  refine lv_iconst (v := 3) hx hb dX0_lay_9 (by decide) ?_
  refine lv_idiv hx hb dX0_lay_10 (by decide) ?_
  refine lv_topi (fun t2 et2 => ?_)
  have hw := hw t2 et2
  refine lv_istore (lv' := [(6, .int t2), (5, .int t1), (0, .ref cv), (1, .int p0), (2, .int p1), (3, .int p2), (4, .int p3)]) hx hb dX0_lay_11 hl (by decide) rfl (fun ls hl => ?_)
  refine lv_iload_n hx hb dX0_lay_13 rfl (lv_at hl 3 rfl) ?_
  refine lv_bipush (v := 18) hx hb dX0_lay_14 (by decide) ?_
  refine lv_irem hx hb dX0_lay_16 (by decide) ?_
  refine lv_bipush (v := 9) hx hb dX0_lay_17 (by decide) ?_
  refine lv_idiv hx hb dX0_lay_19 (by decide) ?_
  refine lv_iload_n hx hb dX0_lay_20 rfl (lv_at hl 5 rfl) ?_
  refine lv_iadd hx hb dX0_lay_21 ?_
  refine lv_topi (fun t3 et3 => ?_)
  have hw := hw t3 et3
  refine lv_istore (lv' := [(7, .int t3), (6, .int t2), (5, .int t1), (0, .ref cv), (1, .int p0), (2, .int p1), (3, .int p2), (4, .int p3)]) hx hb dX0_lay_22 hl (by decide) rfl (fun ls hl => ?_)
  refine lv_iload_n hx hb dX0_lay_24 rfl (lv_at hl 4 rfl) ?_
  refine lv_bipush (v := 18) hx hb dX0_lay_25 (by decide) ?_
  refine lv_idiv hx hb dX0_lay_27 (by decide) ?_
  refine lv_iload_n hx hb dX0_lay_28 rfl (lv_at hl 5 rfl) ?_
  refine lv_iadd hx hb dX0_lay_29 ?_
  refine lv_iload hx hb dX0_lay_30 (lv_at hl 7 rfl) ?_
  refine lv_iadd hx hb dX0_lay_32 ?_
  refine lv_topi (fun t4 et4 => ?_)
  have hw := hw t4 et4
  refine lv_istore (lv' := [(8, .int t4), (7, .int t3), (6, .int t2), (5, .int t1), (0, .ref cv), (1, .int p0), (2, .int p1), (3, .int p2), (4, .int p3)]) hx hb dX0_lay_33 hl (by decide) rfl (fun ls hl => ?_)
  refine lv_iload hx hb dX0_lay_35 (lv_at hl 3 rfl) ?_
  refine lv_iload hx hb dX0_lay_37 (lv_at hl 2 rfl) ?_
  refine lv_iadd hx hb dX0_lay_39 ?_
  refine lv_iload_n hx hb dX0_lay_40 rfl (lv_at hl 6 rfl) ?_
  refine lv_iadd hx hb dX0_lay_41 ?_
  refine lv_iconst (v := 2) hx hb dX0_lay_42 (by decide) ?_
  refine lv_iload_n hx hb dX0_lay_43 rfl (lv_at hl 7 rfl) ?_
  refine lv_imul hx hb dX0_lay_44 ?_
  refine lv_iadd hx hb dX0_lay_45 ?_
  refine lv_iconst (v := 3) hx hb dX0_lay_46 (by decide) ?_
  refine lv_iload hx hb dX0_lay_47 (lv_at hl 8 rfl) ?_
  refine lv_imul hx hb dX0_lay_49 ?_
  refine lv_iadd hx hb dX0_lay_50 ?_
  refine lv_topi (fun t5 et5 => ?_)
  have hw := hw t5 et5
  refine lv_istore (lv' := [(9, .int t5), (8, .int t4), (7, .int t3), (6, .int t2), (5, .int t1), (0, .ref cv), (1, .int p0), (2, .int p1), (3, .int p2), (4, .int p3)]) hx hb dX0_lay_51 hl (by decide) rfl (fun ls hl => ?_)
  refine lv_iload hx hb dX0_lay_53 (lv_at hl 0 rfl) ?_
  refine lv_aload_n hx hb dX0_lay_55 rfl (lv_at hl 5 rfl) ?_
  refine va_get (D := (dC, dI)) (ci := 0) (v := .int rom) (C := RX0) (T := TX0) (N := 5) hx hb hts hinX0 hown hK hP 0 rfl rfl 3 (by decide) (hts (.fieldLink RX0 37 "TileHand$Cover" "room" "I") (by decide +kernel)) (fun _ h9 => h9) rfl dX0_lay_56 ?_
  refine lv_icmp_gt (tgt := 130) hx hb dX0_lay_59 (by decide) (fun c6 => ?_) (fun c6 => ?_)
  · have hw := hw.1 c6
    rw [← hQ9]
    exact W.vret hx hb hr (fun t ht hW => ⟨⟨(nx), rfl, hw, by rw [ht]; exact hP, va_K.moved hW.alike hK, hD⟩, hS.F ht⟩) hS.2.2 dX0_lay_130
  · have hw := hw.2 c6
    refine lv_iload hx hb dX0_lay_62 (lv_at hl 2 rfl) ?_
    refine lv_iconst (v := 1) hx hb dX0_lay_64 (by decide) ?_
    refine lv_icmp_gt (tgt := 130) hx hb dX0_lay_65 (by decide) (fun c7 => ?_) (fun c7 => ?_)
    · have hw := hw.1 c7
      rw [← hQ9]
      exact W.vret hx hb hr (fun t ht hW => ⟨⟨(nx), rfl, hw, by rw [ht]; exact hP, va_K.moved hW.alike hK, hD⟩, hS.F ht⟩) hS.2.2 dX0_lay_130
    · have hw := hw.2 c7
      refine lv_iload hx hb dX0_lay_68 (lv_at hl 1 rfl) ?_
      refine lv_aload_n hx hb dX0_lay_70 rfl (lv_at hl 5 rfl) ?_
      refine va_get (D := (dC, dI)) (ci := 0) (v := .int glm) (C := RX0) (T := TX0) (N := 5) hx hb hts hinX0 hown hK hP 0 rfl rfl 2 (by decide) (hts (.fieldLink RX0 27 "TileHand$Cover" "groupLimit" "I") (by decide +kernel)) (fun _ h9 => h9) rfl dX0_lay_71 ?_
      refine lv_icmp_gt (tgt := 130) hx hb dX0_lay_74 (by decide) (fun c8 => ?_) (fun c8 => ?_)
      · have hw := hw.1 c8
        rw [← hQ9]
        exact W.vret hx hb hr (fun t ht hW => ⟨⟨(nx), rfl, hw, by rw [ht]; exact hP, va_K.moved hW.alike hK, hD⟩, hS.F ht⟩) hS.2.2 dX0_lay_130
      · have hw := hw.2 c8
        refine lv_bipush (v := 18) hx hb dX0_lay_77 (by decide) ?_
        refine lv_iload hx hb dX0_lay_79 (lv_at hl 1 rfl) ?_
        refine lv_imul hx hb dX0_lay_81 ?_
        refine lv_bipush (v := 9) hx hb dX0_lay_82 (by decide) ?_
        refine lv_iload hx hb dX0_lay_84 (lv_at hl 2 rfl) ?_
        refine lv_imul hx hb dX0_lay_86 ?_
        refine lv_iadd hx hb dX0_lay_87 ?_
        refine lv_iconst (v := 3) hx hb dX0_lay_88 (by decide) ?_
        refine lv_iload_n hx hb dX0_lay_89 rfl (lv_at hl 7 rfl) ?_
        refine lv_imul hx hb dX0_lay_90 ?_
        refine lv_iadd hx hb dX0_lay_91 ?_
        refine lv_iload hx hb dX0_lay_92 (lv_at hl 3 rfl) ?_
        refine lv_iadd hx hb dX0_lay_94 ?_
        refine lv_topi (fun t9 et9 => ?_)
        have hw := hw t9 et9
        refine lv_istore (lv' := [(10, .int t9), (9, .int t5), (8, .int t4), (7, .int t3), (6, .int t2), (5, .int t1), (0, .ref cv), (1, .int p0), (2, .int p1), (3, .int p2), (4, .int p3)]) hx hb dX0_lay_95 hl (by decide) rfl (fun ls hl => ?_)
        refine lv_aload_n hx hb dX0_lay_97 rfl (lv_at hl 6 rfl) ?_
        refine va_get (D := (dC, dI)) (ci := 0) (v := .ref aX) (C := RX0) (T := TX0) (N := 5) hx hb hts hinX0 hown hK hP 0 rfl rfl 1 (by decide) (hts (.fieldLink RX0 15 "TileHand$Cover" "next" "[I") (by decide +kernel)) (fun _ h9 => h9) rfl dX0_lay_98 ?_
        refine lv_iload hx hb dX0_lay_101 (lv_at hl 0 rfl) ?_
        refine lv_aload_n hx hb dX0_lay_103 rfl (lv_at hl 6 rfl) ?_
        refine va_get (D := (dC, dI)) (ci := 0) (v := .ref aX) (C := RX0) (T := TX0) (N := 5) hx hb hts hinX0 hown hK hP 0 rfl rfl 1 (by decide) (hts (.fieldLink RX0 15 "TileHand$Cover" "next" "[I") (by decide +kernel)) (fun _ h9 => h9) rfl dX0_lay_104 ?_
        refine lv_iload hx hb dX0_lay_107 (lv_at hl 0 rfl) ?_
        obtain ⟨h10, hw⟩ := hw
        refine va_iald hx hb hK hP 2 0 rfl rfl h10 dX0_lay_109 ?_
        refine lv_aload_n hx hb dX0_lay_110 rfl (lv_at hl 6 rfl) ?_
        refine va_get (D := (dC, dI)) (ci := 0) (v := .ref aN) (C := RX0) (T := TX0) (N := 5) hx hb hts hinX0 hown hK hP 0 rfl rfl 0 (by decide) (hts (.fieldLink RX0 11 "TileHand$Cover" "now" "[I") (by decide +kernel)) (fun _ h9 => h9) rfl dX0_lay_111 ?_
        refine lv_iload_n hx hb dX0_lay_114 rfl (lv_at hl 7 rfl) ?_
        obtain ⟨h11, hw⟩ := hw
        refine va_iald hx hb hK hP 1 0 rfl rfl h11 dX0_lay_115 ?_
        refine lv_iload hx hb dX0_lay_116 (lv_at hl 1 rfl) ?_
        refine lv_aload_n hx hb dX0_lay_118 rfl (lv_at hl 6 rfl) ?_
        refine va_get (D := (dC, dI)) (ci := 0) (v := .int hel) (C := RX0) (T := TX0) (N := 5) hx hb hts hinX0 hown hK hP 0 rfl rfl 4 (by decide) (hts (.fieldLink RX0 40 "TileHand$Cover" "held" "I") (by decide +kernel)) (fun _ h9 => h9) rfl dX0_lay_119 ?_
        refine va_mmin hx hb (hml.trans hl.1.symm) hown (hts (.methodLink RX0 18 Lib.Math.min.name) (by decide +kernel)) (hts (.static Lib.Math.min.name) (by decide +kernel)) (hts (.initialized "java/lang/Math") (by decide +kernel)) (hts (.code Lib.Math.min.name Lib.Math.min.code 2 (some .int)) (by decide +kernel)) (Nat.le_of_ble_eq_true rfl) (Nat.le_of_ble_eq_true rfl) (Nat.le_of_ble_eq_true rfl) (Nat.le_of_ble_eq_true rfl) dX0_lay_122 ?_
        refine lv_iadd hx hb dX0_lay_125 ?_
        refine va_mmax hx hb (hml.trans hl.1.symm) hown (hts (.methodLink RX0 24 Lib.Math.max.name) (by decide +kernel)) (hts (.static Lib.Math.max.name) (by decide +kernel)) (hts (.initialized "java/lang/Math") (by decide +kernel)) (hts (.code Lib.Math.max.name Lib.Math.max.code 2 (some .int)) (by decide +kernel)) (Nat.le_of_ble_eq_true rfl) (Nat.le_of_ble_eq_true rfl) (Nat.le_of_ble_eq_true rfl) (Nat.le_of_ble_eq_true rfl) dX0_lay_126 ?_
        obtain ⟨h12, hw⟩ := hw
        refine va_iast hx hb hK hP hD hS 2 0 rfl rfl h12 dX0_lay_129 (fun H locs hP hD hS => ?_)
        have hP : va_P (dC, dI) vwCl [(cv, .inr (0, [.ref aN, .ref aX, .int glm, .int rom, .int hel])), (aN, .inl (cI, 90, .inl nw)), (aX, .inl (cI, 90, .inl (upd nx t9.toNatClampNeg (if (nx t9.toNatClampNeg) < ((nw p0.toNatClampNeg) + (if hel < t5 then hel else t5)) then ((nw p0.toNatClampNeg) + (if hel < t5 then hel else t5)) else (nx t9.toNatClampNeg)))))] H := hP
        have hD : va_D A [(cv, .inr (0, [.ref aN, .ref aX, .int glm, .int rom, .int hel])), (aN, .inl (cI, 90, .inl nw)), (aX, .inl (cI, 90, .inl (upd nx t9.toNatClampNeg (if (nx t9.toNatClampNeg) < ((nw p0.toNatClampNeg) + (if hel < t5 then hel else t5)) then ((nw p0.toNatClampNeg) + (if hel < t5 then hel else t5)) else (nx t9.toNatClampNeg)))))] := hD
        rw [← hQ9]
        exact W.vret hx hb hr (fun t ht hW => ⟨⟨(upd nx t9.toNatClampNeg (if (nx t9.toNatClampNeg) < ((nw p0.toNatClampNeg) + (if hel < t5 then hel else t5)) then ((nw p0.toNatClampNeg) + (if hel < t5 then hel else t5)) else (nx t9.toNatClampNeg))), rfl, hw, by rw [ht]; exact hP, va_K.moved hW.alike hK, hD⟩, hS.F ht⟩) hS.2.2 dX0_lay_130

def w_X0_laySets (glm : Int32) (rom : Int32) (hel : Int32) (nw : (Nat → Int32)) (nx : (Nat → Int32)) (p0 : Int32) (p1 : Int32) (post : (Nat → Int32) → Prop) : Prop := w_X0_lay glm rom hel nw nx p0 p1 (0 : Int32) (0 : Int32) (fun nx_1 => (((hel ≤ 0 → (post nx_1)) ∧ (¬ hel ≤ 0 → (w_X0_lay glm rom hel nw nx_1 p0 p1 (1 : Int32) (0 : Int32) (fun nx_3 => (w_X0_lay glm rom hel nw nx_3 p0 p1 (0 : Int32) (1 : Int32) (fun nx_4 => (post nx_4)))))))))

set_option maxHeartbeats 4000000 in
set_option maxRecDepth 100000 in
theorem c_X0_laySets (l : Launch) (dC : Nat → ClassId) (dI : Nat → Nat → Nat) (cI cZ : ClassId) (cv : Nat) (aN : Nat) (aX : Nat) (sz : Nat) (glm : Int32) (rom : Int32) (hel : Int32) (nw : (Nat → Int32)) (nx : (Nat → Int32)) (p0 : Int32) (p1 : Int32) (post : (Nat → Int32) → Prop) (hw : w_X0_laySets glm rom hel nw nx p0 p1 post) : Met l yX0_laySets wsX0_laySets ({ frames := 3, cells := 0, slots := 0, locals := 70 } : Room) (va_Pc [.ref cv, .int p0, .int p1] (fun U => U.heap.size = sz ∧ va_P (dC, dI) vwCl [(cv, .inr (0, [.ref aN, .ref aX, .int glm, .int rom, .int hel])), (aN, .inl (cI, 90, .inl nw)), (aX, .inl (cI, 90, .inl nx))] U.heap ∧ va_K (dC, dI) vwCl [(cI, .int), (cZ, .boolean)] U ∧ va_D (fun _ => True) [(cv, .inr (0, [.ref aN, .ref aX, .int glm, .int rom, .int hel])), (aN, .inl (cI, 90, .inl nw)), (aX, .inl (cI, 90, .inl nx))])) (va_Qv (fun (u9 : (Nat → Int32)) => post u9) (fun (u9 : (Nat → Int32)) (t9 : State) => va_P (dC, dI) vwCl [(cv, .inr (0, [.ref aN, .ref aX, .int glm, .int rom, .int hel])), (aN, .inl (cI, 90, .inl nw)), (aX, .inl (cI, 90, .inl u9))] t9.heap ∧ va_K (dC, dI) vwCl [(cI, .int), (cZ, .boolean)] t9 ∧ va_D (va_A [(cv, .inr (0, [.ref aN, .ref aX, .int glm, .int rom, .int hel])), (aN, .inl (cI, 90, .inl nw)), (aX, .inl (cI, 90, .inl nx))] sz) [(cv, .inr (0, [.ref aN, .ref aX, .int glm, .int rom, .int hel])), (aN, .inl (cI, 90, .inl nw)), (aX, .inl (cI, 90, .inl u9))]) (va_A [(cv, .inr (0, [.ref aN, .ref aX, .int glm, .int rom, .int hel])), (aN, .inl (cI, 90, .inl nw)), (aX, .inl (cI, 90, .inl nx))] sz)) 0 0 (va_A [(cv, .inr (0, [.ref aN, .ref aX, .int glm, .int rom, .int hel])), (aN, .inl (cI, 90, .inl nw)), (aX, .inl (cI, 90, .inl nx))] sz) := by
  refine Met.ofW (cc := cX0_laySets) (maxL := 3) (ret := none) (by decide) rfl ?_
  intro p e s m args below meth c s₁ B hml hv
  obtain ⟨rfl, hsz, hP, hK, hD0⟩ := hv
  have hx := B.exec
  have hb := B.bytes
  have hr := B.returns
  have hts := atoms_spec (ws := wsX0_laySets) B.pre
  have hown : s.vm.findClass RX0 = some m.cls := findClass_of_methodNamed B.named
  have hlocks := B.notSynchronized
  have hinX0 : ∀ w ∈ u_ws RX0 TX0 5, w ∈ wsX0_laySets := by decide +kernel
  subst hsz
  have hD := hD0.self (sz := s.heap.size)
  generalize hAe : va_A [(cv, .inr (0, [.ref aN, .ref aX, .int glm, .int rom, .int hel])), (aN, .inl (cI, 90, .inl nw)), (aX, .inl (cI, 90, .inl nx))] s.heap.size = A at hD ⊢
  have hA : ∀ q : Nat, s.heap.size ≤ q → A q := fun q h => by rw [← hAe]; exact Or.inr h
  have hS : va_S A s.heap s.heap [] := va_S.rf
  have hl := lv_entry ([.ref cv, .int p0, .int p1]) (n := 3) (Nat.le_of_ble_eq_true rfl)
  rw [lg_entry_eq]
  generalize (lg_sl ([.ref cv, .int p0, .int p1]) ++ List.replicate (3 - (lg_sl ([.ref cv, .int p0, .int p1])).length) Slot.unset).toArray = ls at hl ⊢
  have hl : lv_has ls 3 [(0, .ref cv), (1, .int p0), (2, .int p1)] := hl
  refine (?_ : ∀ Q9 : State → Prop, MQ below _ _ s _ _ _ = Q9 → W p l e ({ frames := 3, cells := 0, slots := 0, locals := 70 } : Room) s m _ below meth c s.heap [] 0 0 Q9 (F0 m 0 ls [])) _ rfl
  intro Q9 hQ9
  have hw : w_X0_lay glm rom hel nw nx p0 p1 (0 : Int32) (0 : Int32) (fun nx_1 => (((hel ≤ 0 → (post nx_1)) ∧ (¬ hel ≤ 0 → (w_X0_lay glm rom hel nw nx_1 p0 p1 (1 : Int32) (0 : Int32) (fun nx_3 => (w_X0_lay glm rom hel nw nx_3 p0 p1 (0 : Int32) (1 : Int32) (fun nx_4 => (post nx_4))))))))) := hw
  refine lv_aload_n hx hb dX0_laySets_0 rfl (lv_at hl 0 rfl) ?_
  refine lv_iload_n hx hb dX0_laySets_1 rfl (lv_at hl 1 rfl) ?_
  refine lv_iload_n hx hb dX0_laySets_2 rfl (lv_at hl 2 rfl) ?_
  refine lv_iconst (v := 0) hx hb dX0_laySets_3 (by decide) ?_
  refine lv_iconst (v := 0) hx hb dX0_laySets_4 (by decide) ?_
  have hPc := hP.sub (ws' := [(cv, .inr (0, [.ref aN, .ref aX, .int glm, .int rom, .int hel])), (aN, .inl (cI, 90, .inl nw)), (aX, .inl (cI, 90, .inl nx))]) [0, 1, 2] rfl
  have hDc := hD.sub (ws' := [(cv, .inr (0, [.ref aN, .ref aX, .int glm, .int rom, .int hel])), (aN, .inl (cI, 90, .inl nw)), (aX, .inl (cI, 90, .inl nx))]) [0, 1, 2] (by decide) rfl
  have hFc := va_free (wc := [(cv, .inr (0, [.ref aN, .ref aX, .int glm, .int rom, .int hel])), (aN, .inl (cI, 90, .inl nw)), (aX, .inl (cI, 90, .inl nx))]) hD hS hA [0, 1, 2] rfl
  refine va_callv (va_runV (As := [.int p0, .int p1, .int (0 : Int32), .int (0 : Int32)]) (rest := []) ⟨hx, hb, hml, hown, hts⟩ (c_X0_lay l dC dI cI cZ cv aN aX s.heap.size glm rom hel nw nx p0 p1 (0 : Int32) (0 : Int32) _ hw) (cwV 4 hts gX0_laySets_X0_lay rfl rfl rfl (by decide +kernel) ⟨Nat.le_of_ble_eq_true rfl, Nat.le_of_ble_eq_true rfl⟩) ⟨fun a U g mk q => by obtain ⟨q0, q1, qP, qK, qD⟩ := q; exact ⟨q0, q1, qP, va_K.moved (u := U) (U := U.calling g mk a) (Vm.Alike.refl U.vm) qK, qD⟩, va_recv hK hPc (ci := 0) (q0 := 0) rfl rfl, fun U hU hW => ⟨rfl, by rw [hU], by rw [hU]; exact hPc, va_K.moved hW.alike hK, hDc.weaken (fun _ _ _ _ => trivial)⟩⟩ rfl rfl hl.1 rfl (lv_room (Nat.le_of_ble_eq_true rfl)) dX0_laySets_5 ⟨Nat.le_of_ble_eq_true rfl, Nat.le_of_ble_eq_true rfl⟩) hS (fun q _ h => hFc q h) hFc (fun u t H1 locs ht hvm hw hB hz1 hk1 hS => ?_)
  obtain ⟨nx_1, rfl⟩ : ∃ z, z = u := ⟨_, rfl⟩
  obtain ⟨hP1, -, hD1⟩ := hB
  have hw := And.intro hw trivial
  try dsimp only at hw
  have hw := hw.1
  rw [ht] at hP1
  obtain ⟨hP, hD⟩ := va_join (wr := []) (w1 := [(cv, .inr (0, [.ref aN, .ref aX, .int glm, .int rom, .int hel])), (aN, .inl (cI, 90, .inl nw)), (aX, .inl (cI, 90, .inl nx_1))]) hP hD [0, 1, 2] [] rfl rfl (by decide) (by decide) hk1 hFc hP1 hD1
  generalize H1 = H at hP hS ⊢
  have hP : va_P (dC, dI) vwCl [(cv, .inr (0, [.ref aN, .ref aX, .int glm, .int rom, .int hel])), (aN, .inl (cI, 90, .inl nw)), (aX, .inl (cI, 90, .inl nx_1))] H := hP
  have hD : va_D A [(cv, .inr (0, [.ref aN, .ref aX, .int glm, .int rom, .int hel])), (aN, .inl (cI, 90, .inl nw)), (aX, .inl (cI, 90, .inl nx_1))] := hD
  refine lv_aload_n hx hb dX0_laySets_8 rfl (lv_at hl 0 rfl) ?_
  refine va_get (D := (dC, dI)) (ci := 0) (v := .int hel) (C := RX0) (T := TX0) (N := 5) hx hb hts hinX0 hown hK hP 0 rfl rfl 4 (by decide) (hts (.fieldLink RX0 40 "TileHand$Cover" "held" "I") (by decide +kernel)) (fun _ h9 => h9) rfl dX0_laySets_9 ?_
  refine lv_if_le (tgt := 31) hx hb dX0_laySets_12 (by decide) (fun c2 => ?_) (fun c2 => ?_)
  · have hw := hw.1 c2
    rw [← hQ9]
    exact W.vret hx hb hr (fun t ht hW => ⟨⟨(nx_1), rfl, hw, by rw [ht]; exact hP, va_K.moved hW.alike hK, hD⟩, hS.F ht⟩) hS.2.2 dX0_laySets_31
  · have hw := hw.2 c2
    refine lv_aload_n hx hb dX0_laySets_15 rfl (lv_at hl 0 rfl) ?_
    refine lv_iload_n hx hb dX0_laySets_16 rfl (lv_at hl 1 rfl) ?_
    refine lv_iload_n hx hb dX0_laySets_17 rfl (lv_at hl 2 rfl) ?_
    refine lv_iconst (v := 1) hx hb dX0_laySets_18 (by decide) ?_
    refine lv_iconst (v := 0) hx hb dX0_laySets_19 (by decide) ?_
    have hPc := hP.sub (ws' := [(cv, .inr (0, [.ref aN, .ref aX, .int glm, .int rom, .int hel])), (aN, .inl (cI, 90, .inl nw)), (aX, .inl (cI, 90, .inl nx_1))]) [0, 1, 2] rfl
    have hDc := hD.sub (ws' := [(cv, .inr (0, [.ref aN, .ref aX, .int glm, .int rom, .int hel])), (aN, .inl (cI, 90, .inl nw)), (aX, .inl (cI, 90, .inl nx_1))]) [0, 1, 2] (by decide) rfl
    have hFc := va_free (wc := [(cv, .inr (0, [.ref aN, .ref aX, .int glm, .int rom, .int hel])), (aN, .inl (cI, 90, .inl nw)), (aX, .inl (cI, 90, .inl nx_1))]) hD hS hA [0, 1, 2] rfl
    refine va_callv (va_runV (As := [.int p0, .int p1, .int (1 : Int32), .int (0 : Int32)]) (rest := []) ⟨hx, hb, hml, hown, hts⟩ (c_X0_lay l dC dI cI cZ cv aN aX H.size glm rom hel nw nx_1 p0 p1 (1 : Int32) (0 : Int32) _ hw) (cwV 4 hts gX0_laySets_X0_lay rfl rfl rfl (by decide +kernel) ⟨Nat.le_of_ble_eq_true rfl, Nat.le_of_ble_eq_true rfl⟩) ⟨fun a U g mk q => by obtain ⟨q0, q1, qP, qK, qD⟩ := q; exact ⟨q0, q1, qP, va_K.moved (u := U) (U := U.calling g mk a) (Vm.Alike.refl U.vm) qK, qD⟩, va_recv hK hPc (ci := 0) (q0 := 0) rfl rfl, fun U hU hW => ⟨rfl, by rw [hU], by rw [hU]; exact hPc, va_K.moved hW.alike hK, hDc.weaken (fun _ _ _ _ => trivial)⟩⟩ rfl rfl hl.1 rfl (lv_room (Nat.le_of_ble_eq_true rfl)) dX0_laySets_20 ⟨Nat.le_of_ble_eq_true rfl, Nat.le_of_ble_eq_true rfl⟩) hS (fun q _ h => hFc q h) hFc (fun u t H1 locs ht hvm hw hB hz1 hk1 hS => ?_)
    obtain ⟨nx_3, rfl⟩ : ∃ z, z = u := ⟨_, rfl⟩
    obtain ⟨hP1, -, hD1⟩ := hB
    have hw := And.intro hw trivial
    try dsimp only at hw
    have hw := hw.1
    rw [ht] at hP1
    obtain ⟨hP, hD⟩ := va_join (wr := []) (w1 := [(cv, .inr (0, [.ref aN, .ref aX, .int glm, .int rom, .int hel])), (aN, .inl (cI, 90, .inl nw)), (aX, .inl (cI, 90, .inl nx_3))]) hP hD [0, 1, 2] [] rfl rfl (by decide) (by decide) hk1 hFc hP1 hD1
    generalize H1 = H at hP hS ⊢
    have hP : va_P (dC, dI) vwCl [(cv, .inr (0, [.ref aN, .ref aX, .int glm, .int rom, .int hel])), (aN, .inl (cI, 90, .inl nw)), (aX, .inl (cI, 90, .inl nx_3))] H := hP
    have hD : va_D A [(cv, .inr (0, [.ref aN, .ref aX, .int glm, .int rom, .int hel])), (aN, .inl (cI, 90, .inl nw)), (aX, .inl (cI, 90, .inl nx_3))] := hD
    refine lv_aload_n hx hb dX0_laySets_23 rfl (lv_at hl 0 rfl) ?_
    refine lv_iload_n hx hb dX0_laySets_24 rfl (lv_at hl 1 rfl) ?_
    refine lv_iload_n hx hb dX0_laySets_25 rfl (lv_at hl 2 rfl) ?_
    refine lv_iconst (v := 0) hx hb dX0_laySets_26 (by decide) ?_
    refine lv_iconst (v := 1) hx hb dX0_laySets_27 (by decide) ?_
    have hPc := hP.sub (ws' := [(cv, .inr (0, [.ref aN, .ref aX, .int glm, .int rom, .int hel])), (aN, .inl (cI, 90, .inl nw)), (aX, .inl (cI, 90, .inl nx_3))]) [0, 1, 2] rfl
    have hDc := hD.sub (ws' := [(cv, .inr (0, [.ref aN, .ref aX, .int glm, .int rom, .int hel])), (aN, .inl (cI, 90, .inl nw)), (aX, .inl (cI, 90, .inl nx_3))]) [0, 1, 2] (by decide) rfl
    have hFc := va_free (wc := [(cv, .inr (0, [.ref aN, .ref aX, .int glm, .int rom, .int hel])), (aN, .inl (cI, 90, .inl nw)), (aX, .inl (cI, 90, .inl nx_3))]) hD hS hA [0, 1, 2] rfl
    refine va_callv (va_runV (As := [.int p0, .int p1, .int (0 : Int32), .int (1 : Int32)]) (rest := []) ⟨hx, hb, hml, hown, hts⟩ (c_X0_lay l dC dI cI cZ cv aN aX H.size glm rom hel nw nx_3 p0 p1 (0 : Int32) (1 : Int32) _ hw) (cwV 4 hts gX0_laySets_X0_lay rfl rfl rfl (by decide +kernel) ⟨Nat.le_of_ble_eq_true rfl, Nat.le_of_ble_eq_true rfl⟩) ⟨fun a U g mk q => by obtain ⟨q0, q1, qP, qK, qD⟩ := q; exact ⟨q0, q1, qP, va_K.moved (u := U) (U := U.calling g mk a) (Vm.Alike.refl U.vm) qK, qD⟩, va_recv hK hPc (ci := 0) (q0 := 0) rfl rfl, fun U hU hW => ⟨rfl, by rw [hU], by rw [hU]; exact hPc, va_K.moved hW.alike hK, hDc.weaken (fun _ _ _ _ => trivial)⟩⟩ rfl rfl hl.1 rfl (lv_room (Nat.le_of_ble_eq_true rfl)) dX0_laySets_28 ⟨Nat.le_of_ble_eq_true rfl, Nat.le_of_ble_eq_true rfl⟩) hS (fun q _ h => hFc q h) hFc (fun u t H1 locs ht hvm hw hB hz1 hk1 hS => ?_)
    obtain ⟨nx_4, rfl⟩ : ∃ z, z = u := ⟨_, rfl⟩
    obtain ⟨hP1, -, hD1⟩ := hB
    have hw := And.intro hw trivial
    try dsimp only at hw
    have hw := hw.1
    rw [ht] at hP1
    obtain ⟨hP, hD⟩ := va_join (wr := []) (w1 := [(cv, .inr (0, [.ref aN, .ref aX, .int glm, .int rom, .int hel])), (aN, .inl (cI, 90, .inl nw)), (aX, .inl (cI, 90, .inl nx_4))]) hP hD [0, 1, 2] [] rfl rfl (by decide) (by decide) hk1 hFc hP1 hD1
    generalize H1 = H at hP hS ⊢
    have hP : va_P (dC, dI) vwCl [(cv, .inr (0, [.ref aN, .ref aX, .int glm, .int rom, .int hel])), (aN, .inl (cI, 90, .inl nw)), (aX, .inl (cI, 90, .inl nx_4))] H := hP
    have hD : va_D A [(cv, .inr (0, [.ref aN, .ref aX, .int glm, .int rom, .int hel])), (aN, .inl (cI, 90, .inl nw)), (aX, .inl (cI, 90, .inl nx_4))] := hD
    rw [← hQ9]
    exact W.vret hx hb hr (fun t ht hW => ⟨⟨(nx_4), rfl, hw, by rw [ht]; exact hP, va_K.moved hW.alike hK, hD⟩, hS.F ht⟩) hS.2.2 dX0_laySets_31

def w_X0_layKind_b51 (post : (Nat → Int32) → (Nat → Int32) → Prop) (glm : Int32) (rom : Int32) (hel : Int32) (p0 : Int32) (nw : (Nat → Int32)) (nx : (Nat → Int32)) : Prop := post nx nw

def w_X0_layKind_b45 (post : (Nat → Int32) → (Nat → Int32) → Prop) (glm : Int32) (rom : Int32) (hel : Int32) (p0 : Int32) (K10 : Int32 → (Nat → Int32) → (Nat → Int32) → Prop) (v2 : Int32) (nw : (Nat → Int32)) (nx : (Nat → Int32)) : Prop := K10 (v2 + 1) nw nx

def w_X0_layKind_b28 (post : (Nat → Int32) → (Nat → Int32) → Prop) (glm : Int32) (rom : Int32) (hel : Int32) (p0 : Int32) (K10 : Int32 → (Nat → Int32) → (Nat → Int32) → Prop) : Nat → Int32 → Int32 → (Nat → Int32) → (Nat → Int32) → Prop
  | 0, _, _, _, _ => False
  | n + 1, v2, v3, nw, nx => ((p0 < v3 → (w_X0_layKind_b45 post glm rom hel p0 K10 v2 nw nx)) ∧ (¬ p0 < v3 → (w_X0_laySets glm rom hel nw nx v2 v3 (fun nx_6 => (w_X0_layKind_b28 post glm rom hel p0 K10 n v2 (v3 + 1) nw nx_6)))))

def w_X0_layKind_b10 (post : (Nat → Int32) → (Nat → Int32) → Prop) (glm : Int32) (rom : Int32) (hel : Int32) (p0 : Int32) : Nat → Int32 → (Nat → Int32) → (Nat → Int32) → Prop
  | 0, _, _, _ => False
  | n + 1, v2, nw, nx => (((90 : Int32) ≤ v2 → (w_X0_layKind_b51 post glm rom hel p0 nw nx)) ∧ (¬ (90 : Int32) ≤ v2 → (vp_in v2 90 ∧ ((((nw v2.toNatClampNeg) = (-1 : Int32) → (w_X0_layKind_b45 post glm rom hel p0 (w_X0_layKind_b10 post glm rom hel p0 n) v2 nw nx)) ∧ (¬ (nw v2.toNatClampNeg) = (-1 : Int32) → (∃ n9, w_X0_layKind_b28 post glm rom hel p0 (w_X0_layKind_b10 post glm rom hel p0 n) n9 v2 (0 : Int32) nw nx)))))))

def w_X0_layKind (glm : Int32) (rom : Int32) (hel : Int32) (nw : (Nat → Int32)) (nx : (Nat → Int32)) (p0 : Int32) (post : (Nat → Int32) → (Nat → Int32) → Prop) : Prop := w_J7_fill_53178 90 nx (-1 : Int32) (fun ff_1 => (∃ n9, w_X0_layKind_b10 post glm rom hel p0 n9 (0 : Int32) nw ff_1))

set_option maxHeartbeats 4000000 in
set_option maxRecDepth 100000 in
theorem c_X0_layKind (l : Launch) (dC : Nat → ClassId) (dI : Nat → Nat → Nat) (cI cZ : ClassId) (cv : Nat) (aN : Nat) (aX : Nat) (sz : Nat) (glm : Int32) (rom : Int32) (hel : Int32) (nw : (Nat → Int32)) (nx : (Nat → Int32)) (p0 : Int32) (post : (Nat → Int32) → (Nat → Int32) → Prop) (hw : w_X0_layKind glm rom hel nw nx p0 post) : Met l yX0_layKind wsX0_layKind ({ frames := 4, cells := 0, slots := 0, locals := 92 } : Room) (va_Pc [.ref cv, .int p0] (fun U => U.heap.size = sz ∧ va_P (dC, dI) vwCl [(cv, .inr (0, [.ref aN, .ref aX, .int glm, .int rom, .int hel])), (aN, .inl (cI, 90, .inl nw)), (aX, .inl (cI, 90, .inl nx))] U.heap ∧ va_K (dC, dI) vwCl [(cI, .int), (cZ, .boolean)] U ∧ va_D (fun _ => True) [(cv, .inr (0, [.ref aN, .ref aX, .int glm, .int rom, .int hel])), (aN, .inl (cI, 90, .inl nw)), (aX, .inl (cI, 90, .inl nx))])) (va_Qv (fun (u9 : (Nat → Int32) × (Nat → Int32)) => post u9.1 u9.2) (fun (u9 : (Nat → Int32) × (Nat → Int32)) (t9 : State) => ∃ aN1 aX1 : Nat, va_P (dC, dI) vwCl [(cv, .inr (0, [.ref aN1, .ref aX1, .int glm, .int rom, .int hel])), (aN1, .inl (cI, 90, .inl u9.1)), (aX1, .inl (cI, 90, .inl u9.2))] t9.heap ∧ va_K (dC, dI) vwCl [(cI, .int), (cZ, .boolean)] t9 ∧ va_D (va_A [(cv, .inr (0, [.ref aN, .ref aX, .int glm, .int rom, .int hel])), (aN, .inl (cI, 90, .inl nw)), (aX, .inl (cI, 90, .inl nx))] sz) [(cv, .inr (0, [.ref aN1, .ref aX1, .int glm, .int rom, .int hel])), (aN1, .inl (cI, 90, .inl u9.1)), (aX1, .inl (cI, 90, .inl u9.2))]) (va_A [(cv, .inr (0, [.ref aN, .ref aX, .int glm, .int rom, .int hel])), (aN, .inl (cI, 90, .inl nw)), (aX, .inl (cI, 90, .inl nx))] sz)) 0 0 (va_A [(cv, .inr (0, [.ref aN, .ref aX, .int glm, .int rom, .int hel])), (aN, .inl (cI, 90, .inl nw)), (aX, .inl (cI, 90, .inl nx))] sz) := by
  refine Met.ofW (cc := cX0_layKind) (maxL := 4) (ret := none) (by decide) rfl ?_
  intro p e s m args below meth c s₁ B hml hv
  obtain ⟨rfl, hsz, hP, hK, hD0⟩ := hv
  have hx := B.exec
  have hb := B.bytes
  have hr := B.returns
  have hts := atoms_spec (ws := wsX0_layKind) B.pre
  have hown : s.vm.findClass RX0 = some m.cls := findClass_of_methodNamed B.named
  have hlocks := B.notSynchronized
  have hinX0 : ∀ w ∈ u_ws RX0 TX0 5, w ∈ wsX0_layKind := by decide +kernel
  subst hsz
  have hD := hD0.self (sz := s.heap.size)
  generalize hAe : va_A [(cv, .inr (0, [.ref aN, .ref aX, .int glm, .int rom, .int hel])), (aN, .inl (cI, 90, .inl nw)), (aX, .inl (cI, 90, .inl nx))] s.heap.size = A at hD ⊢
  have hA : ∀ q : Nat, s.heap.size ≤ q → A q := fun q h => by rw [← hAe]; exact Or.inr h
  have hS : va_S A s.heap s.heap [] := va_S.rf
  have hl := lv_entry ([.ref cv, .int p0]) (n := 4) (Nat.le_of_ble_eq_true rfl)
  rw [lg_entry_eq]
  generalize (lg_sl ([.ref cv, .int p0]) ++ List.replicate (4 - (lg_sl ([.ref cv, .int p0])).length) Slot.unset).toArray = ls at hl ⊢
  have hl : lv_has ls 4 [(0, .ref cv), (1, .int p0)] := hl
  refine (?_ : ∀ Q9 : State → Prop, MQ below _ _ s _ _ _ = Q9 → W p l e ({ frames := 4, cells := 0, slots := 0, locals := 92 } : Room) s m _ below meth c s.heap [] 0 0 Q9 (F0 m 0 ls [])) _ rfl
  intro Q9 hQ9
  have hw : w_J7_fill_53178 90 nx (-1 : Int32) (fun ff_1 => (∃ n9, w_X0_layKind_b10 post glm rom hel p0 n9 (0 : Int32) nw ff_1)) := hw
  have L51 : ∀ (nw : (Nat → Int32)) (nx : (Nat → Int32)) (aN aX : Nat) (H : Heap) (locs : List Loc) (ls : Array Slot), w_X0_layKind_b51 post glm rom hel p0 nw nx → va_P (dC, dI) vwCl [(cv, .inr (0, [.ref aN, .ref aX, .int glm, .int rom, .int hel])), (aN, .inl (cI, 90, .inl nw)), (aX, .inl (cI, 90, .inl nx))] H → va_D A [(cv, .inr (0, [.ref aN, .ref aX, .int glm, .int rom, .int hel])), (aN, .inl (cI, 90, .inl nw)), (aX, .inl (cI, 90, .inl nx))] → va_S A s.heap H locs → lv_has ls 4 [(0, .ref cv)] → W p l e ({ frames := 4, cells := 0, slots := 0, locals := 92 } : Room) s m ([.ref cv, .int p0] : List Value).toArray below meth c H locs 0 0 Q9 (F0 m 51 ls []) := by
    intro nw nx aN aX H locs ls hw hP hD hS hl
    refine lv_aload_n hx hb dX0_layKind_51 rfl (lv_at hl 0 rfl) ?_
    refine va_get (D := (dC, dI)) (ci := 0) (v := .ref aN) (C := RX0) (T := TX0) (N := 5) hx hb hts hinX0 hown hK hP 0 rfl rfl 0 (by decide) (hts (.fieldLink RX0 11 "TileHand$Cover" "now" "[I") (by decide +kernel)) (fun _ h9 => h9) rfl dX0_layKind_52 ?_
    refine lv_astore_n (lv' := [(2, .ref aN), (0, .ref cv)]) hx hb dX0_layKind_55 rfl hl (by decide) rfl (fun ls hl => ?_)
    refine lv_aload_n hx hb dX0_layKind_56 rfl (lv_at hl 1 rfl) ?_
    refine lv_aload_n hx hb dX0_layKind_57 rfl (lv_at hl 1 rfl) ?_
    refine va_get (D := (dC, dI)) (ci := 0) (v := .ref aX) (C := RX0) (T := TX0) (N := 5) hx hb hts hinX0 hown hK hP 0 rfl rfl 1 (by decide) (hts (.fieldLink RX0 15 "TileHand$Cover" "next" "[I") (by decide +kernel)) (fun _ h9 => h9) rfl dX0_layKind_58 ?_
    refine va_put (D := (dC, dI)) (ci := 0) (v := .ref aX) (ty := (.array .int)) (C := RX0) (T := TX0) (N := 5) hx hb hts hinX0 tyX0 tyX0_ok nmX0 hown hK hP hD hS 0 rfl rfl 0 (by decide) (hts (.fieldLink RX0 11 "TileHand$Cover" "now" "[I") (by decide +kernel)) (fun _ h9 => h9) rfl (by decide +kernel) rfl rfl (Nat.le_of_ble_eq_true rfl) dX0_layKind_61 (fun H locs hP hD hS => ?_)
    have hP : va_P (dC, dI) vwCl [(cv, .inr (0, [.ref aX, .ref aX, .int glm, .int rom, .int hel])), (aN, .inl (cI, 90, .inl nw)), (aX, .inl (cI, 90, .inl nx))] H := hP
    have hD : va_D A [(cv, .inr (0, [.ref aX, .ref aX, .int glm, .int rom, .int hel])), (aN, .inl (cI, 90, .inl nw)), (aX, .inl (cI, 90, .inl nx))] := hD
    refine lv_aload_n hx hb dX0_layKind_64 rfl (lv_at hl 1 rfl) ?_
    refine lv_aload_n hx hb dX0_layKind_65 rfl (lv_at hl 0 rfl) ?_
    refine va_put (D := (dC, dI)) (ci := 0) (v := .ref aN) (ty := (.array .int)) (C := RX0) (T := TX0) (N := 5) hx hb hts hinX0 tyX0 tyX0_ok nmX0 hown hK hP hD hS 0 rfl rfl 1 (by decide) (hts (.fieldLink RX0 15 "TileHand$Cover" "next" "[I") (by decide +kernel)) (fun _ h9 => h9) rfl (by decide +kernel) rfl rfl (Nat.le_of_ble_eq_true rfl) dX0_layKind_66 (fun H locs hP hD hS => ?_)
    have hP : va_P (dC, dI) vwCl [(cv, .inr (0, [.ref aX, .ref aN, .int glm, .int rom, .int hel])), (aN, .inl (cI, 90, .inl nw)), (aX, .inl (cI, 90, .inl nx))] H := hP
    have hD : va_D A [(cv, .inr (0, [.ref aX, .ref aN, .int glm, .int rom, .int hel])), (aN, .inl (cI, 90, .inl nw)), (aX, .inl (cI, 90, .inl nx))] := hD
    have hP9 := hP.sub (ws' := [(cv, .inr (0, [.ref aX, .ref aN, .int glm, .int rom, .int hel])), (aX, .inl (cI, 90, .inl nx)), (aN, .inl (cI, 90, .inl nw))]) [0, 2, 1] rfl
    have hD9 := hD.sub (ws' := [(cv, .inr (0, [.ref aX, .ref aN, .int glm, .int rom, .int hel])), (aX, .inl (cI, 90, .inl nx)), (aN, .inl (cI, 90, .inl nw))]) [0, 2, 1] (by decide) rfl
    rw [← hQ9]
    exact W.vret hx hb hr (fun t ht hW => ⟨⟨(nx, nw), rfl, hw, aX, aN, by rw [ht]; exact hP9, va_K.moved hW.alike hK, hD9⟩, hS.F ht⟩) hS.2.2 dX0_layKind_69
  have L45 : ∀ (K10 : Int32 → (Nat → Int32) → (Nat → Int32) → Prop) (hK10 : ∀ (v2 : Int32) (nw : (Nat → Int32)) (nx : (Nat → Int32)) (aN aX : Nat) (H : Heap) (locs : List Loc) (ls : Array Slot), K10 v2 nw nx → va_P (dC, dI) vwCl [(cv, .inr (0, [.ref aN, .ref aX, .int glm, .int rom, .int hel])), (aN, .inl (cI, 90, .inl nw)), (aX, .inl (cI, 90, .inl nx))] H → va_D A [(cv, .inr (0, [.ref aN, .ref aX, .int glm, .int rom, .int hel])), (aN, .inl (cI, 90, .inl nw)), (aX, .inl (cI, 90, .inl nx))] → va_S A s.heap H locs → lv_has ls 4 [(0, .ref cv), (1, .int p0), (2, .int v2)] → W p l e ({ frames := 4, cells := 0, slots := 0, locals := 92 } : Room) s m ([.ref cv, .int p0] : List Value).toArray below meth c H locs 0 0 Q9 (F0 m 10 ls [])), ∀ (v2 : Int32) (nw : (Nat → Int32)) (nx : (Nat → Int32)) (aN aX : Nat) (H : Heap) (locs : List Loc) (ls : Array Slot), w_X0_layKind_b45 post glm rom hel p0 K10 v2 nw nx → va_P (dC, dI) vwCl [(cv, .inr (0, [.ref aN, .ref aX, .int glm, .int rom, .int hel])), (aN, .inl (cI, 90, .inl nw)), (aX, .inl (cI, 90, .inl nx))] H → va_D A [(cv, .inr (0, [.ref aN, .ref aX, .int glm, .int rom, .int hel])), (aN, .inl (cI, 90, .inl nw)), (aX, .inl (cI, 90, .inl nx))] → va_S A s.heap H locs → lv_has ls 4 [(0, .ref cv), (1, .int p0), (2, .int v2)] → W p l e ({ frames := 4, cells := 0, slots := 0, locals := 92 } : Room) s m ([.ref cv, .int p0] : List Value).toArray below meth c H locs 0 0 Q9 (F0 m 45 ls []) := by
    intro K10 hK10 v2 nw nx aN aX H locs ls hw hP hD hS hl
    refine lv_iinc (v := v2 + 1) (lv' := [(2, .int (v2 + 1)), (0, .ref cv), (1, .int p0)]) hx hb dX0_layKind_45 hl (k := 2) rfl rfl (by decide) rfl (fun ls hl => ?_)
    refine lv_goto (tgt := 10) hx hb dX0_layKind_48 (by decide) ?_
    exact hK10 (v2 + 1) nw nx aN aX _ _ _ hw hP hD hS (lv_sub hl [1, 2, 0] rfl)
  have L28 : ∀ (K10 : Int32 → (Nat → Int32) → (Nat → Int32) → Prop) (hK10 : ∀ (v2 : Int32) (nw : (Nat → Int32)) (nx : (Nat → Int32)) (aN aX : Nat) (H : Heap) (locs : List Loc) (ls : Array Slot), K10 v2 nw nx → va_P (dC, dI) vwCl [(cv, .inr (0, [.ref aN, .ref aX, .int glm, .int rom, .int hel])), (aN, .inl (cI, 90, .inl nw)), (aX, .inl (cI, 90, .inl nx))] H → va_D A [(cv, .inr (0, [.ref aN, .ref aX, .int glm, .int rom, .int hel])), (aN, .inl (cI, 90, .inl nw)), (aX, .inl (cI, 90, .inl nx))] → va_S A s.heap H locs → lv_has ls 4 [(0, .ref cv), (1, .int p0), (2, .int v2)] → W p l e ({ frames := 4, cells := 0, slots := 0, locals := 92 } : Room) s m ([.ref cv, .int p0] : List Value).toArray below meth c H locs 0 0 Q9 (F0 m 10 ls [])), ∀ (n : Nat), ∀ (v2 : Int32) (v3 : Int32) (nw : (Nat → Int32)) (nx : (Nat → Int32)) (aN aX : Nat) (H : Heap) (locs : List Loc) (ls : Array Slot), w_X0_layKind_b28 post glm rom hel p0 K10 n v2 v3 nw nx → va_P (dC, dI) vwCl [(cv, .inr (0, [.ref aN, .ref aX, .int glm, .int rom, .int hel])), (aN, .inl (cI, 90, .inl nw)), (aX, .inl (cI, 90, .inl nx))] H → va_D A [(cv, .inr (0, [.ref aN, .ref aX, .int glm, .int rom, .int hel])), (aN, .inl (cI, 90, .inl nw)), (aX, .inl (cI, 90, .inl nx))] → va_S A s.heap H locs → lv_has ls 4 [(0, .ref cv), (1, .int p0), (2, .int v2), (3, .int v3)] → W p l e ({ frames := 4, cells := 0, slots := 0, locals := 92 } : Room) s m ([.ref cv, .int p0] : List Value).toArray below meth c H locs 0 0 Q9 (F0 m 28 ls []) := by
    intro K10 hK10 n
    induction n with
    | zero => intro v2 v3 nw nx aN aX H locs ls hw _ _ _ _; exact False.elim hw
    | succ n ih =>
      intro v2 v3 nw nx aN aX H locs ls hw hP hD hS hl
      refine lv_iload_n hx hb dX0_layKind_28 rfl (lv_at hl 3 rfl) ?_
      refine lv_iload_n hx hb dX0_layKind_29 rfl (lv_at hl 1 rfl) ?_
      refine lv_icmp_gt (tgt := 45) hx hb dX0_layKind_30 (by decide) (fun c5 => ?_) (fun c5 => ?_)
      · have hw := hw.1 c5
        exact L45 K10 hK10 v2 nw nx aN aX _ _ _ hw hP hD hS (lv_sub hl [0, 1, 2] rfl)
      · have hw := hw.2 c5
        refine lv_aload_n hx hb dX0_layKind_33 rfl (lv_at hl 0 rfl) ?_
        refine lv_iload_n hx hb dX0_layKind_34 rfl (lv_at hl 2 rfl) ?_
        refine lv_iload_n hx hb dX0_layKind_35 rfl (lv_at hl 3 rfl) ?_
        have hPc := hP.sub (ws' := [(cv, .inr (0, [.ref aN, .ref aX, .int glm, .int rom, .int hel])), (aN, .inl (cI, 90, .inl nw)), (aX, .inl (cI, 90, .inl nx))]) [0, 1, 2] rfl
        have hDc := hD.sub (ws' := [(cv, .inr (0, [.ref aN, .ref aX, .int glm, .int rom, .int hel])), (aN, .inl (cI, 90, .inl nw)), (aX, .inl (cI, 90, .inl nx))]) [0, 1, 2] (by decide) rfl
        have hFc := va_free (wc := [(cv, .inr (0, [.ref aN, .ref aX, .int glm, .int rom, .int hel])), (aN, .inl (cI, 90, .inl nw)), (aX, .inl (cI, 90, .inl nx))]) hD hS hA [0, 1, 2] rfl
        refine va_callv (va_runV (As := [.int v2, .int v3]) (rest := []) ⟨hx, hb, hml, hown, hts⟩ (c_X0_laySets l dC dI cI cZ cv aN aX H.size glm rom hel nw nx v2 v3 _ hw) (cwV 2 hts gX0_layKind_X0_laySets rfl rfl rfl (by decide +kernel) ⟨Nat.le_of_ble_eq_true rfl, Nat.le_of_ble_eq_true rfl⟩) ⟨fun a U g mk q => by obtain ⟨q0, q1, qP, qK, qD⟩ := q; exact ⟨q0, q1, qP, va_K.moved (u := U) (U := U.calling g mk a) (Vm.Alike.refl U.vm) qK, qD⟩, va_recv hK hPc (ci := 0) (q0 := 0) rfl rfl, fun U hU hW => ⟨rfl, by rw [hU], by rw [hU]; exact hPc, va_K.moved hW.alike hK, hDc.weaken (fun _ _ _ _ => trivial)⟩⟩ rfl rfl hl.1 rfl (lv_room (Nat.le_of_ble_eq_true rfl)) dX0_layKind_36 ⟨Nat.le_of_ble_eq_true rfl, Nat.le_of_ble_eq_true rfl⟩) hS (fun q _ h => hFc q h) hFc (fun u t H1 locs ht hvm hw hB hz1 hk1 hS => ?_)
        obtain ⟨nx_6, rfl⟩ : ∃ z, z = u := ⟨_, rfl⟩
        obtain ⟨hP1, -, hD1⟩ := hB
        have hw := And.intro hw trivial
        try dsimp only at hw
        have hw := hw.1
        rw [ht] at hP1
        obtain ⟨hP, hD⟩ := va_join (wr := []) (w1 := [(cv, .inr (0, [.ref aN, .ref aX, .int glm, .int rom, .int hel])), (aN, .inl (cI, 90, .inl nw)), (aX, .inl (cI, 90, .inl nx_6))]) hP hD [0, 1, 2] [] rfl rfl (by decide) (by decide) hk1 hFc hP1 hD1
        generalize H1 = H at hP hS ⊢
        have hP : va_P (dC, dI) vwCl [(cv, .inr (0, [.ref aN, .ref aX, .int glm, .int rom, .int hel])), (aN, .inl (cI, 90, .inl nw)), (aX, .inl (cI, 90, .inl nx_6))] H := hP
        have hD : va_D A [(cv, .inr (0, [.ref aN, .ref aX, .int glm, .int rom, .int hel])), (aN, .inl (cI, 90, .inl nw)), (aX, .inl (cI, 90, .inl nx_6))] := hD
        refine lv_iinc (v := v3 + 1) (lv' := [(3, .int (v3 + 1)), (0, .ref cv), (1, .int p0), (2, .int v2)]) hx hb dX0_layKind_39 hl (k := 3) rfl rfl (by decide) rfl (fun ls hl => ?_)
        refine lv_goto (tgt := 28) hx hb dX0_layKind_42 (by decide) ?_
        exact ih v2 (v3 + 1) nw nx_6 aN aX _ _ _ hw hP hD hS (lv_sub hl [1, 2, 3, 0] rfl)
  have L10 : ∀ (n : Nat), ∀ (v2 : Int32) (nw : (Nat → Int32)) (nx : (Nat → Int32)) (aN aX : Nat) (H : Heap) (locs : List Loc) (ls : Array Slot), w_X0_layKind_b10 post glm rom hel p0 n v2 nw nx → va_P (dC, dI) vwCl [(cv, .inr (0, [.ref aN, .ref aX, .int glm, .int rom, .int hel])), (aN, .inl (cI, 90, .inl nw)), (aX, .inl (cI, 90, .inl nx))] H → va_D A [(cv, .inr (0, [.ref aN, .ref aX, .int glm, .int rom, .int hel])), (aN, .inl (cI, 90, .inl nw)), (aX, .inl (cI, 90, .inl nx))] → va_S A s.heap H locs → lv_has ls 4 [(0, .ref cv), (1, .int p0), (2, .int v2)] → W p l e ({ frames := 4, cells := 0, slots := 0, locals := 92 } : Room) s m ([.ref cv, .int p0] : List Value).toArray below meth c H locs 0 0 Q9 (F0 m 10 ls []) := by
    intro n
    induction n with
    | zero => intro v2 nw nx aN aX H locs ls hw _ _ _ _; exact False.elim hw
    | succ n ih =>
      intro v2 nw nx aN aX H locs ls hw hP hD hS hl
      refine lv_iload_n hx hb dX0_layKind_10 rfl (lv_at hl 2 rfl) ?_
      refine lv_bipush (v := 90) hx hb dX0_layKind_11 (by decide) ?_
      refine lv_icmp_ge (tgt := 51) hx hb dX0_layKind_13 (by decide) (fun c2 => ?_) (fun c2 => ?_)
      · have hw := hw.1 c2
        exact L51 nw nx aN aX _ _ _ hw hP hD hS (lv_sub hl [0] rfl)
      · have hw := hw.2 c2
        refine lv_aload_n hx hb dX0_layKind_16 rfl (lv_at hl 0 rfl) ?_
        refine va_get (D := (dC, dI)) (ci := 0) (v := .ref aN) (C := RX0) (T := TX0) (N := 5) hx hb hts hinX0 hown hK hP 0 rfl rfl 0 (by decide) (hts (.fieldLink RX0 11 "TileHand$Cover" "now" "[I") (by decide +kernel)) (fun _ h9 => h9) rfl dX0_layKind_17 ?_
        refine lv_iload_n hx hb dX0_layKind_20 rfl (lv_at hl 2 rfl) ?_
        obtain ⟨h3, hw⟩ := hw
        refine va_iald hx hb hK hP 1 0 rfl rfl h3 dX0_layKind_21 ?_
        refine lv_iconst (v := -1) hx hb dX0_layKind_22 (by decide) ?_
        refine lv_icmp_eq (tgt := 45) hx hb dX0_layKind_23 (by decide) (fun c4 => ?_) (fun c4 => ?_)
        · have hw := hw.1 c4
          exact L45 (w_X0_layKind_b10 post glm rom hel p0 n) ih v2 nw nx aN aX _ _ _ hw hP hD hS (lv_sub hl [0, 1, 2] rfl)
        · have hw := hw.2 c4
          refine lv_iconst (v := 0) hx hb dX0_layKind_26 (by decide) ?_
          refine lv_istore_n (lv' := [(3, .int (0 : Int32)), (0, .ref cv), (1, .int p0), (2, .int v2)]) hx hb dX0_layKind_27 rfl hl (by decide) rfl (fun ls hl => ?_)
          obtain ⟨n9, hw⟩ := hw
          exact L28 (w_X0_layKind_b10 post glm rom hel p0 n) ih n9 v2 (0 : Int32) nw nx aN aX _ _ _ hw hP hD hS (lv_sub hl [1, 2, 3, 0] rfl)
  refine lv_aload_n hx hb dX0_layKind_0 rfl (lv_at hl 0 rfl) ?_
  refine va_get (D := (dC, dI)) (ci := 0) (v := .ref aX) (C := RX0) (T := TX0) (N := 5) hx hb hts hinX0 hown hK hP 0 rfl rfl 1 (by decide) (hts (.fieldLink RX0 15 "TileHand$Cover" "next" "[I") (by decide +kernel)) (fun _ h9 => h9) rfl dX0_layKind_1 ?_
  refine lv_iconst (v := -1) hx hb dX0_layKind_4 (by decide) ?_
  have hPc := hP.sub (ws' := [(aX, .inl (cI, 90, .inl nx))]) [2] rfl
  have hDc := hD.sub (ws' := [(aX, .inl (cI, 90, .inl nx))]) [2] (by decide) rfl
  have hFc := va_free (wc := [(aX, .inl (cI, 90, .inl nx))]) hD hS hA [2] rfl
  refine va_callv (va_runS (As := [.ref aX, .int (-1 : Int32)]) (rest := []) ⟨hx, hb, hml, hown, hts⟩ (c_J7_fill_53178 l dC dI cI cZ aX 90 s.heap.size nx (-1 : Int32) _ hw) (va_cwS 2 hts gX0_layKind_J7_fill_53178 rfl rfl rfl (by decide +kernel) ⟨Nat.le_of_ble_eq_true rfl, Nat.le_of_ble_eq_true rfl⟩) ⟨fun a U g mk q => by obtain ⟨q0, q1, qP, qK, qD⟩ := q; exact ⟨q0, q1, qP, va_K.moved (u := U) (U := U.calling g mk a) (Vm.Alike.refl U.vm) qK, qD⟩, fun U hU hW => ⟨rfl, by rw [hU], by rw [hU]; exact hPc, va_K.moved hW.alike hK, hDc.weaken (fun _ _ _ _ => trivial)⟩⟩ rfl rfl hl.1 rfl (lv_room (Nat.le_of_ble_eq_true rfl)) dX0_layKind_5 ⟨Nat.le_of_ble_eq_true rfl, Nat.le_of_ble_eq_true rfl⟩) hS (fun q _ h => hFc q h) hFc (fun u t H1 locs ht hvm hw hB hz1 hk1 hS => ?_)
  obtain ⟨ff_1, rfl⟩ : ∃ z, z = u := ⟨_, rfl⟩
  obtain ⟨hP1, -, hD1⟩ := hB
  have hw := And.intro hw trivial
  try dsimp only at hw
  have hw := hw.1
  rw [ht] at hP1
  obtain ⟨hP, hD⟩ := va_join (wr := [(cv, .inr (0, [.ref aN, .ref aX, .int glm, .int rom, .int hel])), (aN, .inl (cI, 90, .inl nw))]) (w1 := [(aX, .inl (cI, 90, .inl ff_1))]) hP hD [2] [0, 1] rfl rfl (by decide) (by decide) hk1 hFc hP1 hD1
  generalize H1 = H at hP hS ⊢
  have hP : va_P (dC, dI) vwCl [(cv, .inr (0, [.ref aN, .ref aX, .int glm, .int rom, .int hel])), (aN, .inl (cI, 90, .inl nw)), (aX, .inl (cI, 90, .inl ff_1))] H := hP
  have hD : va_D A [(cv, .inr (0, [.ref aN, .ref aX, .int glm, .int rom, .int hel])), (aN, .inl (cI, 90, .inl nw)), (aX, .inl (cI, 90, .inl ff_1))] := hD
  refine lv_iconst (v := 0) hx hb dX0_layKind_8 (by decide) ?_
  refine lv_istore_n (lv' := [(2, .int (0 : Int32)), (0, .ref cv), (1, .int p0)]) hx hb dX0_layKind_9 rfl hl (by decide) rfl (fun ls hl => ?_)
  obtain ⟨n9, hw⟩ := hw
  exact L10 n9 (0 : Int32) nw ff_1 aN aX _ _ _ hw hP hD hS (lv_sub hl [1, 2, 0] rfl)

def w_X0_mostHeld_b86 (post : Int32 → Int32 → Int32 → Int32 → (Nat → Int32) → (Nat → Int32) → Prop) (hd : (Nat → Int32)) (la : (Nat → Int32)) (p0 : Int32) : Nat → Int32 → Int32 → Int32 → Int32 → Int32 → (Nat → Int32) → (Nat → Int32) → Prop
  | 0, _, _, _, _, _, _, _ => False
  | n + 1, v4, v5, glm, rom, hel, nw, nx => (((90 : Int32) ≤ v5 → (post v4 glm rom hel nw nx)) ∧ (¬ (90 : Int32) ≤ v5 → (vp_in v5 90 ∧ (∀ t7 : Int32, t7 = (if v4 < (nw v5.toNatClampNeg) then (nw v5.toNatClampNeg) else v4) → (w_X0_mostHeld_b86 post hd la p0 n t7 (v5 + 1) glm rom hel nw nx)))))

def w_X0_mostHeld_b80 (post : Int32 → Int32 → Int32 → Int32 → (Nat → Int32) → (Nat → Int32) → Prop) (hd : (Nat → Int32)) (la : (Nat → Int32)) (p0 : Int32) (glm : Int32) (rom : Int32) (hel : Int32) (nw : (Nat → Int32)) (nx : (Nat → Int32)) : Prop := ∃ n9, w_X0_mostHeld_b86 post hd la p0 n9 (0 : Int32) (0 : Int32) glm rom hel nw nx

def w_X0_mostHeld_b71 (post : Int32 → Int32 → Int32 → Int32 → (Nat → Int32) → (Nat → Int32) → Prop) (hd : (Nat → Int32)) (la : (Nat → Int32)) (p0 : Int32) (K31 : Int32 → Int32 → Int32 → Int32 → (Nat → Int32) → (Nat → Int32) → Prop) (v4 : Int32) (s2 : Int32) (glm : Int32) (rom : Int32) (hel : Int32) (nw : (Nat → Int32)) (nx : (Nat → Int32)) : Prop := w_X0_layKind glm rom hel nw nx s2 (fun nw_13 nx_14 => (K31 (v4 + 1) glm rom hel nw_13 nx_14))

def w_X0_mostHeld_b31 (post : Int32 → Int32 → Int32 → Int32 → (Nat → Int32) → (Nat → Int32) → Prop) (hd : (Nat → Int32)) (la : (Nat → Int32)) (p0 : Int32) : Nat → Int32 → Int32 → Int32 → Int32 → (Nat → Int32) → (Nat → Int32) → Prop
  | 0, _, _, _, _, _, _ => False
  | n + 1, v4, glm, rom, hel, nw, nx => (((34 : Int32) ≤ v4 → (w_X0_mostHeld_b80 post hd la p0 glm rom hel nw nx)) ∧ (¬ (34 : Int32) ≤ v4 → (vp_in v4 34 ∧ (∀ t9 : Int32, t9 = (4 : Int32) - (la v4.toNatClampNeg) → (vp_in v4 34 ∧ (w_X0_canRow hd v4 (fun r11 => (((r11 = 0 → (w_X0_mostHeld_b71 post hd la p0 (w_X0_mostHeld_b31 post hd la p0 n) v4 (0 : Int32) glm t9 (hd v4.toNatClampNeg) nw nx)) ∧ (¬ r11 = 0 → (w_X0_mostHeld_b71 post hd la p0 (w_X0_mostHeld_b31 post hd la p0 n) v4 (2 : Int32) glm t9 (hd v4.toNatClampNeg) nw nx)))))))))))

def w_X0_mostHeld (hd : (Nat → Int32)) (la : (Nat → Int32)) (glm : Int32) (rom : Int32) (hel : Int32) (nw : (Nat → Int32)) (nx : (Nat → Int32)) (p0 : Int32) (post : Int32 → Int32 → Int32 → Int32 → (Nat → Int32) → (Nat → Int32) → Prop) : Prop := ∀ t1 : Int32, t1 = (if (0 : Int32) < (if (4 : Int32) < p0 then (4 : Int32) else p0) then (if (4 : Int32) < p0 then (4 : Int32) else p0) else (0 : Int32)) → (w_J7_fill_53178 90 nw (-1 : Int32) (fun ff_2 => (vp_in (0 : Int32) 90 ∧ (∃ n9, w_X0_mostHeld_b31 post hd la p0 n9 (0 : Int32) t1 rom hel (upd ff_2 (0 : Int32).toNatClampNeg (0 : Int32)) nx))))

set_option maxHeartbeats 4000000 in
set_option maxRecDepth 100000 in
theorem c_X0_mostHeld (l : Launch) (dC : Nat → ClassId) (dI : Nat → Nat → Nat) (cI cZ : ClassId) (aH : Nat) (aL : Nat) (cv : Nat) (aN : Nat) (aX : Nat) (sz : Nat) (hd : (Nat → Int32)) (la : (Nat → Int32)) (glm : Int32) (rom : Int32) (hel : Int32) (nw : (Nat → Int32)) (nx : (Nat → Int32)) (p0 : Int32) (post : Int32 → Int32 → Int32 → Int32 → (Nat → Int32) → (Nat → Int32) → Prop) (hw : w_X0_mostHeld hd la glm rom hel nw nx p0 post) : Met l yX0_mostHeld wsX0_mostHeld ({ frames := 5, cells := 0, slots := 0, locals := 115 } : Room) (va_Pc [.ref cv, .ref aH, .ref aL, .int p0] (fun U => U.heap.size = sz ∧ va_P (dC, dI) vwCl [(aH, .inl (cI, 34, .inl hd)), (aL, .inl (cI, 34, .inl la)), (cv, .inr (0, [.ref aN, .ref aX, .int glm, .int rom, .int hel])), (aN, .inl (cI, 90, .inl nw)), (aX, .inl (cI, 90, .inl nx))] U.heap ∧ va_K (dC, dI) vwCl [(cI, .int), (cZ, .boolean)] U ∧ va_D (fun _ => True) [(aH, .inl (cI, 34, .inl hd)), (aL, .inl (cI, 34, .inl la)), (cv, .inr (0, [.ref aN, .ref aX, .int glm, .int rom, .int hel])), (aN, .inl (cI, 90, .inl nw)), (aX, .inl (cI, 90, .inl nx))] ∧ va_Nw (.methodLinkNest RX0 51 yX1_beginsRow "TileHand") U)) (va_Qi (fun (r9 : Int32) (u9 : Int32 × Int32 × Int32 × (Nat → Int32) × (Nat → Int32)) => post r9 u9.1 u9.2.1 u9.2.2.1 u9.2.2.2.1 u9.2.2.2.2) (fun (u9 : Int32 × Int32 × Int32 × (Nat → Int32) × (Nat → Int32)) (t9 : State) => ∃ aN1 aX1 : Nat, va_P (dC, dI) vwCl [(aH, .inl (cI, 34, .inl hd)), (aL, .inl (cI, 34, .inl la)), (cv, .inr (0, [.ref aN1, .ref aX1, .int u9.1, .int u9.2.1, .int u9.2.2.1])), (aN1, .inl (cI, 90, .inl u9.2.2.2.1)), (aX1, .inl (cI, 90, .inl u9.2.2.2.2))] t9.heap ∧ va_K (dC, dI) vwCl [(cI, .int), (cZ, .boolean)] t9 ∧ va_D (va_A [(aH, .inl (cI, 34, .inl hd)), (aL, .inl (cI, 34, .inl la)), (cv, .inr (0, [.ref aN, .ref aX, .int glm, .int rom, .int hel])), (aN, .inl (cI, 90, .inl nw)), (aX, .inl (cI, 90, .inl nx))] sz) [(aH, .inl (cI, 34, .inl hd)), (aL, .inl (cI, 34, .inl la)), (cv, .inr (0, [.ref aN1, .ref aX1, .int u9.1, .int u9.2.1, .int u9.2.2.1])), (aN1, .inl (cI, 90, .inl u9.2.2.2.1)), (aX1, .inl (cI, 90, .inl u9.2.2.2.2))]) (va_A [(aH, .inl (cI, 34, .inl hd)), (aL, .inl (cI, 34, .inl la)), (cv, .inr (0, [.ref aN, .ref aX, .int glm, .int rom, .int hel])), (aN, .inl (cI, 90, .inl nw)), (aX, .inl (cI, 90, .inl nx))] sz)) 0 0 (va_A [(aH, .inl (cI, 34, .inl hd)), (aL, .inl (cI, 34, .inl la)), (cv, .inr (0, [.ref aN, .ref aX, .int glm, .int rom, .int hel])), (aN, .inl (cI, 90, .inl nw)), (aX, .inl (cI, 90, .inl nx))] sz) := by
  refine Met.ofW (cc := cX0_mostHeld) (maxL := 6) (ret := (some .int)) (by decide) rfl ?_
  intro p e s m args below meth c s₁ B hml hv
  obtain ⟨rfl, hsz, hP, hK, hD0, hnk⟩ := hv
  have hx := B.exec
  have hb := B.bytes
  have hr := B.returns
  have hts := atoms_spec (ws := wsX0_mostHeld) B.pre
  have hown : s.vm.findClass RX0 = some m.cls := findClass_of_methodNamed B.named
  have hlocks := B.notSynchronized
  have hinX0 : ∀ w ∈ u_ws RX0 TX0 5, w ∈ wsX0_mostHeld := by decide +kernel
  subst hsz
  have hD := hD0.self (sz := s.heap.size)
  generalize hAe : va_A [(aH, .inl (cI, 34, .inl hd)), (aL, .inl (cI, 34, .inl la)), (cv, .inr (0, [.ref aN, .ref aX, .int glm, .int rom, .int hel])), (aN, .inl (cI, 90, .inl nw)), (aX, .inl (cI, 90, .inl nx))] s.heap.size = A at hD ⊢
  have hA : ∀ q : Nat, s.heap.size ≤ q → A q := fun q h => by rw [← hAe]; exact Or.inr h
  have hS : va_S A s.heap s.heap [] := va_S.rf
  have hl := lv_entry ([.ref cv, .ref aH, .ref aL, .int p0]) (n := 6) (Nat.le_of_ble_eq_true rfl)
  rw [lg_entry_eq]
  generalize (lg_sl ([.ref cv, .ref aH, .ref aL, .int p0]) ++ List.replicate (6 - (lg_sl ([.ref cv, .ref aH, .ref aL, .int p0])).length) Slot.unset).toArray = ls at hl ⊢
  have hl : lv_has ls 6 [(0, .ref cv), (1, .ref aH), (2, .ref aL), (3, .int p0)] := hl
  refine (?_ : ∀ Q9 : State → Prop, MQ below _ _ s _ _ _ = Q9 → W p l e ({ frames := 5, cells := 0, slots := 0, locals := 115 } : Room) s m _ below meth c s.heap [] 0 0 Q9 (F0 m 0 ls [])) _ rfl
  intro Q9 hQ9
  have hw : ∀ t1 : Int32, t1 = (if (0 : Int32) < (if (4 : Int32) < p0 then (4 : Int32) else p0) then (if (4 : Int32) < p0 then (4 : Int32) else p0) else (0 : Int32)) → (w_J7_fill_53178 90 nw (-1 : Int32) (fun ff_2 => (vp_in (0 : Int32) 90 ∧ (∃ n9, w_X0_mostHeld_b31 post hd la p0 n9 (0 : Int32) t1 rom hel (upd ff_2 (0 : Int32).toNatClampNeg (0 : Int32)) nx)))) := hw
  have L86 : ∀ (n : Nat), ∀ (v4 : Int32) (v5 : Int32) (glm : Int32) (rom : Int32) (hel : Int32) (nw : (Nat → Int32)) (nx : (Nat → Int32)) (aN aX : Nat) (H : Heap) (locs : List Loc) (ls : Array Slot), w_X0_mostHeld_b86 post hd la p0 n v4 v5 glm rom hel nw nx → va_P (dC, dI) vwCl [(aH, .inl (cI, 34, .inl hd)), (aL, .inl (cI, 34, .inl la)), (cv, .inr (0, [.ref aN, .ref aX, .int glm, .int rom, .int hel])), (aN, .inl (cI, 90, .inl nw)), (aX, .inl (cI, 90, .inl nx))] H → va_D A [(aH, .inl (cI, 34, .inl hd)), (aL, .inl (cI, 34, .inl la)), (cv, .inr (0, [.ref aN, .ref aX, .int glm, .int rom, .int hel])), (aN, .inl (cI, 90, .inl nw)), (aX, .inl (cI, 90, .inl nx))] → va_S A s.heap H locs → lv_has ls 6 [(0, .ref cv), (4, .int v4), (5, .int v5)] → W p l e ({ frames := 5, cells := 0, slots := 0, locals := 115 } : Room) s m ([.ref cv, .ref aH, .ref aL, .int p0] : List Value).toArray below meth c H locs 0 0 Q9 (F0 m 86 ls []) := by
    intro n
    induction n with
    | zero => intro v4 v5 glm rom hel nw nx aN aX H locs ls hw _ _ _ _; exact False.elim hw
    | succ n ih =>
      intro v4 v5 glm rom hel nw nx aN aX H locs ls hw hP hD hS hl
      refine lv_iload hx hb dX0_mostHeld_86 (lv_at hl 2 rfl) ?_
      refine lv_bipush (v := 90) hx hb dX0_mostHeld_88 (by decide) ?_
      refine lv_icmp_ge (tgt := 113) hx hb dX0_mostHeld_90 (by decide) (fun c5 => ?_) (fun c5 => ?_)
      · have hw := hw.1 c5
        refine lv_iload hx hb dX0_mostHeld_113 (lv_at hl 1 rfl) ?_
        rw [← hQ9]
        exact W.iret (v := v4) hx hb hr (fun t ht hW => ⟨⟨v4, (glm, rom, hel, nw, nx), rfl, hw, aN, aX, by rw [ht]; exact hP, va_K.moved hW.alike hK, hD⟩, hS.F ht⟩) hS.2.2 dX0_mostHeld_115
      · have hw := hw.2 c5
        refine lv_iload hx hb dX0_mostHeld_93 (lv_at hl 1 rfl) ?_
        refine lv_aload_n hx hb dX0_mostHeld_95 rfl (lv_at hl 0 rfl) ?_
        refine va_get (D := (dC, dI)) (ci := 0) (v := .ref aN) (C := RX0) (T := TX0) (N := 5) hx hb hts hinX0 hown hK hP 2 rfl rfl 0 (by decide) (hts (.fieldLink RX0 11 "TileHand$Cover" "now" "[I") (by decide +kernel)) (fun _ h9 => h9) rfl dX0_mostHeld_96 ?_
        refine lv_iload hx hb dX0_mostHeld_99 (lv_at hl 2 rfl) ?_
        obtain ⟨h6, hw⟩ := hw
        refine va_iald hx hb hK hP 3 0 rfl rfl h6 dX0_mostHeld_101 ?_
        refine va_mmax hx hb (hml.trans hl.1.symm) hown (hts (.methodLink RX0 24 Lib.Math.max.name) (by decide +kernel)) (hts (.static Lib.Math.max.name) (by decide +kernel)) (hts (.initialized "java/lang/Math") (by decide +kernel)) (hts (.code Lib.Math.max.name Lib.Math.max.code 2 (some .int)) (by decide +kernel)) (Nat.le_of_ble_eq_true rfl) (Nat.le_of_ble_eq_true rfl) (Nat.le_of_ble_eq_true rfl) (Nat.le_of_ble_eq_true rfl) dX0_mostHeld_102 ?_
        refine lv_topi (fun t7 et7 => ?_)
        have hw := hw t7 et7
        refine lv_istore (lv' := [(4, .int t7), (0, .ref cv), (5, .int v5)]) hx hb dX0_mostHeld_105 hl (by decide) rfl (fun ls hl => ?_)
        refine lv_iinc (v := v5 + 1) (lv' := [(5, .int (v5 + 1)), (4, .int t7), (0, .ref cv)]) hx hb dX0_mostHeld_107 hl (k := 2) rfl rfl (by decide) rfl (fun ls hl => ?_)
        refine lv_goto (tgt := 86) hx hb dX0_mostHeld_110 (by decide) ?_
        exact ih t7 (v5 + 1) glm rom hel nw nx aN aX _ _ _ hw hP hD hS (lv_sub hl [2, 1, 0] rfl)
  have L80 : ∀ (glm : Int32) (rom : Int32) (hel : Int32) (nw : (Nat → Int32)) (nx : (Nat → Int32)) (aN aX : Nat) (H : Heap) (locs : List Loc) (ls : Array Slot), w_X0_mostHeld_b80 post hd la p0 glm rom hel nw nx → va_P (dC, dI) vwCl [(aH, .inl (cI, 34, .inl hd)), (aL, .inl (cI, 34, .inl la)), (cv, .inr (0, [.ref aN, .ref aX, .int glm, .int rom, .int hel])), (aN, .inl (cI, 90, .inl nw)), (aX, .inl (cI, 90, .inl nx))] H → va_D A [(aH, .inl (cI, 34, .inl hd)), (aL, .inl (cI, 34, .inl la)), (cv, .inr (0, [.ref aN, .ref aX, .int glm, .int rom, .int hel])), (aN, .inl (cI, 90, .inl nw)), (aX, .inl (cI, 90, .inl nx))] → va_S A s.heap H locs → lv_has ls 6 [(0, .ref cv)] → W p l e ({ frames := 5, cells := 0, slots := 0, locals := 115 } : Room) s m ([.ref cv, .ref aH, .ref aL, .int p0] : List Value).toArray below meth c H locs 0 0 Q9 (F0 m 80 ls []) := by
    intro glm rom hel nw nx aN aX H locs ls hw hP hD hS hl
    refine lv_iconst (v := 0) hx hb dX0_mostHeld_80 (by decide) ?_
    refine lv_istore (lv' := [(4, .int (0 : Int32)), (0, .ref cv)]) hx hb dX0_mostHeld_81 hl (by decide) rfl (fun ls hl => ?_)
    refine lv_iconst (v := 0) hx hb dX0_mostHeld_83 (by decide) ?_
    refine lv_istore (lv' := [(5, .int (0 : Int32)), (4, .int (0 : Int32)), (0, .ref cv)]) hx hb dX0_mostHeld_84 hl (by decide) rfl (fun ls hl => ?_)
    obtain ⟨n9, hw⟩ := hw
    exact L86 n9 (0 : Int32) (0 : Int32) glm rom hel nw nx aN aX _ _ _ hw hP hD hS (lv_sub hl [2, 1, 0] rfl)
  have L71 : ∀ (K31 : Int32 → Int32 → Int32 → Int32 → (Nat → Int32) → (Nat → Int32) → Prop) (hK31 : ∀ (v4 : Int32) (glm : Int32) (rom : Int32) (hel : Int32) (nw : (Nat → Int32)) (nx : (Nat → Int32)) (aN aX : Nat) (H : Heap) (locs : List Loc) (ls : Array Slot), K31 v4 glm rom hel nw nx → va_P (dC, dI) vwCl [(aH, .inl (cI, 34, .inl hd)), (aL, .inl (cI, 34, .inl la)), (cv, .inr (0, [.ref aN, .ref aX, .int glm, .int rom, .int hel])), (aN, .inl (cI, 90, .inl nw)), (aX, .inl (cI, 90, .inl nx))] H → va_D A [(aH, .inl (cI, 34, .inl hd)), (aL, .inl (cI, 34, .inl la)), (cv, .inr (0, [.ref aN, .ref aX, .int glm, .int rom, .int hel])), (aN, .inl (cI, 90, .inl nw)), (aX, .inl (cI, 90, .inl nx))] → va_S A s.heap H locs → lv_has ls 6 [(0, .ref cv), (1, .ref aH), (2, .ref aL), (4, .int v4)] → W p l e ({ frames := 5, cells := 0, slots := 0, locals := 115 } : Room) s m ([.ref cv, .ref aH, .ref aL, .int p0] : List Value).toArray below meth c H locs 0 0 Q9 (F0 m 31 ls [])), ∀ (v4 : Int32) (s2 : Int32) (glm : Int32) (rom : Int32) (hel : Int32) (nw : (Nat → Int32)) (nx : (Nat → Int32)) (aN aX : Nat) (H : Heap) (locs : List Loc) (ls : Array Slot), w_X0_mostHeld_b71 post hd la p0 K31 v4 s2 glm rom hel nw nx → va_P (dC, dI) vwCl [(aH, .inl (cI, 34, .inl hd)), (aL, .inl (cI, 34, .inl la)), (cv, .inr (0, [.ref aN, .ref aX, .int glm, .int rom, .int hel])), (aN, .inl (cI, 90, .inl nw)), (aX, .inl (cI, 90, .inl nx))] H → va_D A [(aH, .inl (cI, 34, .inl hd)), (aL, .inl (cI, 34, .inl la)), (cv, .inr (0, [.ref aN, .ref aX, .int glm, .int rom, .int hel])), (aN, .inl (cI, 90, .inl nw)), (aX, .inl (cI, 90, .inl nx))] → va_S A s.heap H locs → lv_has ls 6 [(0, .ref cv), (1, .ref aH), (2, .ref aL), (4, .int v4)] → W p l e ({ frames := 5, cells := 0, slots := 0, locals := 115 } : Room) s m ([.ref cv, .ref aH, .ref aL, .int p0] : List Value).toArray below meth c H locs 0 0 Q9 (F0 m 71 ls [.int s2, .ref cv]) := by
    intro K31 hK31 v4 s2 glm rom hel nw nx aN aX H locs ls hw hP hD hS hl
    have hPc := hP.sub (ws' := [(cv, .inr (0, [.ref aN, .ref aX, .int glm, .int rom, .int hel])), (aN, .inl (cI, 90, .inl nw)), (aX, .inl (cI, 90, .inl nx))]) [2, 3, 4] rfl
    have hDc := hD.sub (ws' := [(cv, .inr (0, [.ref aN, .ref aX, .int glm, .int rom, .int hel])), (aN, .inl (cI, 90, .inl nw)), (aX, .inl (cI, 90, .inl nx))]) [2, 3, 4] (by decide) rfl
    have hFc := va_free (wc := [(cv, .inr (0, [.ref aN, .ref aX, .int glm, .int rom, .int hel])), (aN, .inl (cI, 90, .inl nw)), (aX, .inl (cI, 90, .inl nx))]) hD hS hA [2, 3, 4] rfl
    refine va_callv (va_runV (As := [.int s2]) (rest := []) ⟨hx, hb, hml, hown, hts⟩ (c_X0_layKind l dC dI cI cZ cv aN aX H.size glm rom hel nw nx s2 _ hw) (cwV 1 hts gX0_mostHeld_X0_layKind rfl rfl rfl (by decide +kernel) ⟨Nat.le_of_ble_eq_true rfl, Nat.le_of_ble_eq_true rfl⟩) ⟨fun a U g mk q => by obtain ⟨q0, q1, qP, qK, qD⟩ := q; exact ⟨q0, q1, qP, va_K.moved (u := U) (U := U.calling g mk a) (Vm.Alike.refl U.vm) qK, qD⟩, va_recv hK hPc (ci := 0) (q0 := 0) rfl rfl, fun U hU hW => ⟨rfl, by rw [hU], by rw [hU]; exact hPc, va_K.moved hW.alike hK, hDc.weaken (fun _ _ _ _ => trivial)⟩⟩ rfl rfl hl.1 rfl (lv_room (Nat.le_of_ble_eq_true rfl)) dX0_mostHeld_71 ⟨Nat.le_of_ble_eq_true rfl, Nat.le_of_ble_eq_true rfl⟩) hS (fun q _ h => hFc q h) hFc (fun u t H1 locs ht hvm hw hB hz1 hk1 hS => ?_)
    obtain ⟨nw_13, nx_14⟩ := u
    obtain ⟨q15, q16, hP1, -, hD1⟩ := hB
    have hw := And.intro hw trivial
    try dsimp only at hw
    have hw := hw.1
    rw [ht] at hP1
    obtain ⟨hP, hD⟩ := va_join (wr := [(aH, .inl (cI, 34, .inl hd)), (aL, .inl (cI, 34, .inl la))]) (w1 := [(cv, .inr (0, [.ref q15, .ref q16, .int glm, .int rom, .int hel])), (q15, .inl (cI, 90, .inl nw_13)), (q16, .inl (cI, 90, .inl nx_14))]) hP hD [2, 3, 4] [0, 1] rfl rfl (by decide) (by decide) hk1 hFc hP1 hD1
    generalize H1 = H at hP hS ⊢
    have hP : va_P (dC, dI) vwCl [(aH, .inl (cI, 34, .inl hd)), (aL, .inl (cI, 34, .inl la)), (cv, .inr (0, [.ref q15, .ref q16, .int glm, .int rom, .int hel])), (q15, .inl (cI, 90, .inl nw_13)), (q16, .inl (cI, 90, .inl nx_14))] H := hP
    have hD : va_D A [(aH, .inl (cI, 34, .inl hd)), (aL, .inl (cI, 34, .inl la)), (cv, .inr (0, [.ref q15, .ref q16, .int glm, .int rom, .int hel])), (q15, .inl (cI, 90, .inl nw_13)), (q16, .inl (cI, 90, .inl nx_14))] := hD
    refine lv_iinc (v := v4 + 1) (lv' := [(4, .int (v4 + 1)), (0, .ref cv), (1, .ref aH), (2, .ref aL)]) hx hb dX0_mostHeld_74 hl (k := 3) rfl rfl (by decide) rfl (fun ls hl => ?_)
    refine lv_goto (tgt := 31) hx hb dX0_mostHeld_77 (by decide) ?_
    exact hK31 (v4 + 1) glm rom hel nw_13 nx_14 q15 q16 _ _ _ hw hP hD hS (lv_sub hl [1, 2, 3, 0] rfl)
  have L31 : ∀ (n : Nat), ∀ (v4 : Int32) (glm : Int32) (rom : Int32) (hel : Int32) (nw : (Nat → Int32)) (nx : (Nat → Int32)) (aN aX : Nat) (H : Heap) (locs : List Loc) (ls : Array Slot), w_X0_mostHeld_b31 post hd la p0 n v4 glm rom hel nw nx → va_P (dC, dI) vwCl [(aH, .inl (cI, 34, .inl hd)), (aL, .inl (cI, 34, .inl la)), (cv, .inr (0, [.ref aN, .ref aX, .int glm, .int rom, .int hel])), (aN, .inl (cI, 90, .inl nw)), (aX, .inl (cI, 90, .inl nx))] H → va_D A [(aH, .inl (cI, 34, .inl hd)), (aL, .inl (cI, 34, .inl la)), (cv, .inr (0, [.ref aN, .ref aX, .int glm, .int rom, .int hel])), (aN, .inl (cI, 90, .inl nw)), (aX, .inl (cI, 90, .inl nx))] → va_S A s.heap H locs → lv_has ls 6 [(0, .ref cv), (1, .ref aH), (2, .ref aL), (4, .int v4)] → W p l e ({ frames := 5, cells := 0, slots := 0, locals := 115 } : Room) s m ([.ref cv, .ref aH, .ref aL, .int p0] : List Value).toArray below meth c H locs 0 0 Q9 (F0 m 31 ls []) := by
    intro n
    induction n with
    | zero => intro v4 glm rom hel nw nx aN aX H locs ls hw _ _ _ _; exact False.elim hw
    | succ n ih =>
      intro v4 glm rom hel nw nx aN aX H locs ls hw hP hD hS hl
      refine lv_iload hx hb dX0_mostHeld_31 (lv_at hl 3 rfl) ?_
      refine lv_bipush (v := 34) hx hb dX0_mostHeld_33 (by decide) ?_
      refine lv_icmp_ge (tgt := 80) hx hb dX0_mostHeld_35 (by decide) (fun c4 => ?_) (fun c4 => ?_)
      · have hw := hw.1 c4
        exact L80 glm rom hel nw nx aN aX _ _ _ hw hP hD hS (lv_sub hl [0] rfl)
      · have hw := hw.2 c4
        refine lv_aload_n hx hb dX0_mostHeld_38 rfl (lv_at hl 0 rfl) ?_
        refine lv_iconst (v := 4) hx hb dX0_mostHeld_39 (by decide) ?_
        refine lv_aload_n hx hb dX0_mostHeld_40 rfl (lv_at hl 2 rfl) ?_
        refine lv_iload hx hb dX0_mostHeld_41 (lv_at hl 3 rfl) ?_
        obtain ⟨h8, hw⟩ := hw
        refine va_iald hx hb hK hP 1 0 rfl rfl h8 dX0_mostHeld_43 ?_
        refine lv_isub hx hb dX0_mostHeld_44 ?_
        refine lv_topi (fun t9 et9 => ?_)
        have hw := hw t9 et9
        refine va_put (D := (dC, dI)) (ci := 0) (v := .int t9) (ty := .int) (C := RX0) (T := TX0) (N := 5) hx hb hts hinX0 tyX0 tyX0_ok nmX0 hown hK hP hD hS 2 rfl rfl 3 (by decide) (hts (.fieldLink RX0 37 "TileHand$Cover" "room" "I") (by decide +kernel)) (fun _ h9 => h9) rfl (by decide +kernel) rfl rfl (Nat.le_of_ble_eq_true rfl) dX0_mostHeld_45 (fun H locs hP hD hS => ?_)
        have hP : va_P (dC, dI) vwCl [(aH, .inl (cI, 34, .inl hd)), (aL, .inl (cI, 34, .inl la)), (cv, .inr (0, [.ref aN, .ref aX, .int glm, .int t9, .int hel])), (aN, .inl (cI, 90, .inl nw)), (aX, .inl (cI, 90, .inl nx))] H := hP
        have hD : va_D A [(aH, .inl (cI, 34, .inl hd)), (aL, .inl (cI, 34, .inl la)), (cv, .inr (0, [.ref aN, .ref aX, .int glm, .int t9, .int hel])), (aN, .inl (cI, 90, .inl nw)), (aX, .inl (cI, 90, .inl nx))] := hD
        refine lv_aload_n hx hb dX0_mostHeld_48 rfl (lv_at hl 0 rfl) ?_
        refine lv_aload_n hx hb dX0_mostHeld_49 rfl (lv_at hl 1 rfl) ?_
        refine lv_iload hx hb dX0_mostHeld_50 (lv_at hl 3 rfl) ?_
        obtain ⟨h10, hw⟩ := hw
        refine va_iald hx hb hK hP 0 0 rfl rfl h10 dX0_mostHeld_52 ?_
        refine va_put (D := (dC, dI)) (ci := 0) (v := .int (hd v4.toNatClampNeg)) (ty := .int) (C := RX0) (T := TX0) (N := 5) hx hb hts hinX0 tyX0 tyX0_ok nmX0 hown hK hP hD hS 2 rfl rfl 4 (by decide) (hts (.fieldLink RX0 40 "TileHand$Cover" "held" "I") (by decide +kernel)) (fun _ h9 => h9) rfl (by decide +kernel) rfl rfl (Nat.le_of_ble_eq_true rfl) dX0_mostHeld_53 (fun H locs hP hD hS => ?_)
        have hP : va_P (dC, dI) vwCl [(aH, .inl (cI, 34, .inl hd)), (aL, .inl (cI, 34, .inl la)), (cv, .inr (0, [.ref aN, .ref aX, .int glm, .int t9, .int (hd v4.toNatClampNeg)])), (aN, .inl (cI, 90, .inl nw)), (aX, .inl (cI, 90, .inl nx))] H := hP
        have hD : va_D A [(aH, .inl (cI, 34, .inl hd)), (aL, .inl (cI, 34, .inl la)), (cv, .inr (0, [.ref aN, .ref aX, .int glm, .int t9, .int (hd v4.toNatClampNeg)])), (aN, .inl (cI, 90, .inl nw)), (aX, .inl (cI, 90, .inl nx))] := hD
        refine lv_aload_n hx hb dX0_mostHeld_56 rfl (lv_at hl 0 rfl) ?_
        refine lv_aload_n hx hb dX0_mostHeld_57 rfl (lv_at hl 1 rfl) ?_
        refine lv_iload hx hb dX0_mostHeld_58 (lv_at hl 3 rfl) ?_
        have hPc := hP.sub (ws' := [(aH, .inl (cI, 34, .inl hd))]) [0] rfl
        have hDc := hD.sub (ws' := [(aH, .inl (cI, 34, .inl hd))]) [0] (by decide) rfl
        have hFc := va_free (wc := [(aH, .inl (cI, 34, .inl hd))]) hD hS hA [0] rfl
        refine va_calli (va_runS (As := [.ref aH, .int v4]) (rest := [.ref cv]) ⟨hx, hb, hml, hown, hts⟩ (c_X0_canRow l dC dI cI cZ aH H.size hd v4 _ hw) (va_cwS 2 hts gX0_mostHeld_X0_canRow rfl rfl rfl (by decide +kernel) ⟨Nat.le_of_ble_eq_true rfl, Nat.le_of_ble_eq_true rfl⟩) ⟨fun a U g mk q => by obtain ⟨q0, q1, qP, qK, qD, qN⟩ := q; exact ⟨q0, q1, qP, va_K.moved (u := U) (U := U.calling g mk a) (Vm.Alike.refl U.vm) qK, qD, va_Nw.same rfl rfl qN⟩, fun U hU hW => ⟨rfl, by rw [hU], by rw [hU]; exact hPc, va_K.moved hW.alike hK, hDc.weaken (fun _ _ _ _ => trivial), va_Nw.warmM hW hnk⟩⟩ rfl rfl hl.1 rfl (lv_room (Nat.le_of_ble_eq_true rfl)) dX0_mostHeld_60 ⟨Nat.le_of_ble_eq_true rfl, Nat.le_of_ble_eq_true rfl⟩) hS (fun q _ h => hFc q h) hFc (fun r11 u t H1 locs ht hvm hw hB hz1 hk1 hS => ?_)
        obtain ⟨hP1, -, hD1⟩ := hB
        have hw := And.intro hw trivial
        try dsimp only at hw
        have hw := hw.1
        rw [ht] at hP1
        obtain ⟨hP, hD⟩ := va_join (wr := [(aL, .inl (cI, 34, .inl la)), (cv, .inr (0, [.ref aN, .ref aX, .int glm, .int t9, .int (hd v4.toNatClampNeg)])), (aN, .inl (cI, 90, .inl nw)), (aX, .inl (cI, 90, .inl nx))]) (w1 := [(aH, .inl (cI, 34, .inl hd))]) hP hD [0] [1, 2, 3, 4] rfl rfl (by decide) (by decide) hk1 hFc hP1 hD1
        generalize H1 = H at hP hS ⊢
        have hP : va_P (dC, dI) vwCl [(aL, .inl (cI, 34, .inl la)), (cv, .inr (0, [.ref aN, .ref aX, .int glm, .int t9, .int (hd v4.toNatClampNeg)])), (aN, .inl (cI, 90, .inl nw)), (aX, .inl (cI, 90, .inl nx)), (aH, .inl (cI, 34, .inl hd))] H := hP
        have hD : va_D A [(aL, .inl (cI, 34, .inl la)), (cv, .inr (0, [.ref aN, .ref aX, .int glm, .int t9, .int (hd v4.toNatClampNeg)])), (aN, .inl (cI, 90, .inl nw)), (aX, .inl (cI, 90, .inl nx)), (aH, .inl (cI, 34, .inl hd))] := hD
        refine lv_if_eq (tgt := 70) hx hb dX0_mostHeld_63 (by decide) (fun c12 => ?_) (fun c12 => ?_)
        · have hw := hw.1 c12
          refine lv_iconst (v := 0) hx hb dX0_mostHeld_70 (by decide) ?_
          have hP9 := hP.sub (ws' := [(aH, .inl (cI, 34, .inl hd)), (aL, .inl (cI, 34, .inl la)), (cv, .inr (0, [.ref aN, .ref aX, .int glm, .int t9, .int (hd v4.toNatClampNeg)])), (aN, .inl (cI, 90, .inl nw)), (aX, .inl (cI, 90, .inl nx))]) [4, 0, 1, 2, 3] rfl
          have hD9 := hD.sub (ws' := [(aH, .inl (cI, 34, .inl hd)), (aL, .inl (cI, 34, .inl la)), (cv, .inr (0, [.ref aN, .ref aX, .int glm, .int t9, .int (hd v4.toNatClampNeg)])), (aN, .inl (cI, 90, .inl nw)), (aX, .inl (cI, 90, .inl nx))]) [4, 0, 1, 2, 3] (by decide) rfl
          exact L71 (w_X0_mostHeld_b31 post hd la p0 n) ih v4 (0 : Int32) glm t9 (hd v4.toNatClampNeg) nw nx aN aX _ _ _ hw hP9 hD9 hS (lv_sub hl [0, 1, 2, 3] rfl)
        · have hw := hw.2 c12
          refine lv_iconst (v := 2) hx hb dX0_mostHeld_66 (by decide) ?_
          refine lv_goto (tgt := 71) hx hb dX0_mostHeld_67 (by decide) ?_
          have hP9 := hP.sub (ws' := [(aH, .inl (cI, 34, .inl hd)), (aL, .inl (cI, 34, .inl la)), (cv, .inr (0, [.ref aN, .ref aX, .int glm, .int t9, .int (hd v4.toNatClampNeg)])), (aN, .inl (cI, 90, .inl nw)), (aX, .inl (cI, 90, .inl nx))]) [4, 0, 1, 2, 3] rfl
          have hD9 := hD.sub (ws' := [(aH, .inl (cI, 34, .inl hd)), (aL, .inl (cI, 34, .inl la)), (cv, .inr (0, [.ref aN, .ref aX, .int glm, .int t9, .int (hd v4.toNatClampNeg)])), (aN, .inl (cI, 90, .inl nw)), (aX, .inl (cI, 90, .inl nx))]) [4, 0, 1, 2, 3] (by decide) rfl
          exact L71 (w_X0_mostHeld_b31 post hd la p0 n) ih v4 (2 : Int32) glm t9 (hd v4.toNatClampNeg) nw nx aN aX _ _ _ hw hP9 hD9 hS (lv_sub hl [0, 1, 2, 3] rfl)
  refine lv_aload_n hx hb dX0_mostHeld_0 rfl (lv_at hl 0 rfl) ?_
  refine lv_iconst (v := 0) hx hb dX0_mostHeld_1 (by decide) ?_
  refine lv_iload_n hx hb dX0_mostHeld_2 rfl (lv_at hl 3 rfl) ?_
  refine lv_iconst (v := 4) hx hb dX0_mostHeld_3 (by decide) ?_
  refine va_mmin hx hb (hml.trans hl.1.symm) hown (hts (.methodLink RX0 18 Lib.Math.min.name) (by decide +kernel)) (hts (.static Lib.Math.min.name) (by decide +kernel)) (hts (.initialized "java/lang/Math") (by decide +kernel)) (hts (.code Lib.Math.min.name Lib.Math.min.code 2 (some .int)) (by decide +kernel)) (Nat.le_of_ble_eq_true rfl) (Nat.le_of_ble_eq_true rfl) (Nat.le_of_ble_eq_true rfl) (Nat.le_of_ble_eq_true rfl) dX0_mostHeld_4 ?_
  refine va_mmax hx hb (hml.trans hl.1.symm) hown (hts (.methodLink RX0 24 Lib.Math.max.name) (by decide +kernel)) (hts (.static Lib.Math.max.name) (by decide +kernel)) (hts (.initialized "java/lang/Math") (by decide +kernel)) (hts (.code Lib.Math.max.name Lib.Math.max.code 2 (some .int)) (by decide +kernel)) (Nat.le_of_ble_eq_true rfl) (Nat.le_of_ble_eq_true rfl) (Nat.le_of_ble_eq_true rfl) (Nat.le_of_ble_eq_true rfl) dX0_mostHeld_7 ?_
  refine lv_topi (fun t1 et1 => ?_)
  have hw := hw t1 et1
  refine va_put (D := (dC, dI)) (ci := 0) (v := .int t1) (ty := .int) (C := RX0) (T := TX0) (N := 5) hx hb hts hinX0 tyX0 tyX0_ok nmX0 hown hK hP hD hS 2 rfl rfl 2 (by decide) (hts (.fieldLink RX0 27 "TileHand$Cover" "groupLimit" "I") (by decide +kernel)) (fun _ h9 => h9) rfl (by decide +kernel) rfl rfl (Nat.le_of_ble_eq_true rfl) dX0_mostHeld_10 (fun H locs hP hD hS => ?_)
  have hP : va_P (dC, dI) vwCl [(aH, .inl (cI, 34, .inl hd)), (aL, .inl (cI, 34, .inl la)), (cv, .inr (0, [.ref aN, .ref aX, .int t1, .int rom, .int hel])), (aN, .inl (cI, 90, .inl nw)), (aX, .inl (cI, 90, .inl nx))] H := hP
  have hD : va_D A [(aH, .inl (cI, 34, .inl hd)), (aL, .inl (cI, 34, .inl la)), (cv, .inr (0, [.ref aN, .ref aX, .int t1, .int rom, .int hel])), (aN, .inl (cI, 90, .inl nw)), (aX, .inl (cI, 90, .inl nx))] := hD
  refine lv_aload_n hx hb dX0_mostHeld_13 rfl (lv_at hl 0 rfl) ?_
  refine va_get (D := (dC, dI)) (ci := 0) (v := .ref aN) (C := RX0) (T := TX0) (N := 5) hx hb hts hinX0 hown hK hP 2 rfl rfl 0 (by decide) (hts (.fieldLink RX0 11 "TileHand$Cover" "now" "[I") (by decide +kernel)) (fun _ h9 => h9) rfl dX0_mostHeld_14 ?_
  refine lv_iconst (v := -1) hx hb dX0_mostHeld_17 (by decide) ?_
  have hPc := hP.sub (ws' := [(aN, .inl (cI, 90, .inl nw))]) [3] rfl
  have hDc := hD.sub (ws' := [(aN, .inl (cI, 90, .inl nw))]) [3] (by decide) rfl
  have hFc := va_free (wc := [(aN, .inl (cI, 90, .inl nw))]) hD hS hA [3] rfl
  refine va_callv (va_runS (As := [.ref aN, .int (-1 : Int32)]) (rest := []) ⟨hx, hb, hml, hown, hts⟩ (c_J7_fill_53178 l dC dI cI cZ aN 90 H.size nw (-1 : Int32) _ hw) (va_cwS 2 hts gX0_mostHeld_J7_fill_53178 rfl rfl rfl (by decide +kernel) ⟨Nat.le_of_ble_eq_true rfl, Nat.le_of_ble_eq_true rfl⟩) ⟨fun a U g mk q => by obtain ⟨q0, q1, qP, qK, qD⟩ := q; exact ⟨q0, q1, qP, va_K.moved (u := U) (U := U.calling g mk a) (Vm.Alike.refl U.vm) qK, qD⟩, fun U hU hW => ⟨rfl, by rw [hU], by rw [hU]; exact hPc, va_K.moved hW.alike hK, hDc.weaken (fun _ _ _ _ => trivial)⟩⟩ rfl rfl hl.1 rfl (lv_room (Nat.le_of_ble_eq_true rfl)) dX0_mostHeld_18 ⟨Nat.le_of_ble_eq_true rfl, Nat.le_of_ble_eq_true rfl⟩) hS (fun q _ h => hFc q h) hFc (fun u t H1 locs ht hvm hw hB hz1 hk1 hS => ?_)
  obtain ⟨ff_2, rfl⟩ : ∃ z, z = u := ⟨_, rfl⟩
  obtain ⟨hP1, -, hD1⟩ := hB
  have hw := And.intro hw trivial
  try dsimp only at hw
  have hw := hw.1
  rw [ht] at hP1
  obtain ⟨hP, hD⟩ := va_join (wr := [(aH, .inl (cI, 34, .inl hd)), (aL, .inl (cI, 34, .inl la)), (cv, .inr (0, [.ref aN, .ref aX, .int t1, .int rom, .int hel])), (aX, .inl (cI, 90, .inl nx))]) (w1 := [(aN, .inl (cI, 90, .inl ff_2))]) hP hD [3] [0, 1, 2, 4] rfl rfl (by decide) (by decide) hk1 hFc hP1 hD1
  generalize H1 = H at hP hS ⊢
  have hP : va_P (dC, dI) vwCl [(aH, .inl (cI, 34, .inl hd)), (aL, .inl (cI, 34, .inl la)), (cv, .inr (0, [.ref aN, .ref aX, .int t1, .int rom, .int hel])), (aX, .inl (cI, 90, .inl nx)), (aN, .inl (cI, 90, .inl ff_2))] H := hP
  have hD : va_D A [(aH, .inl (cI, 34, .inl hd)), (aL, .inl (cI, 34, .inl la)), (cv, .inr (0, [.ref aN, .ref aX, .int t1, .int rom, .int hel])), (aX, .inl (cI, 90, .inl nx)), (aN, .inl (cI, 90, .inl ff_2))] := hD
  refine lv_aload_n hx hb dX0_mostHeld_21 rfl (lv_at hl 0 rfl) ?_
  refine va_get (D := (dC, dI)) (ci := 0) (v := .ref aN) (C := RX0) (T := TX0) (N := 5) hx hb hts hinX0 hown hK hP 2 rfl rfl 0 (by decide) (hts (.fieldLink RX0 11 "TileHand$Cover" "now" "[I") (by decide +kernel)) (fun _ h9 => h9) rfl dX0_mostHeld_22 ?_
  refine lv_iconst (v := 0) hx hb dX0_mostHeld_25 (by decide) ?_
  refine lv_iconst (v := 0) hx hb dX0_mostHeld_26 (by decide) ?_
  obtain ⟨h3, hw⟩ := hw
  refine va_iast hx hb hK hP hD hS 4 0 rfl rfl h3 dX0_mostHeld_27 (fun H locs hP hD hS => ?_)
  have hP : va_P (dC, dI) vwCl [(aH, .inl (cI, 34, .inl hd)), (aL, .inl (cI, 34, .inl la)), (cv, .inr (0, [.ref aN, .ref aX, .int t1, .int rom, .int hel])), (aX, .inl (cI, 90, .inl nx)), (aN, .inl (cI, 90, .inl (upd ff_2 (0 : Int32).toNatClampNeg (0 : Int32))))] H := hP
  have hD : va_D A [(aH, .inl (cI, 34, .inl hd)), (aL, .inl (cI, 34, .inl la)), (cv, .inr (0, [.ref aN, .ref aX, .int t1, .int rom, .int hel])), (aX, .inl (cI, 90, .inl nx)), (aN, .inl (cI, 90, .inl (upd ff_2 (0 : Int32).toNatClampNeg (0 : Int32))))] := hD
  refine lv_iconst (v := 0) hx hb dX0_mostHeld_28 (by decide) ?_
  refine lv_istore (lv' := [(4, .int (0 : Int32)), (0, .ref cv), (1, .ref aH), (2, .ref aL), (3, .int p0)]) hx hb dX0_mostHeld_29 hl (by decide) rfl (fun ls hl => ?_)
  have hP9 := hP.sub (ws' := [(aH, .inl (cI, 34, .inl hd)), (aL, .inl (cI, 34, .inl la)), (cv, .inr (0, [.ref aN, .ref aX, .int t1, .int rom, .int hel])), (aN, .inl (cI, 90, .inl (upd ff_2 (0 : Int32).toNatClampNeg (0 : Int32)))), (aX, .inl (cI, 90, .inl nx))]) [0, 1, 2, 4, 3] rfl
  have hD9 := hD.sub (ws' := [(aH, .inl (cI, 34, .inl hd)), (aL, .inl (cI, 34, .inl la)), (cv, .inr (0, [.ref aN, .ref aX, .int t1, .int rom, .int hel])), (aN, .inl (cI, 90, .inl (upd ff_2 (0 : Int32).toNatClampNeg (0 : Int32)))), (aX, .inl (cI, 90, .inl nx))]) [0, 1, 2, 4, 3] (by decide) rfl
  obtain ⟨n9, hw⟩ := hw
  exact L31 n9 (0 : Int32) t1 rom hel (upd ff_2 (0 : Int32).toNatClampNeg (0 : Int32)) nx aN aX _ _ _ hw hP9 hD9 hS (lv_sub hl [1, 2, 3, 0] rfl)

def w_X1_addTiles (tcn : Int32) (hd : (Nat → Int32)) (p0 : Int32) (p1 : Int32) (post : Int32 → (Nat → Int32) → Prop) : Prop := vp_in p0 34 ∧ (vp_in p0 34 ∧ (post (tcn + p1) (upd hd p0.toNatClampNeg ((hd p0.toNatClampNeg) + p1))))

set_option maxHeartbeats 4000000 in
set_option maxRecDepth 100000 in
theorem c_X1_addTiles (l : Launch) (dC : Nat → ClassId) (dI : Nat → Nat → Nat) (cI cZ : ClassId) (x : Nat) (aH : Nat) (aL : Nat) (aS : Nat) (aO : Nat) (aK : Nat) (aZ : Nat) (cv : Nat) (sz : Nat) (tcn : Int32) (mcn : Int32) (swd : Int32) (rwd : Int32) (bpt : Int32) (flm : Int32) (hd : (Nat → Int32)) (p0 : Int32) (p1 : Int32) (post : Int32 → (Nat → Int32) → Prop) (hw : w_X1_addTiles tcn hd p0 p1 post) : Met l yX1_addTiles wsX1_addTiles ({ frames := 0, cells := 0, slots := 0, locals := 0 } : Room) (va_Pc [.ref x, .int p0, .int p1] (fun U => U.heap.size = sz ∧ va_P (dC, dI) vwCl [(x, .inr (1, [.ref aH, .ref aL, .ref aS, .ref aO, .ref aK, .ref aZ, .ref cv, .int tcn, .int mcn, .int swd, .int rwd, .int bpt, .int flm])), (aH, .inl (cI, 34, .inl hd))] U.heap ∧ va_K (dC, dI) vwCl [(cI, .int), (cZ, .boolean)] U ∧ va_D (fun _ => True) [(x, .inr (1, [.ref aH, .ref aL, .ref aS, .ref aO, .ref aK, .ref aZ, .ref cv, .int tcn, .int mcn, .int swd, .int rwd, .int bpt, .int flm])), (aH, .inl (cI, 34, .inl hd))])) (va_Qv (fun (u9 : Int32 × (Nat → Int32)) => post u9.1 u9.2) (fun (u9 : Int32 × (Nat → Int32)) (t9 : State) => va_P (dC, dI) vwCl [(x, .inr (1, [.ref aH, .ref aL, .ref aS, .ref aO, .ref aK, .ref aZ, .ref cv, .int u9.1, .int mcn, .int swd, .int rwd, .int bpt, .int flm])), (aH, .inl (cI, 34, .inl u9.2))] t9.heap ∧ va_K (dC, dI) vwCl [(cI, .int), (cZ, .boolean)] t9 ∧ va_D (va_A [(x, .inr (1, [.ref aH, .ref aL, .ref aS, .ref aO, .ref aK, .ref aZ, .ref cv, .int tcn, .int mcn, .int swd, .int rwd, .int bpt, .int flm])), (aH, .inl (cI, 34, .inl hd))] sz) [(x, .inr (1, [.ref aH, .ref aL, .ref aS, .ref aO, .ref aK, .ref aZ, .ref cv, .int u9.1, .int mcn, .int swd, .int rwd, .int bpt, .int flm])), (aH, .inl (cI, 34, .inl u9.2))]) (va_A [(x, .inr (1, [.ref aH, .ref aL, .ref aS, .ref aO, .ref aK, .ref aZ, .ref cv, .int tcn, .int mcn, .int swd, .int rwd, .int bpt, .int flm])), (aH, .inl (cI, 34, .inl hd))] sz)) 0 0 (va_A [(x, .inr (1, [.ref aH, .ref aL, .ref aS, .ref aO, .ref aK, .ref aZ, .ref cv, .int tcn, .int mcn, .int swd, .int rwd, .int bpt, .int flm])), (aH, .inl (cI, 34, .inl hd))] sz) := by
  refine Met.ofW (cc := cX1_addTiles) (maxL := 3) (ret := none) (by decide) rfl ?_
  intro p e s m args below meth c s₁ B hml hv
  obtain ⟨rfl, hsz, hP, hK, hD0⟩ := hv
  have hx := B.exec
  have hb := B.bytes
  have hr := B.returns
  have hts := atoms_spec (ws := wsX1_addTiles) B.pre
  have hown : s.vm.findClass RX1 = some m.cls := findClass_of_methodNamed B.named
  have hlocks := B.notSynchronized
  have hinX1 : ∀ w ∈ u_ws RX1 TX1 13, w ∈ wsX1_addTiles := by decide +kernel
  subst hsz
  have hD := hD0.self (sz := s.heap.size)
  generalize hAe : va_A [(x, .inr (1, [.ref aH, .ref aL, .ref aS, .ref aO, .ref aK, .ref aZ, .ref cv, .int tcn, .int mcn, .int swd, .int rwd, .int bpt, .int flm])), (aH, .inl (cI, 34, .inl hd))] s.heap.size = A at hD ⊢
  have hA : ∀ q : Nat, s.heap.size ≤ q → A q := fun q h => by rw [← hAe]; exact Or.inr h
  have hS : va_S A s.heap s.heap [] := va_S.rf
  have hl := lv_entry ([.ref x, .int p0, .int p1]) (n := 3) (Nat.le_of_ble_eq_true rfl)
  rw [lg_entry_eq]
  generalize (lg_sl ([.ref x, .int p0, .int p1]) ++ List.replicate (3 - (lg_sl ([.ref x, .int p0, .int p1])).length) Slot.unset).toArray = ls at hl ⊢
  have hl : lv_has ls 3 [(0, .ref x), (1, .int p0), (2, .int p1)] := hl
  refine (?_ : ∀ Q9 : State → Prop, MQ below _ _ s _ _ _ = Q9 → W p l e ({ frames := 0, cells := 0, slots := 0, locals := 0 } : Room) s m _ below meth c s.heap [] 0 0 Q9 (F0 m 0 ls [])) _ rfl
  intro Q9 hQ9
  have hw : vp_in p0 34 ∧ (vp_in p0 34 ∧ (post (tcn + p1) (upd hd p0.toNatClampNeg ((hd p0.toNatClampNeg) + p1)))) := hw
  refine lv_aload_n hx hb dX1_addTiles_0 rfl (lv_at hl 0 rfl) ?_
  refine va_get (D := (dC, dI)) (ci := 1) (v := .ref aH) (C := RX1) (T := TX1) (N := 13) hx hb hts hinX1 hown hK hP 0 rfl rfl 0 (by decide) (hts (.fieldLink RX1 9 "TileHand" "hand" "[I") (by decide +kernel)) (fun _ h9 => h9) rfl dX1_addTiles_1 ?_
  refine lv_iload_n hx hb dX1_addTiles_4 rfl (lv_at hl 1 rfl) ?_
  refine lv_dup2_11 hx hb dX1_addTiles_5 rfl rfl ?_
  obtain ⟨h1, hw⟩ := hw
  refine va_iald hx hb hK hP 1 0 rfl rfl h1 dX1_addTiles_6 ?_
  refine lv_iload_n hx hb dX1_addTiles_7 rfl (lv_at hl 2 rfl) ?_
  refine lv_iadd hx hb dX1_addTiles_8 ?_
  obtain ⟨h2, hw⟩ := hw
  refine va_iast hx hb hK hP hD hS 1 0 rfl rfl h2 dX1_addTiles_9 (fun H locs hP hD hS => ?_)
  have hP : va_P (dC, dI) vwCl [(x, .inr (1, [.ref aH, .ref aL, .ref aS, .ref aO, .ref aK, .ref aZ, .ref cv, .int tcn, .int mcn, .int swd, .int rwd, .int bpt, .int flm])), (aH, .inl (cI, 34, .inl (upd hd p0.toNatClampNeg ((hd p0.toNatClampNeg) + p1))))] H := hP
  have hD : va_D A [(x, .inr (1, [.ref aH, .ref aL, .ref aS, .ref aO, .ref aK, .ref aZ, .ref cv, .int tcn, .int mcn, .int swd, .int rwd, .int bpt, .int flm])), (aH, .inl (cI, 34, .inl (upd hd p0.toNatClampNeg ((hd p0.toNatClampNeg) + p1))))] := hD
  refine lv_aload_n hx hb dX1_addTiles_10 rfl (lv_at hl 0 rfl) ?_
  refine lv_dup hx hb dX1_addTiles_11 rfl ?_
  refine va_get (D := (dC, dI)) (ci := 1) (v := .int tcn) (C := RX1) (T := TX1) (N := 13) hx hb hts hinX1 hown hK hP 0 rfl rfl 7 (by decide) (hts (.fieldLink RX1 111 "TileHand" "tileCount" "I") (by decide +kernel)) (fun _ h9 => h9) rfl dX1_addTiles_12 ?_
  refine lv_iload_n hx hb dX1_addTiles_15 rfl (lv_at hl 2 rfl) ?_
  refine lv_iadd hx hb dX1_addTiles_16 ?_
  refine va_put (D := (dC, dI)) (ci := 1) (v := .int (tcn + p1)) (ty := .int) (C := RX1) (T := TX1) (N := 13) hx hb hts hinX1 tyX1 tyX1_ok nmX1 hown hK hP hD hS 0 rfl rfl 7 (by decide) (hts (.fieldLink RX1 111 "TileHand" "tileCount" "I") (by decide +kernel)) (fun _ h9 => h9) rfl (by decide +kernel) rfl rfl (Nat.le_of_ble_eq_true rfl) dX1_addTiles_17 (fun H locs hP hD hS => ?_)
  have hP : va_P (dC, dI) vwCl [(x, .inr (1, [.ref aH, .ref aL, .ref aS, .ref aO, .ref aK, .ref aZ, .ref cv, .int (tcn + p1), .int mcn, .int swd, .int rwd, .int bpt, .int flm])), (aH, .inl (cI, 34, .inl (upd hd p0.toNatClampNeg ((hd p0.toNatClampNeg) + p1))))] H := hP
  have hD : va_D A [(x, .inr (1, [.ref aH, .ref aL, .ref aS, .ref aO, .ref aK, .ref aZ, .ref cv, .int (tcn + p1), .int mcn, .int swd, .int rwd, .int bpt, .int flm])), (aH, .inl (cI, 34, .inl (upd hd p0.toNatClampNeg ((hd p0.toNatClampNeg) + p1))))] := hD
  rw [← hQ9]
  exact W.vret hx hb hr (fun t ht hW => ⟨⟨(tcn + p1, upd hd p0.toNatClampNeg ((hd p0.toNatClampNeg) + p1)), rfl, hw, by rw [ht]; exact hP, va_K.moved hW.alike hK, hD⟩, hS.F ht⟩) hS.2.2 dX1_addTiles_20

def w_X1_isKind (p0 : Int32) (post : Int32 → Prop) : Prop := ((p0 < 0 → (post (0 : Int32))) ∧ (¬ p0 < 0 → ((((34 : Int32) ≤ p0 → (post (0 : Int32))) ∧ (¬ (34 : Int32) ≤ p0 → (post (1 : Int32)))))))

set_option maxHeartbeats 4000000 in
set_option maxRecDepth 100000 in
theorem c_X1_isKind (l : Launch) (dC : Nat → ClassId) (dI : Nat → Nat → Nat) (cI cZ : ClassId) (sz : Nat) (p0 : Int32) (post : Int32 → Prop) (hw : w_X1_isKind p0 post) : Met l yX1_isKind wsX1_isKind ({ frames := 0, cells := 0, slots := 0, locals := 0 } : Room) (va_Pc [.int p0] (fun U => U.heap.size = sz ∧ va_P (dC, dI) vwCl [] U.heap ∧ va_K (dC, dI) vwCl [(cI, .int), (cZ, .boolean)] U ∧ va_D (fun _ => True) [])) (va_Qi (fun (r9 : Int32) (u9 : Unit) => post r9) (fun (u9 : Unit) (t9 : State) => va_P (dC, dI) vwCl [] t9.heap ∧ va_K (dC, dI) vwCl [(cI, .int), (cZ, .boolean)] t9 ∧ va_D (va_A [] sz) []) (va_A [] sz)) 0 0 (va_A [] sz) := by
  refine Met.ofW (cc := cX1_isKind) (maxL := 1) (ret := (some .boolean)) (by decide) rfl ?_
  intro p e s m args below meth c s₁ B hml hv
  obtain ⟨rfl, hsz, hP, hK, hD0⟩ := hv
  have hx := B.exec
  have hb := B.bytes
  have hr := B.returns
  have hts := atoms_spec (ws := wsX1_isKind) B.pre
  have hown : s.vm.findClass RX1 = some m.cls := findClass_of_methodNamed B.named
  have hlocks := B.notSynchronized
  subst hsz
  have hD := hD0.self (sz := s.heap.size)
  generalize hAe : va_A [] s.heap.size = A at hD ⊢
  have hA : ∀ q : Nat, s.heap.size ≤ q → A q := fun q h => by rw [← hAe]; exact Or.inr h
  have hS : va_S A s.heap s.heap [] := va_S.rf
  have hl := lv_entry ([.int p0]) (n := 1) (Nat.le_of_ble_eq_true rfl)
  rw [lg_entry_eq]
  generalize (lg_sl ([.int p0]) ++ List.replicate (1 - (lg_sl ([.int p0])).length) Slot.unset).toArray = ls at hl ⊢
  have hl : lv_has ls 1 [(0, .int p0)] := hl
  refine (?_ : ∀ Q9 : State → Prop, MQ below _ _ s _ _ _ = Q9 → W p l e ({ frames := 0, cells := 0, slots := 0, locals := 0 } : Room) s m _ below meth c s.heap [] 0 0 Q9 (F0 m 0 ls [])) _ rfl
  intro Q9 hQ9
  have hw : ((p0 < 0 → (post (0 : Int32))) ∧ (¬ p0 < 0 → ((((34 : Int32) ≤ p0 → (post (0 : Int32))) ∧ (¬ (34 : Int32) ≤ p0 → (post (1 : Int32))))))) := hw
  refine lv_iload_n hx hb dX1_isKind_0 rfl (lv_at hl 0 rfl) ?_
  refine lv_if_lt (tgt := 14) hx hb dX1_isKind_1 (by decide) (fun c1 => ?_) (fun c1 => ?_)
  · have hw := hw.1 c1
    refine lv_iconst (v := 0) hx hb dX1_isKind_14 (by decide) ?_
    rw [← hQ9]
    exact W.zret (v := (0 : Int32)) hx hb hr rfl (fun t ht hW => ⟨⟨(0 : Int32), (), rfl, hw, by rw [ht]; exact hP, va_K.moved hW.alike hK, hD⟩, hS.F ht⟩) hS.2.2 dX1_isKind_15
  · have hw := hw.2 c1
    refine lv_iload_n hx hb dX1_isKind_4 rfl (lv_at hl 0 rfl) ?_
    refine lv_bipush (v := 34) hx hb dX1_isKind_5 (by decide) ?_
    refine lv_icmp_ge (tgt := 14) hx hb dX1_isKind_7 (by decide) (fun c2 => ?_) (fun c2 => ?_)
    · have hw := hw.1 c2
      refine lv_iconst (v := 0) hx hb dX1_isKind_14 (by decide) ?_
      rw [← hQ9]
      exact W.zret (v := (0 : Int32)) hx hb hr rfl (fun t ht hW => ⟨⟨(0 : Int32), (), rfl, hw, by rw [ht]; exact hP, va_K.moved hW.alike hK, hD⟩, hS.F ht⟩) hS.2.2 dX1_isKind_15
    · have hw := hw.2 c2
      refine lv_iconst (v := 1) hx hb dX1_isKind_10 (by decide) ?_
      refine lv_goto (tgt := 15) hx hb dX1_isKind_11 (by decide) ?_
      rw [← hQ9]
      exact W.zret (v := (1 : Int32)) hx hb hr rfl (fun t ht hW => ⟨⟨(1 : Int32), (), rfl, hw, by rw [ht]; exact hP, va_K.moved hW.alike hK, hD⟩, hS.F ht⟩) hS.2.2 dX1_isKind_15

def w_X1_requireKind (p0 : Int32) (post : Prop) : Prop := w_X1_isKind p0 (fun r1 => (((r1 = 0 → (False)) ∧ (¬ r1 = 0 → (post)))))

set_option maxHeartbeats 4000000 in
set_option maxRecDepth 100000 in
theorem c_X1_requireKind (l : Launch) (dC : Nat → ClassId) (dI : Nat → Nat → Nat) (cI cZ : ClassId) (sz : Nat) (p0 : Int32) (post : Prop) (hw : w_X1_requireKind p0 post) : Met l yX1_requireKind wsX1_requireKind ({ frames := 6, cells := 0, slots := 0, locals := 110 } : Room) (va_Pc [.int p0] (fun U => U.heap.size = sz ∧ va_P (dC, dI) vwCl [] U.heap ∧ va_K (dC, dI) vwCl [(cI, .int), (cZ, .boolean)] U ∧ va_D (fun _ => True) [])) (va_Qv (fun (u9 : Unit) => post) (fun (u9 : Unit) (t9 : State) => va_P (dC, dI) vwCl [] t9.heap ∧ va_K (dC, dI) vwCl [(cI, .int), (cZ, .boolean)] t9 ∧ va_D (va_A [] sz) []) (va_A [] sz)) 0 0 (va_A [] sz) := by
  refine Met.ofW (cc := cX1_requireKind) (maxL := 1) (ret := none) (by decide) rfl ?_
  intro p e s m args below meth c s₁ B hml hv
  obtain ⟨rfl, hsz, hP, hK, hD0⟩ := hv
  have hx := B.exec
  have hb := B.bytes
  have hr := B.returns
  have hts := atoms_spec (ws := wsX1_requireKind) B.pre
  have hown : s.vm.findClass RX1 = some m.cls := findClass_of_methodNamed B.named
  have hlocks := B.notSynchronized
  subst hsz
  have hD := hD0.self (sz := s.heap.size)
  generalize hAe : va_A [] s.heap.size = A at hD ⊢
  have hA : ∀ q : Nat, s.heap.size ≤ q → A q := fun q h => by rw [← hAe]; exact Or.inr h
  have hS : va_S A s.heap s.heap [] := va_S.rf
  have hl := lv_entry ([.int p0]) (n := 1) (Nat.le_of_ble_eq_true rfl)
  rw [lg_entry_eq]
  generalize (lg_sl ([.int p0]) ++ List.replicate (1 - (lg_sl ([.int p0])).length) Slot.unset).toArray = ls at hl ⊢
  have hl : lv_has ls 1 [(0, .int p0)] := hl
  refine (?_ : ∀ Q9 : State → Prop, MQ below _ _ s _ _ _ = Q9 → W p l e ({ frames := 6, cells := 0, slots := 0, locals := 110 } : Room) s m _ below meth c s.heap [] 0 0 Q9 (F0 m 0 ls [])) _ rfl
  intro Q9 hQ9
  have hw : w_X1_isKind p0 (fun r1 => (((r1 = 0 → (False)) ∧ (¬ r1 = 0 → (post))))) := hw
  refine lv_iload_n hx hb dX1_requireKind_0 rfl (lv_at hl 0 rfl) ?_
  have hPc := hP.sub (ws' := []) [] rfl
  have hDc := hD.sub (ws' := []) [] (by decide) rfl
  have hFc := va_free (wc := []) hD hS hA [] rfl
  refine va_calli (va_runS (As := [.int p0]) (rest := []) ⟨hx, hb, hml, hown, hts⟩ (c_X1_isKind l dC dI cI cZ s.heap.size p0 _ hw) (va_cwS 1 hts gX1_requireKind_X1_isKind rfl rfl rfl (by decide +kernel) ⟨Nat.le_of_ble_eq_true rfl, Nat.le_of_ble_eq_true rfl⟩) ⟨fun a U g mk q => by obtain ⟨q0, q1, qP, qK, qD⟩ := q; exact ⟨q0, q1, qP, va_K.moved (u := U) (U := U.calling g mk a) (Vm.Alike.refl U.vm) qK, qD⟩, fun U hU hW => ⟨rfl, by rw [hU], by rw [hU]; exact hPc, va_K.moved hW.alike hK, hDc.weaken (fun _ _ _ _ => trivial)⟩⟩ rfl rfl hl.1 rfl (lv_room (Nat.le_of_ble_eq_true rfl)) dX1_requireKind_1 ⟨Nat.le_of_ble_eq_true rfl, Nat.le_of_ble_eq_true rfl⟩) hS (fun q _ h => hFc q h) hFc (fun r1 u t H1 locs ht hvm hw hB hz1 hk1 hS => ?_)
  obtain ⟨hP1, -, hD1⟩ := hB
  have hw := And.intro hw trivial
  try dsimp only at hw
  have hw := hw.1
  rw [ht] at hP1
  obtain ⟨hP, hD⟩ := va_join (wr := []) (w1 := []) hP hD [] [] rfl rfl (by decide) (by decide) hk1 hFc hP1 hD1
  generalize H1 = H at hP hS ⊢
  have hP : va_P (dC, dI) vwCl [] H := hP
  have hD : va_D A [] := hD
  refine lv_if_ne (tgt := 17) hx hb dX1_requireKind_4 (by decide) (fun c2 => ?_) (fun c2 => ?_)
  · have hw := hw.2 c2
    rw [← hQ9]
    exact W.vret hx hb hr (fun t ht hW => ⟨⟨(), rfl, hw, by rw [ht]; exact hP, va_K.moved hW.alike hK, hD⟩, hS.F ht⟩) hS.2.2 dX1_requireKind_17
  · have hw := hw.1 c2
    exact False.elim hw

def w_X1_requireKind_x (p0 : Int32) (px : String → Prop) : Prop := w_X1_isKind p0 (fun r1 => (((r1 = 0 → (px "java/lang/IndexOutOfBoundsException")) ∧ (¬ r1 = 0 → (False)))))

set_option maxHeartbeats 4000000 in
set_option maxRecDepth 100000 in
theorem c_X1_requireKind_x (l : Launch) (hl9 : l.stackTraces = false) (dC : Nat → ClassId) (dI : Nat → Nat → Nat) (cI cZ : ClassId) (sz : Nat) (p0 : Int32) (px : String → Prop) (hw : w_X1_requireKind_x p0 px) : vx_Met l yX1_requireKind wsX1_requireKind ({ frames := 6, cells := 1, slots := 6, locals := 110 } : Room) (va_Pc [.int p0] (fun U => U.heap.size = sz ∧ va_P (dC, dI) vwCl [] U.heap ∧ va_K (dC, dI) vwCl [(cI, .int), (cZ, .boolean)] U ∧ va_D (fun _ => True) [] ∧ xk (va_A [] sz) U)) (va_Qv (fun (_ : Unit) => False) (fun _ _ => True) (va_A [] sz)) (vx_X (fun (u9 : String) => px u9) (fun (E9 : String) (u9 : String) (t9 : State) => E9 = u9 ∧ va_P (dC, dI) vwCl [] t9.heap ∧ va_K (dC, dI) vwCl [(cI, .int), (cZ, .boolean)] t9 ∧ va_D (va_A [] sz) []) (va_A [] sz)) 1 6 (va_A [] sz) := by
  refine vx_ofW (cc := cX1_requireKind) (maxL := 1) (ret := none) (by decide) rfl ?_
  intro p e s m args below meth c s₁ B hml hEx hv
  obtain ⟨rfl, hsz, hP, hK, hD0, hxk⟩ := hv
  have hx := B.exec
  have hb := B.bytes
  have hr := B.returns
  have hts := atoms_spec (ws := wsX1_requireKind) B.pre
  have hown : s.vm.findClass RX1 = some m.cls := findClass_of_methodNamed B.named
  have hlocks := B.notSynchronized
  subst hsz
  have hD := hD0.self (sz := s.heap.size)
  generalize hAe : va_A [] s.heap.size = A at hD hxk ⊢
  have hA : ∀ q : Nat, s.heap.size ≤ q → A q := fun q h => by rw [← hAe]; exact Or.inr h
  have hS : va_S A s.heap s.heap [] := va_S.rf
  have hl := lv_entry ([.int p0]) (n := 1) (Nat.le_of_ble_eq_true rfl)
  rw [lg_entry_eq]
  generalize (lg_sl ([.int p0]) ++ List.replicate (1 - (lg_sl ([.int p0])).length) Slot.unset).toArray = ls at hl ⊢
  have hl : lv_has ls 1 [(0, .int p0)] := hl
  refine (?_ : ∀ Q9 : State → Prop, vx_MQ below _ _ _ s _ _ _ = Q9 → W p l e ({ frames := 6, cells := 1, slots := 6, locals := 110 } : Room) s m _ below meth c s.heap [] 0 0 Q9 (F0 m 0 ls [])) _ rfl
  intro Q9 hQ9
  have hw : w_X1_isKind p0 (fun r1 => (((r1 = 0 → (px "java/lang/IndexOutOfBoundsException")) ∧ (¬ r1 = 0 → (False))))) := hw
  refine lv_iload_n hx hb dX1_requireKind_0 rfl (lv_at hl 0 rfl) ?_
  have hPc := hP.sub (ws' := []) [] rfl
  have hDc := hD.sub (ws' := []) [] (by decide) rfl
  have hFc := va_free (wc := []) hD hS hA [] rfl
  refine va_calli (va_runS (As := [.int p0]) (rest := []) ⟨hx, hb, hml, hown, hts⟩ (c_X1_isKind l dC dI cI cZ s.heap.size p0 _ hw) (va_cwS 1 hts gX1_requireKind_X1_isKind rfl rfl rfl (by decide +kernel) ⟨Nat.le_of_ble_eq_true rfl, Nat.le_of_ble_eq_true rfl⟩) ⟨fun a U g mk q => by obtain ⟨q0, q1, qP, qK, qD⟩ := q; exact ⟨q0, q1, qP, va_K.moved (u := U) (U := U.calling g mk a) (Vm.Alike.refl U.vm) qK, qD⟩, fun U hU hW => ⟨rfl, by rw [hU], by rw [hU]; exact hPc, va_K.moved hW.alike hK, hDc.weaken (fun _ _ _ _ => trivial)⟩⟩ rfl rfl hl.1 rfl (lv_room (Nat.le_of_ble_eq_true rfl)) dX1_requireKind_1 ⟨Nat.le_of_ble_eq_true rfl, Nat.le_of_ble_eq_true rfl⟩) hS (fun q _ h => hFc q h) hFc (fun r1 u t H1 locs ht hvm hw hB hz1 hk1 hS => ?_)
  obtain ⟨hP1, -, hD1⟩ := hB
  have hw := And.intro hw trivial
  try dsimp only at hw
  have hw := hw.1
  rw [ht] at hP1
  obtain ⟨hP, hD⟩ := va_join (wr := []) (w1 := []) hP hD [] [] rfl rfl (by decide) (by decide) hk1 hFc hP1 hD1
  generalize H1 = H at hP hS ⊢
  have hP : va_P (dC, dI) vwCl [] H := hP
  have hD : va_D A [] := hD
  refine lv_if_ne (tgt := 17) hx hb dX1_requireKind_4 (by decide) (fun c2 => ?_) (fun c2 => ?_)
  · have hw := hw.2 c2
    exact False.elim hw
  · have hw := hw.1 c2
    obtain ⟨sa9, hstr9⟩ := xk_s185 hxk
    rw [← hQ9]
    exact vx_throwS (own := RX1) (cls := "java/lang/IndexOutOfBoundsException") (text := "no such kind") (names := ["java/lang/RuntimeException", "java/lang/Exception"]) (A := A) hx hb hl9 hown (by decide +kernel) (by decide +kernel) (hts (.classLink RX1 114 "java/lang/IndexOutOfBoundsException") (by decide +kernel)) (hts (.initialized "java/lang/IndexOutOfBoundsException") (by decide +kernel)) hstr9 (vx_hat (L := vx_atS RX1 118 "java/lang/IndexOutOfBoundsException" ["java/lang/RuntimeException", "java/lang/Exception"]) (B := [.castable "java/lang/IndexOutOfBoundsException" "java/lang/IndexOutOfBoundsException", .declares ⟨"java/lang/RuntimeException", "<init>", "(Ljava/lang/String;)V"⟩, .declares ⟨"java/lang/Exception", "<init>", "(Ljava/lang/String;)V"⟩, .declares ⟨"java/lang/Throwable", "<init>", "(Ljava/lang/String;)V"⟩]) (fun w hw => hts w ((by decide +kernel : ∀ w ∈ (vx_atS RX1 118 "java/lang/IndexOutOfBoundsException" ["java/lang/RuntimeException", "java/lang/Exception"]).filter goodWord, w ∈ wsX1_requireKind) w hw)) (by decide +kernel) (vx_c (va_Nw.use rfl (xk_c1 hxk)) (vx_c (va_Nw.use rfl (xk_d1 hxk)) (vx_c (va_Nw.use rfl (xk_d2 hxk)) (vx_c (va_Nw.use rfl (xk_d3 hxk)) vx_n))))) (by decide +kernel) (xk_U hxk) (xk_N hxk) hS (hl.1.trans hml.symm) dX1_requireKind_7 dX1_requireKind_10 dX1_requireKind_11 dX1_requireKind_13 dX1_requireKind_16 (fun x hx => (hEx x hx).elim) (Nat.le_of_ble_eq_true rfl) (Nat.le_of_ble_eq_true rfl) (Nat.le_of_ble_eq_true rfl) (Nat.le_of_ble_eq_true rfl) hlocks (fun t ha hz hq => ⟨("java/lang/IndexOutOfBoundsException"), hw, ⟨rfl, xt_P hP hq, va_K.moved ha hK, hD⟩, xt_F hS hz hq⟩) hS.2.2 (Nat.le_of_ble_eq_true rfl) (Nat.le_of_ble_eq_true rfl)
