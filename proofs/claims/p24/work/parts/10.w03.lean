def w_X1_splitWithThree (rec9 : Int32 → Int32 → Int32 → (Nat → Int32) → (Nat → Int32) → (Nat → Int32) → Int32 → Int32 → Int32 → (Int32 → (Nat → Int32) → (Nat → Int32) → (Nat → Int32) → Prop) → Prop) (mcn : Int32) (swd : Int32) (rwd : Int32) (hd : (Nat → Int32)) (so : (Nat → Int32)) (ki : (Nat → Int32)) (p0 : Int32) (p1 : Int32) (p2 : Int32) (post : Int32 → (Nat → Int32) → (Nat → Int32) → (Nat → Int32) → Prop) : Prop := vp_in p1 34 ∧ ((((3 : Int32) ≤ (hd p1.toNatClampNeg) → (vp_in p2 4 ∧ (vp_in p2 4 ∧ (vp_in p1 34 ∧ (vp_in p1 34 ∧ (rec9 mcn swd rwd (upd hd p1.toNatClampNeg ((hd p1.toNatClampNeg) - (3 : Int32))) (upd so p2.toNatClampNeg (1 : Int32)) (upd ki p2.toNatClampNeg p1) p0 p1 (p2 + (1 : Int32)) (fun r7 hd_8 so_9 ki_10 => (vp_in p1 34 ∧ (vp_in p1 34 ∧ (post r7 (upd hd_8 p1.toNatClampNeg ((hd_8 p1.toNatClampNeg) + (3 : Int32))) so_9 ki_10)))))))))) ∧ (¬ (3 : Int32) ≤ (hd p1.toNatClampNeg) → (post (-1 : Int32) hd so ki))))

set_option maxHeartbeats 4000000 in
set_option maxRecDepth 100000 in
theorem c_X1_splitWithThree (l : Launch) (dC : Nat → ClassId) (dI : Nat → Nat → Nat) (cI cZ : ClassId) (d9 : Nat) (rec9 : Int32 → Int32 → Int32 → (Nat → Int32) → (Nat → Int32) → (Nat → Int32) → Int32 → Int32 → Int32 → (Int32 → (Nat → Int32) → (Nat → Int32) → (Nat → Int32) → Prop) → Prop) (ihd : ∀ (x : Nat) (aH : Nat) (aL : Nat) (aS : Nat) (aO : Nat) (aK : Nat) (aZ : Nat) (cv : Nat) (sz : Nat) (tcn : Int32) (mcn : Int32) (swd : Int32) (rwd : Int32) (bpt : Int32) (flm : Int32) (hd : (Nat → Int32)) (so : (Nat → Int32)) (ki : (Nat → Int32)) (p0 : Int32) (p1 : Int32) (p2 : Int32) (post : Int32 → (Nat → Int32) → (Nat → Int32) → (Nat → Int32) → Prop), rec9 mcn swd rwd hd so ki p0 p1 p2 post → Met l yX1_bestSplit wsX1_bestSplit ({ frames := 3 + d9 * 2, cells := 0, slots := 0, locals := 64 + d9 * 48 } : Room) (va_Pc [.ref x, .int p0, .int p1, .int p2] (fun U => U.heap.size = sz ∧ va_P (dC, dI) vwCl [(x, .inr (1, [.ref aH, .ref aL, .ref aS, .ref aO, .ref aK, .ref aZ, .ref cv, .int tcn, .int mcn, .int swd, .int rwd, .int bpt, .int flm])), (aH, .inl (cI, 34, .inl hd)), (aO, .inl (cI, 4, .inl so)), (aK, .inl (cI, 4, .inl ki))] U.heap ∧ va_K (dC, dI) vwCl [(cI, .int), (cZ, .boolean)] U ∧ va_D (fun _ => True) [(x, .inr (1, [.ref aH, .ref aL, .ref aS, .ref aO, .ref aK, .ref aZ, .ref cv, .int tcn, .int mcn, .int swd, .int rwd, .int bpt, .int flm])), (aH, .inl (cI, 34, .inl hd)), (aO, .inl (cI, 4, .inl so)), (aK, .inl (cI, 4, .inl ki))])) (va_Qi (fun (r9 : Int32) (u9 : (Nat → Int32) × (Nat → Int32) × (Nat → Int32)) => post r9 u9.1 u9.2.1 u9.2.2) (fun (u9 : (Nat → Int32) × (Nat → Int32) × (Nat → Int32)) (t9 : State) => va_P (dC, dI) vwCl [(x, .inr (1, [.ref aH, .ref aL, .ref aS, .ref aO, .ref aK, .ref aZ, .ref cv, .int tcn, .int mcn, .int swd, .int rwd, .int bpt, .int flm])), (aH, .inl (cI, 34, .inl u9.1)), (aO, .inl (cI, 4, .inl u9.2.1)), (aK, .inl (cI, 4, .inl u9.2.2))] t9.heap ∧ va_K (dC, dI) vwCl [(cI, .int), (cZ, .boolean)] t9 ∧ va_D (va_A [(x, .inr (1, [.ref aH, .ref aL, .ref aS, .ref aO, .ref aK, .ref aZ, .ref cv, .int tcn, .int mcn, .int swd, .int rwd, .int bpt, .int flm])), (aH, .inl (cI, 34, .inl hd)), (aO, .inl (cI, 4, .inl so)), (aK, .inl (cI, 4, .inl ki))] sz) [(x, .inr (1, [.ref aH, .ref aL, .ref aS, .ref aO, .ref aK, .ref aZ, .ref cv, .int tcn, .int mcn, .int swd, .int rwd, .int bpt, .int flm])), (aH, .inl (cI, 34, .inl u9.1)), (aO, .inl (cI, 4, .inl u9.2.1)), (aK, .inl (cI, 4, .inl u9.2.2))]) (va_A [(x, .inr (1, [.ref aH, .ref aL, .ref aS, .ref aO, .ref aK, .ref aZ, .ref cv, .int tcn, .int mcn, .int swd, .int rwd, .int bpt, .int flm])), (aH, .inl (cI, 34, .inl hd)), (aO, .inl (cI, 4, .inl so)), (aK, .inl (cI, 4, .inl ki))] sz)) 0 0 (va_A [(x, .inr (1, [.ref aH, .ref aL, .ref aS, .ref aO, .ref aK, .ref aZ, .ref cv, .int tcn, .int mcn, .int swd, .int rwd, .int bpt, .int flm])), (aH, .inl (cI, 34, .inl hd)), (aO, .inl (cI, 4, .inl so)), (aK, .inl (cI, 4, .inl ki))] sz)) (x : Nat) (aH : Nat) (aL : Nat) (aS : Nat) (aO : Nat) (aK : Nat) (aZ : Nat) (cv : Nat) (sz : Nat) (tcn : Int32) (mcn : Int32) (swd : Int32) (rwd : Int32) (bpt : Int32) (flm : Int32) (hd : (Nat → Int32)) (so : (Nat → Int32)) (ki : (Nat → Int32)) (p0 : Int32) (p1 : Int32) (p2 : Int32) (post : Int32 → (Nat → Int32) → (Nat → Int32) → (Nat → Int32) → Prop) (hw : w_X1_splitWithThree rec9 mcn swd rwd hd so ki p0 p1 p2 post) : Met l yX1_splitWithThree wsX1_splitWithThree ({ frames := 3 + d9 * 2 + 1, cells := 0, slots := 0, locals := 64 + d9 * 48 + 24 } : Room) (va_Pc [.ref x, .int p0, .int p1, .int p2] (fun U => U.heap.size = sz ∧ va_P (dC, dI) vwCl [(x, .inr (1, [.ref aH, .ref aL, .ref aS, .ref aO, .ref aK, .ref aZ, .ref cv, .int tcn, .int mcn, .int swd, .int rwd, .int bpt, .int flm])), (aH, .inl (cI, 34, .inl hd)), (aO, .inl (cI, 4, .inl so)), (aK, .inl (cI, 4, .inl ki))] U.heap ∧ va_K (dC, dI) vwCl [(cI, .int), (cZ, .boolean)] U ∧ va_D (fun _ => True) [(x, .inr (1, [.ref aH, .ref aL, .ref aS, .ref aO, .ref aK, .ref aZ, .ref cv, .int tcn, .int mcn, .int swd, .int rwd, .int bpt, .int flm])), (aH, .inl (cI, 34, .inl hd)), (aO, .inl (cI, 4, .inl so)), (aK, .inl (cI, 4, .inl ki))])) (va_Qi (fun (r9 : Int32) (u9 : (Nat → Int32) × (Nat → Int32) × (Nat → Int32)) => post r9 u9.1 u9.2.1 u9.2.2) (fun (u9 : (Nat → Int32) × (Nat → Int32) × (Nat → Int32)) (t9 : State) => va_P (dC, dI) vwCl [(x, .inr (1, [.ref aH, .ref aL, .ref aS, .ref aO, .ref aK, .ref aZ, .ref cv, .int tcn, .int mcn, .int swd, .int rwd, .int bpt, .int flm])), (aH, .inl (cI, 34, .inl u9.1)), (aO, .inl (cI, 4, .inl u9.2.1)), (aK, .inl (cI, 4, .inl u9.2.2))] t9.heap ∧ va_K (dC, dI) vwCl [(cI, .int), (cZ, .boolean)] t9 ∧ va_D (va_A [(x, .inr (1, [.ref aH, .ref aL, .ref aS, .ref aO, .ref aK, .ref aZ, .ref cv, .int tcn, .int mcn, .int swd, .int rwd, .int bpt, .int flm])), (aH, .inl (cI, 34, .inl hd)), (aO, .inl (cI, 4, .inl so)), (aK, .inl (cI, 4, .inl ki))] sz) [(x, .inr (1, [.ref aH, .ref aL, .ref aS, .ref aO, .ref aK, .ref aZ, .ref cv, .int tcn, .int mcn, .int swd, .int rwd, .int bpt, .int flm])), (aH, .inl (cI, 34, .inl u9.1)), (aO, .inl (cI, 4, .inl u9.2.1)), (aK, .inl (cI, 4, .inl u9.2.2))]) (va_A [(x, .inr (1, [.ref aH, .ref aL, .ref aS, .ref aO, .ref aK, .ref aZ, .ref cv, .int tcn, .int mcn, .int swd, .int rwd, .int bpt, .int flm])), (aH, .inl (cI, 34, .inl hd)), (aO, .inl (cI, 4, .inl so)), (aK, .inl (cI, 4, .inl ki))] sz)) 0 0 (va_A [(x, .inr (1, [.ref aH, .ref aL, .ref aS, .ref aO, .ref aK, .ref aZ, .ref cv, .int tcn, .int mcn, .int swd, .int rwd, .int bpt, .int flm])), (aH, .inl (cI, 34, .inl hd)), (aO, .inl (cI, 4, .inl so)), (aK, .inl (cI, 4, .inl ki))] sz) := by
  refine Met.ofW (cc := cX1_splitWithThree) (maxL := 5) (ret := (some .int)) (by decide) rfl ?_
  intro p e s m args below meth c s₁ B hml hv
  obtain ⟨rfl, hsz, hP, hK, hD0⟩ := hv
  have hx := B.exec
  have hb := B.bytes
  have hr := B.returns
  have hts := atoms_spec (ws := wsX1_splitWithThree) B.pre
  have hown : s.vm.findClass RX1 = some m.cls := findClass_of_methodNamed B.named
  have hlocks := B.notSynchronized
  have hinX1 : ∀ w ∈ u_ws RX1 TX1 13, w ∈ wsX1_splitWithThree := by decide +kernel
  subst hsz
  have hD := hD0.self (sz := s.heap.size)
  generalize hAe : va_A [(x, .inr (1, [.ref aH, .ref aL, .ref aS, .ref aO, .ref aK, .ref aZ, .ref cv, .int tcn, .int mcn, .int swd, .int rwd, .int bpt, .int flm])), (aH, .inl (cI, 34, .inl hd)), (aO, .inl (cI, 4, .inl so)), (aK, .inl (cI, 4, .inl ki))] s.heap.size = A at hD ⊢
  have hA : ∀ q : Nat, s.heap.size ≤ q → A q := fun q h => by rw [← hAe]; exact Or.inr h
  have hS : va_S A s.heap s.heap [] := va_S.rf
  have hl := lv_entry ([.ref x, .int p0, .int p1, .int p2]) (n := 5) ((by first | exact Nat.le_of_ble_eq_true rfl | (simp only [headSpec]; omega) | (simp only [headSpec, List.map_nil, List.map_cons, List.sum_nil, List.sum_cons, Value.category]; omega)))
  rw [lg_entry_eq]
  generalize (lg_sl ([.ref x, .int p0, .int p1, .int p2]) ++ List.replicate (5 - (lg_sl ([.ref x, .int p0, .int p1, .int p2])).length) Slot.unset).toArray = ls at hl ⊢
  have hl : lv_has ls 5 [(0, .ref x), (1, .int p0), (2, .int p1), (3, .int p2)] := hl
  refine (?_ : ∀ Q9 : State → Prop, MQ below _ _ s _ _ _ = Q9 → W p l e ({ frames := 3 + d9 * 2 + 1, cells := 0, slots := 0, locals := 64 + d9 * 48 + 24 } : Room) s m _ below meth c s.heap [] 0 0 Q9 (F0 m 0 ls [])) _ rfl
  intro Q9 hQ9
  have hw : vp_in p1 34 ∧ ((((3 : Int32) ≤ (hd p1.toNatClampNeg) → (vp_in p2 4 ∧ (vp_in p2 4 ∧ (vp_in p1 34 ∧ (vp_in p1 34 ∧ (rec9 mcn swd rwd (upd hd p1.toNatClampNeg ((hd p1.toNatClampNeg) - (3 : Int32))) (upd so p2.toNatClampNeg (1 : Int32)) (upd ki p2.toNatClampNeg p1) p0 p1 (p2 + (1 : Int32)) (fun r7 hd_8 so_9 ki_10 => (vp_in p1 34 ∧ (vp_in p1 34 ∧ (post r7 (upd hd_8 p1.toNatClampNeg ((hd_8 p1.toNatClampNeg) + (3 : Int32))) so_9 ki_10)))))))))) ∧ (¬ (3 : Int32) ≤ (hd p1.toNatClampNeg) → (post (-1 : Int32) hd so ki)))) := hw
  refine lv_aload_n hx hb dX1_splitWithThree_0 rfl (lv_at hl 0 rfl) ?_
  refine va_get (D := (dC, dI)) (ci := 1) (v := .ref aH) (C := RX1) (T := TX1) (N := 13) hx hb hts hinX1 hown hK hP 0 rfl rfl 0 (by decide) (hts (.fieldLink RX1 9 "TileHand" "hand" "[I") (by decide +kernel)) (fun _ h9 => h9) rfl dX1_splitWithThree_1 ?_
  refine lv_iload_n hx hb dX1_splitWithThree_4 rfl (lv_at hl 2 rfl) ?_
  obtain ⟨h1, hw⟩ := hw
  refine va_iald hx hb hK hP 1 0 rfl rfl h1 dX1_splitWithThree_5 ?_
  refine lv_iconst (v := 3) hx hb dX1_splitWithThree_6 (by decide) ?_
  refine lv_icmp_ge (tgt := 12) hx hb dX1_splitWithThree_7 (by decide) (fun c2 => ?_) (fun c2 => ?_)
  · have hw := hw.1 c2
    refine lv_aload_n hx hb dX1_splitWithThree_12 rfl (lv_at hl 0 rfl) ?_
    refine va_get (D := (dC, dI)) (ci := 1) (v := .ref aO) (C := RX1) (T := TX1) (N := 13) hx hb hts hinX1 hown hK hP 0 rfl rfl 3 (by decide) (hts (.fieldLink RX1 19 "TileHand" "setSorts" "[I") (by decide +kernel)) (fun _ h9 => h9) rfl dX1_splitWithThree_13 ?_
    refine lv_iload_n hx hb dX1_splitWithThree_16 rfl (lv_at hl 3 rfl) ?_
    refine lv_iconst (v := 1) hx hb dX1_splitWithThree_17 (by decide) ?_
    obtain ⟨h3, hw⟩ := hw
    refine va_iast hx hb hK hP hD hS 2 0 rfl rfl h3 dX1_splitWithThree_18 (fun H locs hP hD hS => ?_)
    have hP : va_P (dC, dI) vwCl [(x, .inr (1, [.ref aH, .ref aL, .ref aS, .ref aO, .ref aK, .ref aZ, .ref cv, .int tcn, .int mcn, .int swd, .int rwd, .int bpt, .int flm])), (aH, .inl (cI, 34, .inl hd)), (aO, .inl (cI, 4, .inl (upd so p2.toNatClampNeg (1 : Int32)))), (aK, .inl (cI, 4, .inl ki))] H := hP
    have hD : va_D A [(x, .inr (1, [.ref aH, .ref aL, .ref aS, .ref aO, .ref aK, .ref aZ, .ref cv, .int tcn, .int mcn, .int swd, .int rwd, .int bpt, .int flm])), (aH, .inl (cI, 34, .inl hd)), (aO, .inl (cI, 4, .inl (upd so p2.toNatClampNeg (1 : Int32)))), (aK, .inl (cI, 4, .inl ki))] := hD
    refine lv_aload_n hx hb dX1_splitWithThree_19 rfl (lv_at hl 0 rfl) ?_
    refine va_get (D := (dC, dI)) (ci := 1) (v := .ref aK) (C := RX1) (T := TX1) (N := 13) hx hb hts hinX1 hown hK hP 0 rfl rfl 4 (by decide) (hts (.fieldLink RX1 22 "TileHand" "setKinds" "[I") (by decide +kernel)) (fun _ h9 => h9) rfl dX1_splitWithThree_20 ?_
    refine lv_iload_n hx hb dX1_splitWithThree_23 rfl (lv_at hl 3 rfl) ?_
    refine lv_iload_n hx hb dX1_splitWithThree_24 rfl (lv_at hl 2 rfl) ?_
    obtain ⟨h4, hw⟩ := hw
    refine va_iast hx hb hK hP hD hS 3 0 rfl rfl h4 dX1_splitWithThree_25 (fun H locs hP hD hS => ?_)
    have hP : va_P (dC, dI) vwCl [(x, .inr (1, [.ref aH, .ref aL, .ref aS, .ref aO, .ref aK, .ref aZ, .ref cv, .int tcn, .int mcn, .int swd, .int rwd, .int bpt, .int flm])), (aH, .inl (cI, 34, .inl hd)), (aO, .inl (cI, 4, .inl (upd so p2.toNatClampNeg (1 : Int32)))), (aK, .inl (cI, 4, .inl (upd ki p2.toNatClampNeg p1)))] H := hP
    have hD : va_D A [(x, .inr (1, [.ref aH, .ref aL, .ref aS, .ref aO, .ref aK, .ref aZ, .ref cv, .int tcn, .int mcn, .int swd, .int rwd, .int bpt, .int flm])), (aH, .inl (cI, 34, .inl hd)), (aO, .inl (cI, 4, .inl (upd so p2.toNatClampNeg (1 : Int32)))), (aK, .inl (cI, 4, .inl (upd ki p2.toNatClampNeg p1)))] := hD
    refine lv_aload_n hx hb dX1_splitWithThree_26 rfl (lv_at hl 0 rfl) ?_
    refine va_get (D := (dC, dI)) (ci := 1) (v := .ref aH) (C := RX1) (T := TX1) (N := 13) hx hb hts hinX1 hown hK hP 0 rfl rfl 0 (by decide) (hts (.fieldLink RX1 9 "TileHand" "hand" "[I") (by decide +kernel)) (fun _ h9 => h9) rfl dX1_splitWithThree_27 ?_
    refine lv_iload_n hx hb dX1_splitWithThree_30 rfl (lv_at hl 2 rfl) ?_
    refine lv_dup2_11 hx hb dX1_splitWithThree_31 rfl rfl ?_
    obtain ⟨h5, hw⟩ := hw
    refine va_iald hx hb hK hP 1 0 rfl rfl h5 dX1_splitWithThree_32 ?_
    refine lv_iconst (v := 3) hx hb dX1_splitWithThree_33 (by decide) ?_
    refine lv_isub hx hb dX1_splitWithThree_34 ?_
    obtain ⟨h6, hw⟩ := hw
    refine va_iast hx hb hK hP hD hS 1 0 rfl rfl h6 dX1_splitWithThree_35 (fun H locs hP hD hS => ?_)
    have hP : va_P (dC, dI) vwCl [(x, .inr (1, [.ref aH, .ref aL, .ref aS, .ref aO, .ref aK, .ref aZ, .ref cv, .int tcn, .int mcn, .int swd, .int rwd, .int bpt, .int flm])), (aH, .inl (cI, 34, .inl (upd hd p1.toNatClampNeg ((hd p1.toNatClampNeg) - (3 : Int32))))), (aO, .inl (cI, 4, .inl (upd so p2.toNatClampNeg (1 : Int32)))), (aK, .inl (cI, 4, .inl (upd ki p2.toNatClampNeg p1)))] H := hP
    have hD : va_D A [(x, .inr (1, [.ref aH, .ref aL, .ref aS, .ref aO, .ref aK, .ref aZ, .ref cv, .int tcn, .int mcn, .int swd, .int rwd, .int bpt, .int flm])), (aH, .inl (cI, 34, .inl (upd hd p1.toNatClampNeg ((hd p1.toNatClampNeg) - (3 : Int32))))), (aO, .inl (cI, 4, .inl (upd so p2.toNatClampNeg (1 : Int32)))), (aK, .inl (cI, 4, .inl (upd ki p2.toNatClampNeg p1)))] := hD
    refine lv_aload_n hx hb dX1_splitWithThree_36 rfl (lv_at hl 0 rfl) ?_
    refine lv_iload_n hx hb dX1_splitWithThree_37 rfl (lv_at hl 1 rfl) ?_
    refine lv_iload_n hx hb dX1_splitWithThree_38 rfl (lv_at hl 2 rfl) ?_
    refine lv_iload_n hx hb dX1_splitWithThree_39 rfl (lv_at hl 3 rfl) ?_
    refine lv_iconst (v := 1) hx hb dX1_splitWithThree_40 (by decide) ?_
    refine lv_iadd hx hb dX1_splitWithThree_41 ?_
    have hPc := hP.sub (ws' := [(x, .inr (1, [.ref aH, .ref aL, .ref aS, .ref aO, .ref aK, .ref aZ, .ref cv, .int tcn, .int mcn, .int swd, .int rwd, .int bpt, .int flm])), (aH, .inl (cI, 34, .inl (upd hd p1.toNatClampNeg ((hd p1.toNatClampNeg) - (3 : Int32))))), (aO, .inl (cI, 4, .inl (upd so p2.toNatClampNeg (1 : Int32)))), (aK, .inl (cI, 4, .inl (upd ki p2.toNatClampNeg p1)))]) [0, 1, 2, 3] rfl
    have hDc := hD.sub (ws' := [(x, .inr (1, [.ref aH, .ref aL, .ref aS, .ref aO, .ref aK, .ref aZ, .ref cv, .int tcn, .int mcn, .int swd, .int rwd, .int bpt, .int flm])), (aH, .inl (cI, 34, .inl (upd hd p1.toNatClampNeg ((hd p1.toNatClampNeg) - (3 : Int32))))), (aO, .inl (cI, 4, .inl (upd so p2.toNatClampNeg (1 : Int32)))), (aK, .inl (cI, 4, .inl (upd ki p2.toNatClampNeg p1)))]) [0, 1, 2, 3] (by decide) rfl
    have hFc := va_free (wc := [(x, .inr (1, [.ref aH, .ref aL, .ref aS, .ref aO, .ref aK, .ref aZ, .ref cv, .int tcn, .int mcn, .int swd, .int rwd, .int bpt, .int flm])), (aH, .inl (cI, 34, .inl (upd hd p1.toNatClampNeg ((hd p1.toNatClampNeg) - (3 : Int32))))), (aO, .inl (cI, 4, .inl (upd so p2.toNatClampNeg (1 : Int32)))), (aK, .inl (cI, 4, .inl (upd ki p2.toNatClampNeg p1)))]) hD hS hA [0, 1, 2, 3] rfl
    refine va_calli (va_runV (As := [.int p0, .int p1, .int (p2 + (1 : Int32))]) (rest := []) ⟨hx, hb, hml, hown, hts⟩ (ihd x aH aL aS aO aK aZ cv H.size tcn mcn swd rwd bpt flm (upd hd p1.toNatClampNeg ((hd p1.toNatClampNeg) - (3 : Int32))) (upd so p2.toNatClampNeg (1 : Int32)) (upd ki p2.toNatClampNeg p1) p0 p1 (p2 + (1 : Int32)) _ hw) (cwV 3 hts gX1_splitWithThree_X1_bestSplit rfl rfl rfl (by decide +kernel) ⟨(by first | exact Nat.le_of_ble_eq_true rfl | (simp only [headSpec]; omega) | (simp only [headSpec, List.map_nil, List.map_cons, List.sum_nil, List.sum_cons, Value.category]; omega)), (by first | exact Nat.le_of_ble_eq_true rfl | (simp only [headSpec]; omega) | (simp only [headSpec, List.map_nil, List.map_cons, List.sum_nil, List.sum_cons, Value.category]; omega))⟩) ⟨fun a U g mk q => by obtain ⟨q0, q1, qP, qK, qD⟩ := q; exact ⟨q0, q1, qP, va_K.moved (u := U) (U := U.calling g mk a) (Vm.Alike.refl U.vm) qK, qD⟩, va_recv hK hPc (ci := 1) (q0 := 0) rfl rfl, fun U hU hW => ⟨rfl, by rw [hU], by rw [hU]; exact hPc, va_K.moved hW.alike hK, hDc.weaken (fun _ _ _ _ => trivial)⟩⟩ rfl rfl hl.1 rfl (lv_room ((by first | exact Nat.le_of_ble_eq_true rfl | (simp only [headSpec]; omega) | (simp only [headSpec, List.map_nil, List.map_cons, List.sum_nil, List.sum_cons, Value.category]; omega)))) dX1_splitWithThree_42 ⟨(by first | exact Nat.le_of_ble_eq_true rfl | (simp only [headSpec]; omega) | (simp only [headSpec, List.map_nil, List.map_cons, List.sum_nil, List.sum_cons, Value.category]; omega)), (by first | exact Nat.le_of_ble_eq_true rfl | (simp only [headSpec]; omega) | (simp only [headSpec, List.map_nil, List.map_cons, List.sum_nil, List.sum_cons, Value.category]; omega))⟩) hS (fun q _ h => hFc q h) hFc (fun r7 u t H1 locs ht hvm hw hB hz1 hk1 hS => ?_)
    obtain ⟨hd_8, so_9, ki_10⟩ := u
    obtain ⟨hP1, -, hD1⟩ := hB
    have hw := And.intro hw trivial
    try dsimp only at hw
    have hw := hw.1
    rw [ht] at hP1
    obtain ⟨hP, hD⟩ := va_join (wr := []) (w1 := [(x, .inr (1, [.ref aH, .ref aL, .ref aS, .ref aO, .ref aK, .ref aZ, .ref cv, .int tcn, .int mcn, .int swd, .int rwd, .int bpt, .int flm])), (aH, .inl (cI, 34, .inl hd_8)), (aO, .inl (cI, 4, .inl so_9)), (aK, .inl (cI, 4, .inl ki_10))]) hP hD [0, 1, 2, 3] [] rfl rfl (by decide) (by decide) hk1 hFc hP1 hD1
    generalize H1 = H at hP hS ⊢
    have hP : va_P (dC, dI) vwCl [(x, .inr (1, [.ref aH, .ref aL, .ref aS, .ref aO, .ref aK, .ref aZ, .ref cv, .int tcn, .int mcn, .int swd, .int rwd, .int bpt, .int flm])), (aH, .inl (cI, 34, .inl hd_8)), (aO, .inl (cI, 4, .inl so_9)), (aK, .inl (cI, 4, .inl ki_10))] H := hP
    have hD : va_D A [(x, .inr (1, [.ref aH, .ref aL, .ref aS, .ref aO, .ref aK, .ref aZ, .ref cv, .int tcn, .int mcn, .int swd, .int rwd, .int bpt, .int flm])), (aH, .inl (cI, 34, .inl hd_8)), (aO, .inl (cI, 4, .inl so_9)), (aK, .inl (cI, 4, .inl ki_10))] := hD
    refine lv_istore (lv' := [(4, .int r7), (0, .ref x), (1, .int p0), (2, .int p1), (3, .int p2)]) hx hb dX1_splitWithThree_45 hl (by decide) rfl (fun ls hl => ?_)
    refine lv_aload_n hx hb dX1_splitWithThree_47 rfl (lv_at hl 1 rfl) ?_
    refine va_get (D := (dC, dI)) (ci := 1) (v := .ref aH) (C := RX1) (T := TX1) (N := 13) hx hb hts hinX1 hown hK hP 0 rfl rfl 0 (by decide) (hts (.fieldLink RX1 9 "TileHand" "hand" "[I") (by decide +kernel)) (fun _ h9 => h9) rfl dX1_splitWithThree_48 ?_
    refine lv_iload_n hx hb dX1_splitWithThree_51 rfl (lv_at hl 3 rfl) ?_
    refine lv_dup2_11 hx hb dX1_splitWithThree_52 rfl rfl ?_
    obtain ⟨h11, hw⟩ := hw
    refine va_iald hx hb hK hP 1 0 rfl rfl h11 dX1_splitWithThree_53 ?_
    refine lv_iconst (v := 3) hx hb dX1_splitWithThree_54 (by decide) ?_
    refine lv_iadd hx hb dX1_splitWithThree_55 ?_
    obtain ⟨h12, hw⟩ := hw
    refine va_iast hx hb hK hP hD hS 1 0 rfl rfl h12 dX1_splitWithThree_56 (fun H locs hP hD hS => ?_)
    have hP : va_P (dC, dI) vwCl [(x, .inr (1, [.ref aH, .ref aL, .ref aS, .ref aO, .ref aK, .ref aZ, .ref cv, .int tcn, .int mcn, .int swd, .int rwd, .int bpt, .int flm])), (aH, .inl (cI, 34, .inl (upd hd_8 p1.toNatClampNeg ((hd_8 p1.toNatClampNeg) + (3 : Int32))))), (aO, .inl (cI, 4, .inl so_9)), (aK, .inl (cI, 4, .inl ki_10))] H := hP
    have hD : va_D A [(x, .inr (1, [.ref aH, .ref aL, .ref aS, .ref aO, .ref aK, .ref aZ, .ref cv, .int tcn, .int mcn, .int swd, .int rwd, .int bpt, .int flm])), (aH, .inl (cI, 34, .inl (upd hd_8 p1.toNatClampNeg ((hd_8 p1.toNatClampNeg) + (3 : Int32))))), (aO, .inl (cI, 4, .inl so_9)), (aK, .inl (cI, 4, .inl ki_10))] := hD
    refine lv_iload hx hb dX1_splitWithThree_57 (lv_at hl 0 rfl) ?_
    rw [← hQ9]
    exact W.iret (v := r7) hx hb hr (fun t ht hW => ⟨⟨r7, (upd hd_8 p1.toNatClampNeg ((hd_8 p1.toNatClampNeg) + (3 : Int32)), so_9, ki_10), rfl, hw, by rw [ht]; exact hP, va_K.moved hW.alike hK, hD⟩, hS.F ht⟩) hS.2.2 dX1_splitWithThree_59
  · have hw := hw.2 c2
    refine lv_iconst (v := -1) hx hb dX1_splitWithThree_10 (by decide) ?_
    rw [← hQ9]
    exact W.iret (v := (-1 : Int32)) hx hb hr (fun t ht hW => ⟨⟨(-1 : Int32), (hd, so, ki), rfl, hw, by rw [ht]; exact hP, va_K.moved hW.alike hK, hD⟩, hS.F ht⟩) hS.2.2 dX1_splitWithThree_11

def w_X1_bestSplit_s (rec9 : Int32 → Int32 → Int32 → (Nat → Int32) → (Nat → Int32) → (Nat → Int32) → Int32 → Int32 → Int32 → (Int32 → (Nat → Int32) → (Nat → Int32) → (Nat → Int32) → Prop) → Prop) (mcn : Int32) (swd : Int32) (rwd : Int32) (hd : (Nat → Int32)) (so : (Nat → Int32)) (ki : (Nat → Int32)) (p0 : Int32) (p1 : Int32) (p2 : Int32) (post : Int32 → (Nat → Int32) → (Nat → Int32) → (Nat → Int32) → Prop) : Prop := w_X1_firstHeld hd p1 (fun r1 => (((r1 = (34 : Int32) → (((p2 = (4 : Int32) → (w_X1_fansOfSets mcn swd rwd so ki p0 (fun r14 => (post r14 hd so ki)))) ∧ (¬ p2 = (4 : Int32) → (post (-1 : Int32) hd so ki))))) ∧ (¬ r1 = (34 : Int32) → (((p2 < 0 → (post (-1 : Int32) hd so ki)) ∧ (¬ p2 < 0 → (((p2 < (4 : Int32) → (w_X1_splitWithThree rec9 mcn swd rwd hd so ki p0 r1 p2 (fun r5 hd_6 so_7 ki_8 => (w_X1_splitWithRow rec9 mcn swd rwd hd_6 so_7 ki_8 p0 r1 p2 (fun r9 hd_10 so_11 ki_12 => (post (if r5 < r9 then r9 else r5) hd_10 so_11 ki_12)))))) ∧ (¬ p2 < (4 : Int32) → (post (-1 : Int32) hd so ki)))))))))))

def w_X1_bestSplit : Nat → Int32 → Int32 → Int32 → (Nat → Int32) → (Nat → Int32) → (Nat → Int32) → Int32 → Int32 → Int32 → (Int32 → (Nat → Int32) → (Nat → Int32) → (Nat → Int32) → Prop) → Prop
  | 0, _, _, _, _, _, _, _, _, _, _ => False
  | d + 1, mcn, swd, rwd, hd, so, ki, p0, p1, p2, post => w_X1_bestSplit_s (w_X1_bestSplit d) mcn swd rwd hd so ki p0 p1 p2 post

set_option maxHeartbeats 4000000 in
set_option maxRecDepth 100000 in
theorem cd_X1_bestSplit (l : Launch) (dC : Nat → ClassId) (dI : Nat → Nat → Nat) (cI cZ : ClassId) : ∀ d9 : Nat, ∀ (x : Nat) (aH : Nat) (aL : Nat) (aS : Nat) (aO : Nat) (aK : Nat) (aZ : Nat) (cv : Nat) (sz : Nat) (tcn : Int32) (mcn : Int32) (swd : Int32) (rwd : Int32) (bpt : Int32) (flm : Int32) (hd : (Nat → Int32)) (so : (Nat → Int32)) (ki : (Nat → Int32)) (p0 : Int32) (p1 : Int32) (p2 : Int32) (post : Int32 → (Nat → Int32) → (Nat → Int32) → (Nat → Int32) → Prop), w_X1_bestSplit d9 mcn swd rwd hd so ki p0 p1 p2 post → Met l yX1_bestSplit wsX1_bestSplit ({ frames := 3 + d9 * 2, cells := 0, slots := 0, locals := 64 + d9 * 48 } : Room) (va_Pc [.ref x, .int p0, .int p1, .int p2] (fun U => U.heap.size = sz ∧ va_P (dC, dI) vwCl [(x, .inr (1, [.ref aH, .ref aL, .ref aS, .ref aO, .ref aK, .ref aZ, .ref cv, .int tcn, .int mcn, .int swd, .int rwd, .int bpt, .int flm])), (aH, .inl (cI, 34, .inl hd)), (aO, .inl (cI, 4, .inl so)), (aK, .inl (cI, 4, .inl ki))] U.heap ∧ va_K (dC, dI) vwCl [(cI, .int), (cZ, .boolean)] U ∧ va_D (fun _ => True) [(x, .inr (1, [.ref aH, .ref aL, .ref aS, .ref aO, .ref aK, .ref aZ, .ref cv, .int tcn, .int mcn, .int swd, .int rwd, .int bpt, .int flm])), (aH, .inl (cI, 34, .inl hd)), (aO, .inl (cI, 4, .inl so)), (aK, .inl (cI, 4, .inl ki))])) (va_Qi (fun (r9 : Int32) (u9 : (Nat → Int32) × (Nat → Int32) × (Nat → Int32)) => post r9 u9.1 u9.2.1 u9.2.2) (fun (u9 : (Nat → Int32) × (Nat → Int32) × (Nat → Int32)) (t9 : State) => va_P (dC, dI) vwCl [(x, .inr (1, [.ref aH, .ref aL, .ref aS, .ref aO, .ref aK, .ref aZ, .ref cv, .int tcn, .int mcn, .int swd, .int rwd, .int bpt, .int flm])), (aH, .inl (cI, 34, .inl u9.1)), (aO, .inl (cI, 4, .inl u9.2.1)), (aK, .inl (cI, 4, .inl u9.2.2))] t9.heap ∧ va_K (dC, dI) vwCl [(cI, .int), (cZ, .boolean)] t9 ∧ va_D (va_A [(x, .inr (1, [.ref aH, .ref aL, .ref aS, .ref aO, .ref aK, .ref aZ, .ref cv, .int tcn, .int mcn, .int swd, .int rwd, .int bpt, .int flm])), (aH, .inl (cI, 34, .inl hd)), (aO, .inl (cI, 4, .inl so)), (aK, .inl (cI, 4, .inl ki))] sz) [(x, .inr (1, [.ref aH, .ref aL, .ref aS, .ref aO, .ref aK, .ref aZ, .ref cv, .int tcn, .int mcn, .int swd, .int rwd, .int bpt, .int flm])), (aH, .inl (cI, 34, .inl u9.1)), (aO, .inl (cI, 4, .inl u9.2.1)), (aK, .inl (cI, 4, .inl u9.2.2))]) (va_A [(x, .inr (1, [.ref aH, .ref aL, .ref aS, .ref aO, .ref aK, .ref aZ, .ref cv, .int tcn, .int mcn, .int swd, .int rwd, .int bpt, .int flm])), (aH, .inl (cI, 34, .inl hd)), (aO, .inl (cI, 4, .inl so)), (aK, .inl (cI, 4, .inl ki))] sz)) 0 0 (va_A [(x, .inr (1, [.ref aH, .ref aL, .ref aS, .ref aO, .ref aK, .ref aZ, .ref cv, .int tcn, .int mcn, .int swd, .int rwd, .int bpt, .int flm])), (aH, .inl (cI, 34, .inl hd)), (aO, .inl (cI, 4, .inl so)), (aK, .inl (cI, 4, .inl ki))] sz) := by
  intro d9
  induction d9 with
  | zero => intro x aH aL aS aO aK aZ cv sz tcn mcn swd rwd bpt flm hd so ki p0 p1 p2 post hw; exact False.elim hw
  | succ d9 ihd =>
  intro x aH aL aS aO aK aZ cv sz tcn mcn swd rwd bpt flm hd so ki p0 p1 p2 post hw
  refine Met.ofW (cc := cX1_bestSplit) (maxL := 5) (ret := (some .int)) (by decide) rfl ?_
  intro p e s m args below meth c s₁ B hml hv
  obtain ⟨rfl, hsz, hP, hK, hD0⟩ := hv
  have hx := B.exec
  have hb := B.bytes
  have hr := B.returns
  have hts := atoms_spec (ws := wsX1_bestSplit) B.pre
  have hown : s.vm.findClass RX1 = some m.cls := findClass_of_methodNamed B.named
  have hlocks := B.notSynchronized
  have hinX1 : ∀ w ∈ u_ws RX1 TX1 13, w ∈ wsX1_bestSplit := by decide +kernel
  subst hsz
  have hD := hD0.self (sz := s.heap.size)
  generalize hAe : va_A [(x, .inr (1, [.ref aH, .ref aL, .ref aS, .ref aO, .ref aK, .ref aZ, .ref cv, .int tcn, .int mcn, .int swd, .int rwd, .int bpt, .int flm])), (aH, .inl (cI, 34, .inl hd)), (aO, .inl (cI, 4, .inl so)), (aK, .inl (cI, 4, .inl ki))] s.heap.size = A at hD ⊢
  have hA : ∀ q : Nat, s.heap.size ≤ q → A q := fun q h => by rw [← hAe]; exact Or.inr h
  have hS : va_S A s.heap s.heap [] := va_S.rf
  have hl := lv_entry ([.ref x, .int p0, .int p1, .int p2]) (n := 5) ((by first | exact Nat.le_of_ble_eq_true rfl | (simp only [headSpec]; omega) | (simp only [headSpec, List.map_nil, List.map_cons, List.sum_nil, List.sum_cons, Value.category]; omega)))
  rw [lg_entry_eq]
  generalize (lg_sl ([.ref x, .int p0, .int p1, .int p2]) ++ List.replicate (5 - (lg_sl ([.ref x, .int p0, .int p1, .int p2])).length) Slot.unset).toArray = ls at hl ⊢
  have hl : lv_has ls 5 [(0, .ref x), (1, .int p0), (2, .int p1), (3, .int p2)] := hl
  refine (?_ : ∀ Q9 : State → Prop, MQ below _ _ s _ _ _ = Q9 → W p l e ({ frames := 3 + (d9 + 1) * 2, cells := 0, slots := 0, locals := 64 + (d9 + 1) * 48 } : Room) s m _ below meth c s.heap [] 0 0 Q9 (F0 m 0 ls [])) _ rfl
  intro Q9 hQ9
  have hw : w_X1_firstHeld hd p1 (fun r1 => (((r1 = (34 : Int32) → (((p2 = (4 : Int32) → (w_X1_fansOfSets mcn swd rwd so ki p0 (fun r14 => (post r14 hd so ki)))) ∧ (¬ p2 = (4 : Int32) → (post (-1 : Int32) hd so ki))))) ∧ (¬ r1 = (34 : Int32) → (((p2 < 0 → (post (-1 : Int32) hd so ki)) ∧ (¬ p2 < 0 → (((p2 < (4 : Int32) → (w_X1_splitWithThree (w_X1_bestSplit d9) mcn swd rwd hd so ki p0 r1 p2 (fun r5 hd_6 so_7 ki_8 => (w_X1_splitWithRow (w_X1_bestSplit d9) mcn swd rwd hd_6 so_7 ki_8 p0 r1 p2 (fun r9 hd_10 so_11 ki_12 => (post (if r5 < r9 then r9 else r5) hd_10 so_11 ki_12)))))) ∧ (¬ p2 < (4 : Int32) → (post (-1 : Int32) hd so ki))))))))))) := hw
  refine lv_aload_n hx hb dX1_bestSplit_0 rfl (lv_at hl 0 rfl) ?_
  refine lv_iload_n hx hb dX1_bestSplit_1 rfl (lv_at hl 2 rfl) ?_
  have hPc := hP.sub (ws' := [(x, .inr (1, [.ref aH, .ref aL, .ref aS, .ref aO, .ref aK, .ref aZ, .ref cv, .int tcn, .int mcn, .int swd, .int rwd, .int bpt, .int flm])), (aH, .inl (cI, 34, .inl hd))]) [0, 1] rfl
  have hDc := hD.sub (ws' := [(x, .inr (1, [.ref aH, .ref aL, .ref aS, .ref aO, .ref aK, .ref aZ, .ref cv, .int tcn, .int mcn, .int swd, .int rwd, .int bpt, .int flm])), (aH, .inl (cI, 34, .inl hd))]) [0, 1] (by decide) rfl
  have hFc := va_free (wc := [(x, .inr (1, [.ref aH, .ref aL, .ref aS, .ref aO, .ref aK, .ref aZ, .ref cv, .int tcn, .int mcn, .int swd, .int rwd, .int bpt, .int flm])), (aH, .inl (cI, 34, .inl hd))]) hD hS hA [0, 1] rfl
  refine va_calli (va_runV (As := [.int p1]) (rest := []) ⟨hx, hb, hml, hown, hts⟩ (c_X1_firstHeld l dC dI cI cZ x aH aL aS aO aK aZ cv s.heap.size tcn mcn swd rwd bpt flm hd p1 _ hw) (cwV 1 hts gX1_bestSplit_X1_firstHeld rfl rfl rfl (by decide +kernel) ⟨(by first | exact Nat.le_of_ble_eq_true rfl | (simp only [headSpec]; omega) | (simp only [headSpec, List.map_nil, List.map_cons, List.sum_nil, List.sum_cons, Value.category]; omega)), (by first | exact Nat.le_of_ble_eq_true rfl | (simp only [headSpec]; omega) | (simp only [headSpec, List.map_nil, List.map_cons, List.sum_nil, List.sum_cons, Value.category]; omega))⟩) ⟨fun a U g mk q => by obtain ⟨q0, q1, qP, qK, qD⟩ := q; exact ⟨q0, q1, qP, va_K.moved (u := U) (U := U.calling g mk a) (Vm.Alike.refl U.vm) qK, qD⟩, va_recv hK hPc (ci := 1) (q0 := 0) rfl rfl, fun U hU hW => ⟨rfl, by rw [hU], by rw [hU]; exact hPc, va_K.moved hW.alike hK, hDc.weaken (fun _ _ _ _ => trivial)⟩⟩ rfl rfl hl.1 rfl (lv_room ((by first | exact Nat.le_of_ble_eq_true rfl | (simp only [headSpec]; omega) | (simp only [headSpec, List.map_nil, List.map_cons, List.sum_nil, List.sum_cons, Value.category]; omega)))) dX1_bestSplit_2 ⟨(by first | exact Nat.le_of_ble_eq_true rfl | (simp only [headSpec]; omega) | (simp only [headSpec, List.map_nil, List.map_cons, List.sum_nil, List.sum_cons, Value.category]; omega)), (by first | exact Nat.le_of_ble_eq_true rfl | (simp only [headSpec]; omega) | (simp only [headSpec, List.map_nil, List.map_cons, List.sum_nil, List.sum_cons, Value.category]; omega))⟩) hS (fun q _ h => hFc q h) hFc (fun r1 u t H1 locs ht hvm hw hB hz1 hk1 hS => ?_)
  obtain ⟨hP1, -, hD1⟩ := hB
  have hw := And.intro hw trivial
  try dsimp only at hw
  have hw := hw.1
  rw [ht] at hP1
  obtain ⟨hP, hD⟩ := va_join (wr := [(aO, .inl (cI, 4, .inl so)), (aK, .inl (cI, 4, .inl ki))]) (w1 := [(x, .inr (1, [.ref aH, .ref aL, .ref aS, .ref aO, .ref aK, .ref aZ, .ref cv, .int tcn, .int mcn, .int swd, .int rwd, .int bpt, .int flm])), (aH, .inl (cI, 34, .inl hd))]) hP hD [0, 1] [2, 3] rfl rfl (by decide) (by decide) hk1 hFc hP1 hD1
  generalize H1 = H at hP hS ⊢
  have hP : va_P (dC, dI) vwCl [(aO, .inl (cI, 4, .inl so)), (aK, .inl (cI, 4, .inl ki)), (x, .inr (1, [.ref aH, .ref aL, .ref aS, .ref aO, .ref aK, .ref aZ, .ref cv, .int tcn, .int mcn, .int swd, .int rwd, .int bpt, .int flm])), (aH, .inl (cI, 34, .inl hd))] H := hP
  have hD : va_D A [(aO, .inl (cI, 4, .inl so)), (aK, .inl (cI, 4, .inl ki)), (x, .inr (1, [.ref aH, .ref aL, .ref aS, .ref aO, .ref aK, .ref aZ, .ref cv, .int tcn, .int mcn, .int swd, .int rwd, .int bpt, .int flm])), (aH, .inl (cI, 34, .inl hd))] := hD
  refine lv_istore (lv' := [(4, .int r1), (0, .ref x), (1, .int p0), (2, .int p1), (3, .int p2)]) hx hb dX1_bestSplit_5 hl (by decide) rfl (fun ls hl => ?_)
  refine lv_iload hx hb dX1_bestSplit_7 (lv_at hl 0 rfl) ?_
  refine lv_bipush (v := 34) hx hb dX1_bestSplit_9 (by decide) ?_
  refine lv_icmp_ne (tgt := 29) hx hb dX1_bestSplit_11 (by decide) (fun c2 => ?_) (fun c2 => ?_)
  · have hw := hw.2 c2
    refine lv_iload_n hx hb dX1_bestSplit_29 rfl (lv_at hl 4 rfl) ?_
    refine lv_if_lt (tgt := 38) hx hb dX1_bestSplit_30 (by decide) (fun c3 => ?_) (fun c3 => ?_)
    · have hw := hw.1 c3
      refine lv_iconst (v := -1) hx hb dX1_bestSplit_38 (by decide) ?_
      have hP9 := hP.sub (ws' := [(x, .inr (1, [.ref aH, .ref aL, .ref aS, .ref aO, .ref aK, .ref aZ, .ref cv, .int tcn, .int mcn, .int swd, .int rwd, .int bpt, .int flm])), (aH, .inl (cI, 34, .inl hd)), (aO, .inl (cI, 4, .inl so)), (aK, .inl (cI, 4, .inl ki))]) [2, 3, 0, 1] rfl
      have hD9 := hD.sub (ws' := [(x, .inr (1, [.ref aH, .ref aL, .ref aS, .ref aO, .ref aK, .ref aZ, .ref cv, .int tcn, .int mcn, .int swd, .int rwd, .int bpt, .int flm])), (aH, .inl (cI, 34, .inl hd)), (aO, .inl (cI, 4, .inl so)), (aK, .inl (cI, 4, .inl ki))]) [2, 3, 0, 1] (by decide) rfl
      rw [← hQ9]
      exact W.iret (v := (-1 : Int32)) hx hb hr (fun t ht hW => ⟨⟨(-1 : Int32), (hd, so, ki), rfl, hw, by rw [ht]; exact hP9, va_K.moved hW.alike hK, hD9⟩, hS.F ht⟩) hS.2.2 dX1_bestSplit_39
    · have hw := hw.2 c3
      refine lv_iload_n hx hb dX1_bestSplit_33 rfl (lv_at hl 4 rfl) ?_
      refine lv_iconst (v := 4) hx hb dX1_bestSplit_34 (by decide) ?_
      refine lv_icmp_lt (tgt := 40) hx hb dX1_bestSplit_35 (by decide) (fun c4 => ?_) (fun c4 => ?_)
      · have hw := hw.1 c4
        refine lv_aload_n hx hb dX1_bestSplit_40 rfl (lv_at hl 1 rfl) ?_
        refine lv_iload_n hx hb dX1_bestSplit_41 rfl (lv_at hl 2 rfl) ?_
        refine lv_iload hx hb dX1_bestSplit_42 (lv_at hl 0 rfl) ?_
        refine lv_iload_n hx hb dX1_bestSplit_44 rfl (lv_at hl 4 rfl) ?_
        have hPc := hP.sub (ws' := [(x, .inr (1, [.ref aH, .ref aL, .ref aS, .ref aO, .ref aK, .ref aZ, .ref cv, .int tcn, .int mcn, .int swd, .int rwd, .int bpt, .int flm])), (aH, .inl (cI, 34, .inl hd)), (aO, .inl (cI, 4, .inl so)), (aK, .inl (cI, 4, .inl ki))]) [2, 3, 0, 1] rfl
        have hDc := hD.sub (ws' := [(x, .inr (1, [.ref aH, .ref aL, .ref aS, .ref aO, .ref aK, .ref aZ, .ref cv, .int tcn, .int mcn, .int swd, .int rwd, .int bpt, .int flm])), (aH, .inl (cI, 34, .inl hd)), (aO, .inl (cI, 4, .inl so)), (aK, .inl (cI, 4, .inl ki))]) [2, 3, 0, 1] (by decide) rfl
        have hFc := va_free (wc := [(x, .inr (1, [.ref aH, .ref aL, .ref aS, .ref aO, .ref aK, .ref aZ, .ref cv, .int tcn, .int mcn, .int swd, .int rwd, .int bpt, .int flm])), (aH, .inl (cI, 34, .inl hd)), (aO, .inl (cI, 4, .inl so)), (aK, .inl (cI, 4, .inl ki))]) hD hS hA [2, 3, 0, 1] rfl
        refine va_calli (va_runV (As := [.int p0, .int r1, .int p2]) (rest := []) ⟨hx, hb, hml, hown, hts⟩ (c_X1_splitWithThree l dC dI cI cZ d9 (w_X1_bestSplit d9) ihd x aH aL aS aO aK aZ cv H.size tcn mcn swd rwd bpt flm hd so ki p0 r1 p2 _ hw) (cwV 3 hts gX1_bestSplit_X1_splitWithThree rfl rfl rfl (by decide +kernel) ⟨(by first | exact Nat.le_of_ble_eq_true rfl | (simp only [headSpec]; omega) | (simp only [headSpec, List.map_nil, List.map_cons, List.sum_nil, List.sum_cons, Value.category]; omega)), (by first | exact Nat.le_of_ble_eq_true rfl | (simp only [headSpec]; omega) | (simp only [headSpec, List.map_nil, List.map_cons, List.sum_nil, List.sum_cons, Value.category]; omega))⟩) ⟨fun a U g mk q => by obtain ⟨q0, q1, qP, qK, qD⟩ := q; exact ⟨q0, q1, qP, va_K.moved (u := U) (U := U.calling g mk a) (Vm.Alike.refl U.vm) qK, qD⟩, va_recv hK hPc (ci := 1) (q0 := 0) rfl rfl, fun U hU hW => ⟨rfl, by rw [hU], by rw [hU]; exact hPc, va_K.moved hW.alike hK, hDc.weaken (fun _ _ _ _ => trivial)⟩⟩ rfl rfl hl.1 rfl (lv_room ((by first | exact Nat.le_of_ble_eq_true rfl | (simp only [headSpec]; omega) | (simp only [headSpec, List.map_nil, List.map_cons, List.sum_nil, List.sum_cons, Value.category]; omega)))) dX1_bestSplit_45 ⟨(by first | exact Nat.le_of_ble_eq_true rfl | (simp only [headSpec]; omega) | (simp only [headSpec, List.map_nil, List.map_cons, List.sum_nil, List.sum_cons, Value.category]; omega)), (by first | exact Nat.le_of_ble_eq_true rfl | (simp only [headSpec]; omega) | (simp only [headSpec, List.map_nil, List.map_cons, List.sum_nil, List.sum_cons, Value.category]; omega))⟩) hS (fun q _ h => hFc q h) hFc (fun r5 u t H1 locs ht hvm hw hB hz1 hk1 hS => ?_)
        obtain ⟨hd_6, so_7, ki_8⟩ := u
        obtain ⟨hP1, -, hD1⟩ := hB
        have hw := And.intro hw trivial
        try dsimp only at hw
        have hw := hw.1
        rw [ht] at hP1
        obtain ⟨hP, hD⟩ := va_join (wr := []) (w1 := [(x, .inr (1, [.ref aH, .ref aL, .ref aS, .ref aO, .ref aK, .ref aZ, .ref cv, .int tcn, .int mcn, .int swd, .int rwd, .int bpt, .int flm])), (aH, .inl (cI, 34, .inl hd_6)), (aO, .inl (cI, 4, .inl so_7)), (aK, .inl (cI, 4, .inl ki_8))]) hP hD [2, 3, 0, 1] [] rfl rfl (by decide) (by decide) hk1 hFc hP1 hD1
        generalize H1 = H at hP hS ⊢
        have hP : va_P (dC, dI) vwCl [(x, .inr (1, [.ref aH, .ref aL, .ref aS, .ref aO, .ref aK, .ref aZ, .ref cv, .int tcn, .int mcn, .int swd, .int rwd, .int bpt, .int flm])), (aH, .inl (cI, 34, .inl hd_6)), (aO, .inl (cI, 4, .inl so_7)), (aK, .inl (cI, 4, .inl ki_8))] H := hP
        have hD : va_D A [(x, .inr (1, [.ref aH, .ref aL, .ref aS, .ref aO, .ref aK, .ref aZ, .ref cv, .int tcn, .int mcn, .int swd, .int rwd, .int bpt, .int flm])), (aH, .inl (cI, 34, .inl hd_6)), (aO, .inl (cI, 4, .inl so_7)), (aK, .inl (cI, 4, .inl ki_8))] := hD
        refine lv_aload_n hx hb dX1_bestSplit_48 rfl (lv_at hl 1 rfl) ?_
        refine lv_iload_n hx hb dX1_bestSplit_49 rfl (lv_at hl 2 rfl) ?_
        refine lv_iload hx hb dX1_bestSplit_50 (lv_at hl 0 rfl) ?_
        refine lv_iload_n hx hb dX1_bestSplit_52 rfl (lv_at hl 4 rfl) ?_
        have hPc := hP.sub (ws' := [(x, .inr (1, [.ref aH, .ref aL, .ref aS, .ref aO, .ref aK, .ref aZ, .ref cv, .int tcn, .int mcn, .int swd, .int rwd, .int bpt, .int flm])), (aH, .inl (cI, 34, .inl hd_6)), (aO, .inl (cI, 4, .inl so_7)), (aK, .inl (cI, 4, .inl ki_8))]) [0, 1, 2, 3] rfl
        have hDc := hD.sub (ws' := [(x, .inr (1, [.ref aH, .ref aL, .ref aS, .ref aO, .ref aK, .ref aZ, .ref cv, .int tcn, .int mcn, .int swd, .int rwd, .int bpt, .int flm])), (aH, .inl (cI, 34, .inl hd_6)), (aO, .inl (cI, 4, .inl so_7)), (aK, .inl (cI, 4, .inl ki_8))]) [0, 1, 2, 3] (by decide) rfl
        have hFc := va_free (wc := [(x, .inr (1, [.ref aH, .ref aL, .ref aS, .ref aO, .ref aK, .ref aZ, .ref cv, .int tcn, .int mcn, .int swd, .int rwd, .int bpt, .int flm])), (aH, .inl (cI, 34, .inl hd_6)), (aO, .inl (cI, 4, .inl so_7)), (aK, .inl (cI, 4, .inl ki_8))]) hD hS hA [0, 1, 2, 3] rfl
        refine va_calli (va_runV (As := [.int p0, .int r1, .int p2]) (rest := [.int r5]) ⟨hx, hb, hml, hown, hts⟩ (c_X1_splitWithRow l dC dI cI cZ d9 (w_X1_bestSplit d9) ihd x aH aL aS aO aK aZ cv H.size tcn mcn swd rwd bpt flm hd_6 so_7 ki_8 p0 r1 p2 _ hw) (cwV 3 hts gX1_bestSplit_X1_splitWithRow rfl rfl rfl (by decide +kernel) ⟨(by first | exact Nat.le_of_ble_eq_true rfl | (simp only [headSpec]; omega) | (simp only [headSpec, List.map_nil, List.map_cons, List.sum_nil, List.sum_cons, Value.category]; omega)), (by first | exact Nat.le_of_ble_eq_true rfl | (simp only [headSpec]; omega) | (simp only [headSpec, List.map_nil, List.map_cons, List.sum_nil, List.sum_cons, Value.category]; omega))⟩) ⟨fun a U g mk q => by obtain ⟨q0, q1, qP, qK, qD⟩ := q; exact ⟨q0, q1, qP, va_K.moved (u := U) (U := U.calling g mk a) (Vm.Alike.refl U.vm) qK, qD⟩, va_recv hK hPc (ci := 1) (q0 := 0) rfl rfl, fun U hU hW => ⟨rfl, by rw [hU], by rw [hU]; exact hPc, va_K.moved hW.alike hK, hDc.weaken (fun _ _ _ _ => trivial)⟩⟩ rfl rfl hl.1 rfl (lv_room ((by first | exact Nat.le_of_ble_eq_true rfl | (simp only [headSpec]; omega) | (simp only [headSpec, List.map_nil, List.map_cons, List.sum_nil, List.sum_cons, Value.category]; omega)))) dX1_bestSplit_53 ⟨(by first | exact Nat.le_of_ble_eq_true rfl | (simp only [headSpec]; omega) | (simp only [headSpec, List.map_nil, List.map_cons, List.sum_nil, List.sum_cons, Value.category]; omega)), (by first | exact Nat.le_of_ble_eq_true rfl | (simp only [headSpec]; omega) | (simp only [headSpec, List.map_nil, List.map_cons, List.sum_nil, List.sum_cons, Value.category]; omega))⟩) hS (fun q _ h => hFc q h) hFc (fun r9 u t H1 locs ht hvm hw hB hz1 hk1 hS => ?_)
        obtain ⟨hd_10, so_11, ki_12⟩ := u
        obtain ⟨hP1, -, hD1⟩ := hB
        have hw := And.intro hw trivial
        try dsimp only at hw
        have hw := hw.1
        rw [ht] at hP1
        obtain ⟨hP, hD⟩ := va_join (wr := []) (w1 := [(x, .inr (1, [.ref aH, .ref aL, .ref aS, .ref aO, .ref aK, .ref aZ, .ref cv, .int tcn, .int mcn, .int swd, .int rwd, .int bpt, .int flm])), (aH, .inl (cI, 34, .inl hd_10)), (aO, .inl (cI, 4, .inl so_11)), (aK, .inl (cI, 4, .inl ki_12))]) hP hD [0, 1, 2, 3] [] rfl rfl (by decide) (by decide) hk1 hFc hP1 hD1
        generalize H1 = H at hP hS ⊢
        have hP : va_P (dC, dI) vwCl [(x, .inr (1, [.ref aH, .ref aL, .ref aS, .ref aO, .ref aK, .ref aZ, .ref cv, .int tcn, .int mcn, .int swd, .int rwd, .int bpt, .int flm])), (aH, .inl (cI, 34, .inl hd_10)), (aO, .inl (cI, 4, .inl so_11)), (aK, .inl (cI, 4, .inl ki_12))] H := hP
        have hD : va_D A [(x, .inr (1, [.ref aH, .ref aL, .ref aS, .ref aO, .ref aK, .ref aZ, .ref cv, .int tcn, .int mcn, .int swd, .int rwd, .int bpt, .int flm])), (aH, .inl (cI, 34, .inl hd_10)), (aO, .inl (cI, 4, .inl so_11)), (aK, .inl (cI, 4, .inl ki_12))] := hD
        refine va_mmax hx hb (hml.trans hl.1.symm) hown (hts (.methodLink RX1 197 Lib.Math.max.name) (by decide +kernel)) (hts (.static Lib.Math.max.name) (by decide +kernel)) (hts (.initialized "java/lang/Math") (by decide +kernel)) (hts (.code Lib.Math.max.name Lib.Math.max.code 2 (some .int)) (by decide +kernel)) ((by first | exact Nat.le_of_ble_eq_true rfl | (simp only [headSpec]; omega) | (simp only [headSpec, List.map_nil, List.map_cons, List.sum_nil, List.sum_cons, Value.category]; omega))) ((by first | exact Nat.le_of_ble_eq_true rfl | (simp only [headSpec]; omega) | (simp only [headSpec, List.map_nil, List.map_cons, List.sum_nil, List.sum_cons, Value.category]; omega))) ((by first | exact Nat.le_of_ble_eq_true rfl | (simp only [headSpec]; omega) | (simp only [headSpec, List.map_nil, List.map_cons, List.sum_nil, List.sum_cons, Value.category]; omega))) ((by first | exact Nat.le_of_ble_eq_true rfl | (simp only [headSpec]; omega) | (simp only [headSpec, List.map_nil, List.map_cons, List.sum_nil, List.sum_cons, Value.category]; omega))) dX1_bestSplit_56 ?_
        rw [← hQ9]
        exact W.iret (v := (if r5 < r9 then r9 else r5)) hx hb hr (fun t ht hW => ⟨⟨(if r5 < r9 then r9 else r5), (hd_10, so_11, ki_12), rfl, hw, by rw [ht]; exact hP, va_K.moved hW.alike hK, hD⟩, hS.F ht⟩) hS.2.2 dX1_bestSplit_59
      · have hw := hw.2 c4
        refine lv_iconst (v := -1) hx hb dX1_bestSplit_38 (by decide) ?_
        have hP9 := hP.sub (ws' := [(x, .inr (1, [.ref aH, .ref aL, .ref aS, .ref aO, .ref aK, .ref aZ, .ref cv, .int tcn, .int mcn, .int swd, .int rwd, .int bpt, .int flm])), (aH, .inl (cI, 34, .inl hd)), (aO, .inl (cI, 4, .inl so)), (aK, .inl (cI, 4, .inl ki))]) [2, 3, 0, 1] rfl
        have hD9 := hD.sub (ws' := [(x, .inr (1, [.ref aH, .ref aL, .ref aS, .ref aO, .ref aK, .ref aZ, .ref cv, .int tcn, .int mcn, .int swd, .int rwd, .int bpt, .int flm])), (aH, .inl (cI, 34, .inl hd)), (aO, .inl (cI, 4, .inl so)), (aK, .inl (cI, 4, .inl ki))]) [2, 3, 0, 1] (by decide) rfl
        rw [← hQ9]
        exact W.iret (v := (-1 : Int32)) hx hb hr (fun t ht hW => ⟨⟨(-1 : Int32), (hd, so, ki), rfl, hw, by rw [ht]; exact hP9, va_K.moved hW.alike hK, hD9⟩, hS.F ht⟩) hS.2.2 dX1_bestSplit_39
  · have hw := hw.1 c2
    refine lv_iload_n hx hb dX1_bestSplit_14 rfl (lv_at hl 4 rfl) ?_
    refine lv_iconst (v := 4) hx hb dX1_bestSplit_15 (by decide) ?_
    refine lv_icmp_ne (tgt := 27) hx hb dX1_bestSplit_16 (by decide) (fun c13 => ?_) (fun c13 => ?_)
    · have hw := hw.2 c13
      refine lv_iconst (v := -1) hx hb dX1_bestSplit_27 (by decide) ?_
      have hP9 := hP.sub (ws' := [(x, .inr (1, [.ref aH, .ref aL, .ref aS, .ref aO, .ref aK, .ref aZ, .ref cv, .int tcn, .int mcn, .int swd, .int rwd, .int bpt, .int flm])), (aH, .inl (cI, 34, .inl hd)), (aO, .inl (cI, 4, .inl so)), (aK, .inl (cI, 4, .inl ki))]) [2, 3, 0, 1] rfl
      have hD9 := hD.sub (ws' := [(x, .inr (1, [.ref aH, .ref aL, .ref aS, .ref aO, .ref aK, .ref aZ, .ref cv, .int tcn, .int mcn, .int swd, .int rwd, .int bpt, .int flm])), (aH, .inl (cI, 34, .inl hd)), (aO, .inl (cI, 4, .inl so)), (aK, .inl (cI, 4, .inl ki))]) [2, 3, 0, 1] (by decide) rfl
      rw [← hQ9]
      exact W.iret (v := (-1 : Int32)) hx hb hr (fun t ht hW => ⟨⟨(-1 : Int32), (hd, so, ki), rfl, hw, by rw [ht]; exact hP9, va_K.moved hW.alike hK, hD9⟩, hS.F ht⟩) hS.2.2 dX1_bestSplit_28
    · have hw := hw.1 c13
      refine lv_aload_n hx hb dX1_bestSplit_19 rfl (lv_at hl 1 rfl) ?_
      refine lv_iload_n hx hb dX1_bestSplit_20 rfl (lv_at hl 2 rfl) ?_
      have hPc := hP.sub (ws' := [(x, .inr (1, [.ref aH, .ref aL, .ref aS, .ref aO, .ref aK, .ref aZ, .ref cv, .int tcn, .int mcn, .int swd, .int rwd, .int bpt, .int flm])), (aO, .inl (cI, 4, .inl so)), (aK, .inl (cI, 4, .inl ki))]) [2, 0, 1] rfl
      have hDc := hD.sub (ws' := [(x, .inr (1, [.ref aH, .ref aL, .ref aS, .ref aO, .ref aK, .ref aZ, .ref cv, .int tcn, .int mcn, .int swd, .int rwd, .int bpt, .int flm])), (aO, .inl (cI, 4, .inl so)), (aK, .inl (cI, 4, .inl ki))]) [2, 0, 1] (by decide) rfl
      have hFc := va_free (wc := [(x, .inr (1, [.ref aH, .ref aL, .ref aS, .ref aO, .ref aK, .ref aZ, .ref cv, .int tcn, .int mcn, .int swd, .int rwd, .int bpt, .int flm])), (aO, .inl (cI, 4, .inl so)), (aK, .inl (cI, 4, .inl ki))]) hD hS hA [2, 0, 1] rfl
      refine va_calli (va_runV (As := [.int p0]) (rest := []) ⟨hx, hb, hml, hown, hts⟩ (c_X1_fansOfSets l dC dI cI cZ x aH aL aS aO aK aZ cv H.size tcn mcn swd rwd bpt flm so ki p0 _ hw) (cwV 1 hts gX1_bestSplit_X1_fansOfSets rfl rfl rfl (by decide +kernel) ⟨(by first | exact Nat.le_of_ble_eq_true rfl | (simp only [headSpec]; omega) | (simp only [headSpec, List.map_nil, List.map_cons, List.sum_nil, List.sum_cons, Value.category]; omega)), (by first | exact Nat.le_of_ble_eq_true rfl | (simp only [headSpec]; omega) | (simp only [headSpec, List.map_nil, List.map_cons, List.sum_nil, List.sum_cons, Value.category]; omega))⟩) ⟨fun a U g mk q => by obtain ⟨q0, q1, qP, qK, qD⟩ := q; exact ⟨q0, q1, qP, va_K.moved (u := U) (U := U.calling g mk a) (Vm.Alike.refl U.vm) qK, qD⟩, va_recv hK hPc (ci := 1) (q0 := 0) rfl rfl, fun U hU hW => ⟨rfl, by rw [hU], by rw [hU]; exact hPc, va_K.moved hW.alike hK, hDc.weaken (fun _ _ _ _ => trivial)⟩⟩ rfl rfl hl.1 rfl (lv_room ((by first | exact Nat.le_of_ble_eq_true rfl | (simp only [headSpec]; omega) | (simp only [headSpec, List.map_nil, List.map_cons, List.sum_nil, List.sum_cons, Value.category]; omega)))) dX1_bestSplit_21 ⟨(by first | exact Nat.le_of_ble_eq_true rfl | (simp only [headSpec]; omega) | (simp only [headSpec, List.map_nil, List.map_cons, List.sum_nil, List.sum_cons, Value.category]; omega)), (by first | exact Nat.le_of_ble_eq_true rfl | (simp only [headSpec]; omega) | (simp only [headSpec, List.map_nil, List.map_cons, List.sum_nil, List.sum_cons, Value.category]; omega))⟩) hS (fun q _ h => hFc q h) hFc (fun r14 u t H1 locs ht hvm hw hB hz1 hk1 hS => ?_)
      obtain ⟨hP1, -, hD1⟩ := hB
      have hw := And.intro hw trivial
      try dsimp only at hw
      have hw := hw.1
      rw [ht] at hP1
      obtain ⟨hP, hD⟩ := va_join (wr := [(aH, .inl (cI, 34, .inl hd))]) (w1 := [(x, .inr (1, [.ref aH, .ref aL, .ref aS, .ref aO, .ref aK, .ref aZ, .ref cv, .int tcn, .int mcn, .int swd, .int rwd, .int bpt, .int flm])), (aO, .inl (cI, 4, .inl so)), (aK, .inl (cI, 4, .inl ki))]) hP hD [2, 0, 1] [3] rfl rfl (by decide) (by decide) hk1 hFc hP1 hD1
      generalize H1 = H at hP hS ⊢
      have hP : va_P (dC, dI) vwCl [(aH, .inl (cI, 34, .inl hd)), (x, .inr (1, [.ref aH, .ref aL, .ref aS, .ref aO, .ref aK, .ref aZ, .ref cv, .int tcn, .int mcn, .int swd, .int rwd, .int bpt, .int flm])), (aO, .inl (cI, 4, .inl so)), (aK, .inl (cI, 4, .inl ki))] H := hP
      have hD : va_D A [(aH, .inl (cI, 34, .inl hd)), (x, .inr (1, [.ref aH, .ref aL, .ref aS, .ref aO, .ref aK, .ref aZ, .ref cv, .int tcn, .int mcn, .int swd, .int rwd, .int bpt, .int flm])), (aO, .inl (cI, 4, .inl so)), (aK, .inl (cI, 4, .inl ki))] := hD
      refine lv_goto (tgt := 28) hx hb dX1_bestSplit_24 (by decide) ?_
      have hP9 := hP.sub (ws' := [(x, .inr (1, [.ref aH, .ref aL, .ref aS, .ref aO, .ref aK, .ref aZ, .ref cv, .int tcn, .int mcn, .int swd, .int rwd, .int bpt, .int flm])), (aH, .inl (cI, 34, .inl hd)), (aO, .inl (cI, 4, .inl so)), (aK, .inl (cI, 4, .inl ki))]) [1, 0, 2, 3] rfl
      have hD9 := hD.sub (ws' := [(x, .inr (1, [.ref aH, .ref aL, .ref aS, .ref aO, .ref aK, .ref aZ, .ref cv, .int tcn, .int mcn, .int swd, .int rwd, .int bpt, .int flm])), (aH, .inl (cI, 34, .inl hd)), (aO, .inl (cI, 4, .inl so)), (aK, .inl (cI, 4, .inl ki))]) [1, 0, 2, 3] (by decide) rfl
      rw [← hQ9]
      exact W.iret (v := r14) hx hb hr (fun t ht hW => ⟨⟨r14, (hd, so, ki), rfl, hw, by rw [ht]; exact hP9, va_K.moved hW.alike hK, hD9⟩, hS.F ht⟩) hS.2.2 dX1_bestSplit_28

abbrev c_X1_bestSplit (l : Launch) (dC : Nat → ClassId) (dI : Nat → Nat → Nat) (cI cZ : ClassId) (x : Nat) (aH : Nat) (aL : Nat) (aS : Nat) (aO : Nat) (aK : Nat) (aZ : Nat) (cv : Nat) (sz : Nat) (tcn : Int32) (mcn : Int32) (swd : Int32) (rwd : Int32) (bpt : Int32) (flm : Int32) (hd : (Nat → Int32)) (so : (Nat → Int32)) (ki : (Nat → Int32)) (p0 : Int32) (p1 : Int32) (p2 : Int32) (post : Int32 → (Nat → Int32) → (Nat → Int32) → (Nat → Int32) → Prop) (hw : w_X1_bestSplit 6 mcn swd rwd hd so ki p0 p1 p2 post) := cd_X1_bestSplit l dC dI cI cZ 6 x aH aL aS aO aK aZ cv sz tcn mcn swd rwd bpt flm hd so ki p0 p1 p2 post hw

def w_X1_bestOfGroups_b55 (post : Int32 → (Nat → Int32) → (Nat → Int32) → (Nat → Int32) → Prop) (mcn : Int32) (swd : Int32) (rwd : Int32) (K4 : Int32 → Int32 → (Nat → Int32) → (Nat → Int32) → (Nat → Int32) → Prop) (v1 : Int32) (v2 : Int32) (hd : (Nat → Int32)) (so : (Nat → Int32)) (ki : (Nat → Int32)) : Prop := K4 v1 (v2 + 1) hd so ki

def w_X1_bestOfGroups_b4 (post : Int32 → (Nat → Int32) → (Nat → Int32) → (Nat → Int32) → Prop) (mcn : Int32) (swd : Int32) (rwd : Int32) : Nat → Int32 → Int32 → (Nat → Int32) → (Nat → Int32) → (Nat → Int32) → Prop
  | 0, _, _, _, _, _ => False
  | n + 1, v1, v2, hd, so, ki => (((34 : Int32) ≤ v2 → (post v1 hd so ki)) ∧ (¬ (34 : Int32) ≤ v2 → (vp_in v2 34 ∧ ((((hd v2.toNatClampNeg) < (2 : Int32) → (w_X1_bestOfGroups_b55 post mcn swd rwd (w_X1_bestOfGroups_b4 post mcn swd rwd n) v1 v2 hd so ki)) ∧ (¬ (hd v2.toNatClampNeg) < (2 : Int32) → (vp_in v2 34 ∧ (vp_in v2 34 ∧ (w_X1_bestSplit 6 mcn swd rwd (upd hd v2.toNatClampNeg ((hd v2.toNatClampNeg) - (2 : Int32))) so ki v2 (0 : Int32) mcn (fun r6 hd_7 so_8 ki_9 => (∀ t10 : Int32, t10 = (if v1 < r6 then r6 else v1) → (vp_in v2 34 ∧ (vp_in v2 34 ∧ (w_X1_bestOfGroups_b55 post mcn swd rwd (w_X1_bestOfGroups_b4 post mcn swd rwd n) t10 v2 (upd hd_7 v2.toNatClampNeg ((hd_7 v2.toNatClampNeg) + (2 : Int32))) so_8 ki_9))))))))))))))

def w_X1_bestOfGroups (mcn : Int32) (swd : Int32) (rwd : Int32) (hd : (Nat → Int32)) (so : (Nat → Int32)) (ki : (Nat → Int32)) (post : Int32 → (Nat → Int32) → (Nat → Int32) → (Nat → Int32) → Prop) : Prop := ∃ n9, w_X1_bestOfGroups_b4 post mcn swd rwd n9 (-1 : Int32) (0 : Int32) hd so ki

set_option maxHeartbeats 4000000 in
set_option maxRecDepth 100000 in
theorem c_X1_bestOfGroups (l : Launch) (dC : Nat → ClassId) (dI : Nat → Nat → Nat) (cI cZ : ClassId) (x : Nat) (aH : Nat) (aL : Nat) (aS : Nat) (aO : Nat) (aK : Nat) (aZ : Nat) (cv : Nat) (sz : Nat) (tcn : Int32) (mcn : Int32) (swd : Int32) (rwd : Int32) (bpt : Int32) (flm : Int32) (hd : (Nat → Int32)) (so : (Nat → Int32)) (ki : (Nat → Int32)) (post : Int32 → (Nat → Int32) → (Nat → Int32) → (Nat → Int32) → Prop) (hw : w_X1_bestOfGroups mcn swd rwd hd so ki post) : Met l yX1_bestOfGroups wsX1_bestOfGroups ({ frames := 16, cells := 0, slots := 0, locals := 376 } : Room) (va_Pc [.ref x] (fun U => U.heap.size = sz ∧ va_P (dC, dI) vwCl [(x, .inr (1, [.ref aH, .ref aL, .ref aS, .ref aO, .ref aK, .ref aZ, .ref cv, .int tcn, .int mcn, .int swd, .int rwd, .int bpt, .int flm])), (aH, .inl (cI, 34, .inl hd)), (aO, .inl (cI, 4, .inl so)), (aK, .inl (cI, 4, .inl ki))] U.heap ∧ va_K (dC, dI) vwCl [(cI, .int), (cZ, .boolean)] U ∧ va_D (fun _ => True) [(x, .inr (1, [.ref aH, .ref aL, .ref aS, .ref aO, .ref aK, .ref aZ, .ref cv, .int tcn, .int mcn, .int swd, .int rwd, .int bpt, .int flm])), (aH, .inl (cI, 34, .inl hd)), (aO, .inl (cI, 4, .inl so)), (aK, .inl (cI, 4, .inl ki))])) (va_Qi (fun (r9 : Int32) (u9 : (Nat → Int32) × (Nat → Int32) × (Nat → Int32)) => post r9 u9.1 u9.2.1 u9.2.2) (fun (u9 : (Nat → Int32) × (Nat → Int32) × (Nat → Int32)) (t9 : State) => va_P (dC, dI) vwCl [(x, .inr (1, [.ref aH, .ref aL, .ref aS, .ref aO, .ref aK, .ref aZ, .ref cv, .int tcn, .int mcn, .int swd, .int rwd, .int bpt, .int flm])), (aH, .inl (cI, 34, .inl u9.1)), (aO, .inl (cI, 4, .inl u9.2.1)), (aK, .inl (cI, 4, .inl u9.2.2))] t9.heap ∧ va_K (dC, dI) vwCl [(cI, .int), (cZ, .boolean)] t9 ∧ va_D (va_A [(x, .inr (1, [.ref aH, .ref aL, .ref aS, .ref aO, .ref aK, .ref aZ, .ref cv, .int tcn, .int mcn, .int swd, .int rwd, .int bpt, .int flm])), (aH, .inl (cI, 34, .inl hd)), (aO, .inl (cI, 4, .inl so)), (aK, .inl (cI, 4, .inl ki))] sz) [(x, .inr (1, [.ref aH, .ref aL, .ref aS, .ref aO, .ref aK, .ref aZ, .ref cv, .int tcn, .int mcn, .int swd, .int rwd, .int bpt, .int flm])), (aH, .inl (cI, 34, .inl u9.1)), (aO, .inl (cI, 4, .inl u9.2.1)), (aK, .inl (cI, 4, .inl u9.2.2))]) (va_A [(x, .inr (1, [.ref aH, .ref aL, .ref aS, .ref aO, .ref aK, .ref aZ, .ref cv, .int tcn, .int mcn, .int swd, .int rwd, .int bpt, .int flm])), (aH, .inl (cI, 34, .inl hd)), (aO, .inl (cI, 4, .inl so)), (aK, .inl (cI, 4, .inl ki))] sz)) 0 0 (va_A [(x, .inr (1, [.ref aH, .ref aL, .ref aS, .ref aO, .ref aK, .ref aZ, .ref cv, .int tcn, .int mcn, .int swd, .int rwd, .int bpt, .int flm])), (aH, .inl (cI, 34, .inl hd)), (aO, .inl (cI, 4, .inl so)), (aK, .inl (cI, 4, .inl ki))] sz) := by
  refine Met.ofW (cc := cX1_bestOfGroups) (maxL := 3) (ret := (some .int)) (by decide) rfl ?_
  intro p e s m args below meth c s₁ B hml hv
  obtain ⟨rfl, hsz, hP, hK, hD0⟩ := hv
  have hx := B.exec
  have hb := B.bytes
  have hr := B.returns
  have hts := atoms_spec (ws := wsX1_bestOfGroups) B.pre
  have hown : s.vm.findClass RX1 = some m.cls := findClass_of_methodNamed B.named
  have hlocks := B.notSynchronized
  have hinX1 : ∀ w ∈ u_ws RX1 TX1 13, w ∈ wsX1_bestOfGroups := by decide +kernel
  subst hsz
  have hD := hD0.self (sz := s.heap.size)
  generalize hAe : va_A [(x, .inr (1, [.ref aH, .ref aL, .ref aS, .ref aO, .ref aK, .ref aZ, .ref cv, .int tcn, .int mcn, .int swd, .int rwd, .int bpt, .int flm])), (aH, .inl (cI, 34, .inl hd)), (aO, .inl (cI, 4, .inl so)), (aK, .inl (cI, 4, .inl ki))] s.heap.size = A at hD ⊢
  have hA : ∀ q : Nat, s.heap.size ≤ q → A q := fun q h => by rw [← hAe]; exact Or.inr h
  have hS : va_S A s.heap s.heap [] := va_S.rf
  have hl := lv_entry ([.ref x]) (n := 3) (Nat.le_of_ble_eq_true rfl)
  rw [lg_entry_eq]
  generalize (lg_sl ([.ref x]) ++ List.replicate (3 - (lg_sl ([.ref x])).length) Slot.unset).toArray = ls at hl ⊢
  have hl : lv_has ls 3 [(0, .ref x)] := hl
  refine (?_ : ∀ Q9 : State → Prop, MQ below _ _ s _ _ _ = Q9 → W p l e ({ frames := 16, cells := 0, slots := 0, locals := 376 } : Room) s m _ below meth c s.heap [] 0 0 Q9 (F0 m 0 ls [])) _ rfl
  intro Q9 hQ9
  have hw : ∃ n9, w_X1_bestOfGroups_b4 post mcn swd rwd n9 (-1 : Int32) (0 : Int32) hd so ki := hw
  have L55 : ∀ (K4 : Int32 → Int32 → (Nat → Int32) → (Nat → Int32) → (Nat → Int32) → Prop) (hK4 : ∀ (v1 : Int32) (v2 : Int32) (hd : (Nat → Int32)) (so : (Nat → Int32)) (ki : (Nat → Int32)) (H : Heap) (locs : List Loc) (ls : Array Slot), K4 v1 v2 hd so ki → va_P (dC, dI) vwCl [(x, .inr (1, [.ref aH, .ref aL, .ref aS, .ref aO, .ref aK, .ref aZ, .ref cv, .int tcn, .int mcn, .int swd, .int rwd, .int bpt, .int flm])), (aH, .inl (cI, 34, .inl hd)), (aO, .inl (cI, 4, .inl so)), (aK, .inl (cI, 4, .inl ki))] H → va_D A [(x, .inr (1, [.ref aH, .ref aL, .ref aS, .ref aO, .ref aK, .ref aZ, .ref cv, .int tcn, .int mcn, .int swd, .int rwd, .int bpt, .int flm])), (aH, .inl (cI, 34, .inl hd)), (aO, .inl (cI, 4, .inl so)), (aK, .inl (cI, 4, .inl ki))] → va_S A s.heap H locs → lv_has ls 3 [(0, .ref x), (1, .int v1), (2, .int v2)] → W p l e ({ frames := 16, cells := 0, slots := 0, locals := 376 } : Room) s m ([.ref x] : List Value).toArray below meth c H locs 0 0 Q9 (F0 m 4 ls [])), ∀ (v1 : Int32) (v2 : Int32) (hd : (Nat → Int32)) (so : (Nat → Int32)) (ki : (Nat → Int32)) (H : Heap) (locs : List Loc) (ls : Array Slot), w_X1_bestOfGroups_b55 post mcn swd rwd K4 v1 v2 hd so ki → va_P (dC, dI) vwCl [(x, .inr (1, [.ref aH, .ref aL, .ref aS, .ref aO, .ref aK, .ref aZ, .ref cv, .int tcn, .int mcn, .int swd, .int rwd, .int bpt, .int flm])), (aH, .inl (cI, 34, .inl hd)), (aO, .inl (cI, 4, .inl so)), (aK, .inl (cI, 4, .inl ki))] H → va_D A [(x, .inr (1, [.ref aH, .ref aL, .ref aS, .ref aO, .ref aK, .ref aZ, .ref cv, .int tcn, .int mcn, .int swd, .int rwd, .int bpt, .int flm])), (aH, .inl (cI, 34, .inl hd)), (aO, .inl (cI, 4, .inl so)), (aK, .inl (cI, 4, .inl ki))] → va_S A s.heap H locs → lv_has ls 3 [(0, .ref x), (1, .int v1), (2, .int v2)] → W p l e ({ frames := 16, cells := 0, slots := 0, locals := 376 } : Room) s m ([.ref x] : List Value).toArray below meth c H locs 0 0 Q9 (F0 m 55 ls []) := by
    intro K4 hK4 v1 v2 hd so ki H locs ls hw hP hD hS hl
    refine lv_iinc (v := v2 + 1) (lv' := [(2, .int (v2 + 1)), (0, .ref x), (1, .int v1)]) hx hb dX1_bestOfGroups_55 hl (k := 2) rfl rfl (by decide) rfl (fun ls hl => ?_)
    refine lv_goto (tgt := 4) hx hb dX1_bestOfGroups_58 (by decide) ?_
    exact hK4 v1 (v2 + 1) hd so ki _ _ _ hw hP hD hS (lv_sub hl [1, 2, 0] rfl)
  have L4 : ∀ (n : Nat), ∀ (v1 : Int32) (v2 : Int32) (hd : (Nat → Int32)) (so : (Nat → Int32)) (ki : (Nat → Int32)) (H : Heap) (locs : List Loc) (ls : Array Slot), w_X1_bestOfGroups_b4 post mcn swd rwd n v1 v2 hd so ki → va_P (dC, dI) vwCl [(x, .inr (1, [.ref aH, .ref aL, .ref aS, .ref aO, .ref aK, .ref aZ, .ref cv, .int tcn, .int mcn, .int swd, .int rwd, .int bpt, .int flm])), (aH, .inl (cI, 34, .inl hd)), (aO, .inl (cI, 4, .inl so)), (aK, .inl (cI, 4, .inl ki))] H → va_D A [(x, .inr (1, [.ref aH, .ref aL, .ref aS, .ref aO, .ref aK, .ref aZ, .ref cv, .int tcn, .int mcn, .int swd, .int rwd, .int bpt, .int flm])), (aH, .inl (cI, 34, .inl hd)), (aO, .inl (cI, 4, .inl so)), (aK, .inl (cI, 4, .inl ki))] → va_S A s.heap H locs → lv_has ls 3 [(0, .ref x), (1, .int v1), (2, .int v2)] → W p l e ({ frames := 16, cells := 0, slots := 0, locals := 376 } : Room) s m ([.ref x] : List Value).toArray below meth c H locs 0 0 Q9 (F0 m 4 ls []) := by
    intro n
    induction n with
    | zero => intro v1 v2 hd so ki H locs ls hw _ _ _ _; exact False.elim hw
    | succ n ih =>
      intro v1 v2 hd so ki H locs ls hw hP hD hS hl
      refine lv_iload_n hx hb dX1_bestOfGroups_4 rfl (lv_at hl 2 rfl) ?_
      refine lv_bipush (v := 34) hx hb dX1_bestOfGroups_5 (by decide) ?_
      refine lv_icmp_ge (tgt := 61) hx hb dX1_bestOfGroups_7 (by decide) (fun c1 => ?_) (fun c1 => ?_)
      · have hw := hw.1 c1
        refine lv_iload_n hx hb dX1_bestOfGroups_61 rfl (lv_at hl 1 rfl) ?_
        rw [← hQ9]
        exact W.iret (v := v1) hx hb hr (fun t ht hW => ⟨⟨v1, (hd, so, ki), rfl, hw, by rw [ht]; exact hP, va_K.moved hW.alike hK, hD⟩, hS.F ht⟩) hS.2.2 dX1_bestOfGroups_62
      · have hw := hw.2 c1
        refine lv_aload_n hx hb dX1_bestOfGroups_10 rfl (lv_at hl 0 rfl) ?_
        refine va_get (D := (dC, dI)) (ci := 1) (v := .ref aH) (C := RX1) (T := TX1) (N := 13) hx hb hts hinX1 hown hK hP 0 rfl rfl 0 (by decide) (hts (.fieldLink RX1 9 "TileHand" "hand" "[I") (by decide +kernel)) (fun _ h9 => h9) rfl dX1_bestOfGroups_11 ?_
        refine lv_iload_n hx hb dX1_bestOfGroups_14 rfl (lv_at hl 2 rfl) ?_
        obtain ⟨h2, hw⟩ := hw
        refine va_iald hx hb hK hP 1 0 rfl rfl h2 dX1_bestOfGroups_15 ?_
        refine lv_iconst (v := 2) hx hb dX1_bestOfGroups_16 (by decide) ?_
        refine lv_icmp_lt (tgt := 55) hx hb dX1_bestOfGroups_17 (by decide) (fun c3 => ?_) (fun c3 => ?_)
        · have hw := hw.1 c3
          exact L55 (w_X1_bestOfGroups_b4 post mcn swd rwd n) ih v1 v2 hd so ki _ _ _ hw hP hD hS (lv_sub hl [0, 1, 2] rfl)
        · have hw := hw.2 c3
          refine lv_aload_n hx hb dX1_bestOfGroups_20 rfl (lv_at hl 0 rfl) ?_
          refine va_get (D := (dC, dI)) (ci := 1) (v := .ref aH) (C := RX1) (T := TX1) (N := 13) hx hb hts hinX1 hown hK hP 0 rfl rfl 0 (by decide) (hts (.fieldLink RX1 9 "TileHand" "hand" "[I") (by decide +kernel)) (fun _ h9 => h9) rfl dX1_bestOfGroups_21 ?_
          refine lv_iload_n hx hb dX1_bestOfGroups_24 rfl (lv_at hl 2 rfl) ?_
          refine lv_dup2_11 hx hb dX1_bestOfGroups_25 rfl rfl ?_
          obtain ⟨h4, hw⟩ := hw
          refine va_iald hx hb hK hP 1 0 rfl rfl h4 dX1_bestOfGroups_26 ?_
          refine lv_iconst (v := 2) hx hb dX1_bestOfGroups_27 (by decide) ?_
          refine lv_isub hx hb dX1_bestOfGroups_28 ?_
          obtain ⟨h5, hw⟩ := hw
          refine va_iast hx hb hK hP hD hS 1 0 rfl rfl h5 dX1_bestOfGroups_29 (fun H locs hP hD hS => ?_)
          have hP : va_P (dC, dI) vwCl [(x, .inr (1, [.ref aH, .ref aL, .ref aS, .ref aO, .ref aK, .ref aZ, .ref cv, .int tcn, .int mcn, .int swd, .int rwd, .int bpt, .int flm])), (aH, .inl (cI, 34, .inl (upd hd v2.toNatClampNeg ((hd v2.toNatClampNeg) - (2 : Int32))))), (aO, .inl (cI, 4, .inl so)), (aK, .inl (cI, 4, .inl ki))] H := hP
          have hD : va_D A [(x, .inr (1, [.ref aH, .ref aL, .ref aS, .ref aO, .ref aK, .ref aZ, .ref cv, .int tcn, .int mcn, .int swd, .int rwd, .int bpt, .int flm])), (aH, .inl (cI, 34, .inl (upd hd v2.toNatClampNeg ((hd v2.toNatClampNeg) - (2 : Int32))))), (aO, .inl (cI, 4, .inl so)), (aK, .inl (cI, 4, .inl ki))] := hD
          refine lv_iload_n hx hb dX1_bestOfGroups_30 rfl (lv_at hl 1 rfl) ?_
          refine lv_aload_n hx hb dX1_bestOfGroups_31 rfl (lv_at hl 0 rfl) ?_
          refine lv_iload_n hx hb dX1_bestOfGroups_32 rfl (lv_at hl 2 rfl) ?_
          refine lv_iconst (v := 0) hx hb dX1_bestOfGroups_33 (by decide) ?_
          refine lv_aload_n hx hb dX1_bestOfGroups_34 rfl (lv_at hl 0 rfl) ?_
          refine va_get (D := (dC, dI)) (ci := 1) (v := .int mcn) (C := RX1) (T := TX1) (N := 13) hx hb hts hinX1 hown hK hP 0 rfl rfl 8 (by decide) (hts (.fieldLink RX1 89 "TileHand" "meldCount" "I") (by decide +kernel)) (fun _ h9 => h9) rfl dX1_bestOfGroups_35 ?_
          have hPc := hP.sub (ws' := [(x, .inr (1, [.ref aH, .ref aL, .ref aS, .ref aO, .ref aK, .ref aZ, .ref cv, .int tcn, .int mcn, .int swd, .int rwd, .int bpt, .int flm])), (aH, .inl (cI, 34, .inl (upd hd v2.toNatClampNeg ((hd v2.toNatClampNeg) - (2 : Int32))))), (aO, .inl (cI, 4, .inl so)), (aK, .inl (cI, 4, .inl ki))]) [0, 1, 2, 3] rfl
          have hDc := hD.sub (ws' := [(x, .inr (1, [.ref aH, .ref aL, .ref aS, .ref aO, .ref aK, .ref aZ, .ref cv, .int tcn, .int mcn, .int swd, .int rwd, .int bpt, .int flm])), (aH, .inl (cI, 34, .inl (upd hd v2.toNatClampNeg ((hd v2.toNatClampNeg) - (2 : Int32))))), (aO, .inl (cI, 4, .inl so)), (aK, .inl (cI, 4, .inl ki))]) [0, 1, 2, 3] (by decide) rfl
          have hFc := va_free (wc := [(x, .inr (1, [.ref aH, .ref aL, .ref aS, .ref aO, .ref aK, .ref aZ, .ref cv, .int tcn, .int mcn, .int swd, .int rwd, .int bpt, .int flm])), (aH, .inl (cI, 34, .inl (upd hd v2.toNatClampNeg ((hd v2.toNatClampNeg) - (2 : Int32))))), (aO, .inl (cI, 4, .inl so)), (aK, .inl (cI, 4, .inl ki))]) hD hS hA [0, 1, 2, 3] rfl
          refine va_calli (va_runV (As := [.int v2, .int (0 : Int32), .int mcn]) (rest := [.int v1]) ⟨hx, hb, hml, hown, hts⟩ (c_X1_bestSplit l dC dI cI cZ x aH aL aS aO aK aZ cv H.size tcn mcn swd rwd bpt flm (upd hd v2.toNatClampNeg ((hd v2.toNatClampNeg) - (2 : Int32))) so ki v2 (0 : Int32) mcn _ hw) (cwV 3 hts gX1_bestOfGroups_X1_bestSplit rfl rfl rfl (by decide +kernel) ⟨Nat.le_of_ble_eq_true rfl, Nat.le_of_ble_eq_true rfl⟩) ⟨fun a U g mk q => by obtain ⟨q0, q1, qP, qK, qD⟩ := q; exact ⟨q0, q1, qP, va_K.moved (u := U) (U := U.calling g mk a) (Vm.Alike.refl U.vm) qK, qD⟩, va_recv hK hPc (ci := 1) (q0 := 0) rfl rfl, fun U hU hW => ⟨rfl, by rw [hU], by rw [hU]; exact hPc, va_K.moved hW.alike hK, hDc.weaken (fun _ _ _ _ => trivial)⟩⟩ rfl rfl hl.1 rfl (lv_room (Nat.le_of_ble_eq_true rfl)) dX1_bestOfGroups_38 ⟨Nat.le_of_ble_eq_true rfl, Nat.le_of_ble_eq_true rfl⟩) hS (fun q _ h => hFc q h) hFc (fun r6 u t H1 locs ht hvm hw hB hz1 hk1 hS => ?_)
          obtain ⟨hd_7, so_8, ki_9⟩ := u
          obtain ⟨hP1, -, hD1⟩ := hB
          have hw := And.intro hw trivial
          try dsimp only at hw
          have hw := hw.1
          rw [ht] at hP1
          obtain ⟨hP, hD⟩ := va_join (wr := []) (w1 := [(x, .inr (1, [.ref aH, .ref aL, .ref aS, .ref aO, .ref aK, .ref aZ, .ref cv, .int tcn, .int mcn, .int swd, .int rwd, .int bpt, .int flm])), (aH, .inl (cI, 34, .inl hd_7)), (aO, .inl (cI, 4, .inl so_8)), (aK, .inl (cI, 4, .inl ki_9))]) hP hD [0, 1, 2, 3] [] rfl rfl (by decide) (by decide) hk1 hFc hP1 hD1
          generalize H1 = H at hP hS ⊢
          have hP : va_P (dC, dI) vwCl [(x, .inr (1, [.ref aH, .ref aL, .ref aS, .ref aO, .ref aK, .ref aZ, .ref cv, .int tcn, .int mcn, .int swd, .int rwd, .int bpt, .int flm])), (aH, .inl (cI, 34, .inl hd_7)), (aO, .inl (cI, 4, .inl so_8)), (aK, .inl (cI, 4, .inl ki_9))] H := hP
          have hD : va_D A [(x, .inr (1, [.ref aH, .ref aL, .ref aS, .ref aO, .ref aK, .ref aZ, .ref cv, .int tcn, .int mcn, .int swd, .int rwd, .int bpt, .int flm])), (aH, .inl (cI, 34, .inl hd_7)), (aO, .inl (cI, 4, .inl so_8)), (aK, .inl (cI, 4, .inl ki_9))] := hD
          refine va_mmax hx hb (hml.trans hl.1.symm) hown (hts (.methodLink RX1 197 Lib.Math.max.name) (by decide +kernel)) (hts (.static Lib.Math.max.name) (by decide +kernel)) (hts (.initialized "java/lang/Math") (by decide +kernel)) (hts (.code Lib.Math.max.name Lib.Math.max.code 2 (some .int)) (by decide +kernel)) (Nat.le_of_ble_eq_true rfl) (Nat.le_of_ble_eq_true rfl) (Nat.le_of_ble_eq_true rfl) (Nat.le_of_ble_eq_true rfl) dX1_bestOfGroups_41 ?_
          refine lv_topi (fun t10 et10 => ?_)
          have hw := hw t10 et10
          refine lv_istore_n (lv' := [(1, .int t10), (0, .ref x), (2, .int v2)]) hx hb dX1_bestOfGroups_44 rfl hl (by decide) rfl (fun ls hl => ?_)
          refine lv_aload_n hx hb dX1_bestOfGroups_45 rfl (lv_at hl 1 rfl) ?_
          refine va_get (D := (dC, dI)) (ci := 1) (v := .ref aH) (C := RX1) (T := TX1) (N := 13) hx hb hts hinX1 hown hK hP 0 rfl rfl 0 (by decide) (hts (.fieldLink RX1 9 "TileHand" "hand" "[I") (by decide +kernel)) (fun _ h9 => h9) rfl dX1_bestOfGroups_46 ?_
          refine lv_iload_n hx hb dX1_bestOfGroups_49 rfl (lv_at hl 2 rfl) ?_
          refine lv_dup2_11 hx hb dX1_bestOfGroups_50 rfl rfl ?_
          obtain ⟨h11, hw⟩ := hw
          refine va_iald hx hb hK hP 1 0 rfl rfl h11 dX1_bestOfGroups_51 ?_
          refine lv_iconst (v := 2) hx hb dX1_bestOfGroups_52 (by decide) ?_
          refine lv_iadd hx hb dX1_bestOfGroups_53 ?_
          obtain ⟨h12, hw⟩ := hw
          refine va_iast hx hb hK hP hD hS 1 0 rfl rfl h12 dX1_bestOfGroups_54 (fun H locs hP hD hS => ?_)
          have hP : va_P (dC, dI) vwCl [(x, .inr (1, [.ref aH, .ref aL, .ref aS, .ref aO, .ref aK, .ref aZ, .ref cv, .int tcn, .int mcn, .int swd, .int rwd, .int bpt, .int flm])), (aH, .inl (cI, 34, .inl (upd hd_7 v2.toNatClampNeg ((hd_7 v2.toNatClampNeg) + (2 : Int32))))), (aO, .inl (cI, 4, .inl so_8)), (aK, .inl (cI, 4, .inl ki_9))] H := hP
          have hD : va_D A [(x, .inr (1, [.ref aH, .ref aL, .ref aS, .ref aO, .ref aK, .ref aZ, .ref cv, .int tcn, .int mcn, .int swd, .int rwd, .int bpt, .int flm])), (aH, .inl (cI, 34, .inl (upd hd_7 v2.toNatClampNeg ((hd_7 v2.toNatClampNeg) + (2 : Int32))))), (aO, .inl (cI, 4, .inl so_8)), (aK, .inl (cI, 4, .inl ki_9))] := hD
          exact L55 (w_X1_bestOfGroups_b4 post mcn swd rwd n) ih t10 v2 (upd hd_7 v2.toNatClampNeg ((hd_7 v2.toNatClampNeg) + (2 : Int32))) so_8 ki_9 _ _ _ hw hP hD hS (lv_sub hl [1, 0, 2] rfl)
  refine lv_iconst (v := -1) hx hb dX1_bestOfGroups_0 (by decide) ?_
  refine lv_istore_n (lv' := [(1, .int (-1 : Int32)), (0, .ref x)]) hx hb dX1_bestOfGroups_1 rfl hl (by decide) rfl (fun ls hl => ?_)
  refine lv_iconst (v := 0) hx hb dX1_bestOfGroups_2 (by decide) ?_
  refine lv_istore_n (lv' := [(2, .int (0 : Int32)), (1, .int (-1 : Int32)), (0, .ref x)]) hx hb dX1_bestOfGroups_3 rfl hl (by decide) rfl (fun ls hl => ?_)
  obtain ⟨n9, hw⟩ := hw
  exact L4 n9 (-1 : Int32) (0 : Int32) hd so ki _ _ _ hw hP hD hS (lv_sub hl [2, 1, 0] rfl)

def w_X1_isHonour (p0 : Int32) (post : Int32 → Prop) : Prop := ((p0 < (27 : Int32) → (post (0 : Int32))) ∧ (¬ p0 < (27 : Int32) → (post (1 : Int32))))

set_option maxHeartbeats 4000000 in
set_option maxRecDepth 100000 in
theorem c_X1_isHonour (l : Launch) (dC : Nat → ClassId) (dI : Nat → Nat → Nat) (cI cZ : ClassId) (sz : Nat) (p0 : Int32) (post : Int32 → Prop) (hw : w_X1_isHonour p0 post) : Met l yX1_isHonour wsX1_isHonour ({ frames := 0, cells := 0, slots := 0, locals := 0 } : Room) (va_Pc [.int p0] (fun U => U.heap.size = sz ∧ va_P (dC, dI) vwCl [] U.heap ∧ va_K (dC, dI) vwCl [(cI, .int), (cZ, .boolean)] U ∧ va_D (fun _ => True) [])) (va_Qi (fun (r9 : Int32) (u9 : Unit) => post r9) (fun (u9 : Unit) (t9 : State) => va_P (dC, dI) vwCl [] t9.heap ∧ va_K (dC, dI) vwCl [(cI, .int), (cZ, .boolean)] t9 ∧ va_D (va_A [] sz) []) (va_A [] sz)) 0 0 (va_A [] sz) := by
  refine Met.ofW (cc := cX1_isHonour) (maxL := 1) (ret := (some .boolean)) (by decide) rfl ?_
  intro p e s m args below meth c s₁ B hml hv
  obtain ⟨rfl, hsz, hP, hK, hD0⟩ := hv
  have hx := B.exec
  have hb := B.bytes
  have hr := B.returns
  have hts := atoms_spec (ws := wsX1_isHonour) B.pre
  have hown : s.vm.findClass RX1 = some m.cls := findClass_of_methodNamed B.named
  have hlocks := B.notSynchronized
  subst hsz
  have hD := hD0.self (sz := s.heap.size)
  generalize hAe : va_A [] s.heap.size = A at hD ⊢
  have hA : ∀ q : Nat, s.heap.size ≤ q → A q := fun q h => by rw [← hAe]; exact Or.inr h
  have hS : va_S A s.heap s.heap [] := va_S.rf
  have hl := lv_entry ([.int p0]) (n := 1) (Nat.le_of_ble_eq_true rfl)
  rw [lg_entry_eq]
  generalize (lg_sl ([.int p0]) ++ List.replicate (1 - (lg_sl ([.int p0])).length) Slot.unset).toArray = ls at hl ⊢
  have hl : lv_has ls 1 [(0, .int p0)] := hl
  refine (?_ : ∀ Q9 : State → Prop, MQ below _ _ s _ _ _ = Q9 → W p l e ({ frames := 0, cells := 0, slots := 0, locals := 0 } : Room) s m _ below meth c s.heap [] 0 0 Q9 (F0 m 0 ls [])) _ rfl
  intro Q9 hQ9
  have hw : ((p0 < (27 : Int32) → (post (0 : Int32))) ∧ (¬ p0 < (27 : Int32) → (post (1 : Int32)))) := hw
  refine lv_iload_n hx hb dX1_isHonour_0 rfl (lv_at hl 0 rfl) ?_
  refine lv_bipush (v := 27) hx hb dX1_isHonour_1 (by decide) ?_
  refine lv_icmp_lt (tgt := 10) hx hb dX1_isHonour_3 (by decide) (fun c1 => ?_) (fun c1 => ?_)
  · have hw := hw.1 c1
    refine lv_iconst (v := 0) hx hb dX1_isHonour_10 (by decide) ?_
    rw [← hQ9]
    exact W.zret (v := (0 : Int32)) hx hb hr rfl (fun t ht hW => ⟨⟨(0 : Int32), (), rfl, hw, by rw [ht]; exact hP, va_K.moved hW.alike hK, hD⟩, hS.F ht⟩) hS.2.2 dX1_isHonour_11
  · have hw := hw.2 c1
    refine lv_iconst (v := 1) hx hb dX1_isHonour_6 (by decide) ?_
    refine lv_goto (tgt := 11) hx hb dX1_isHonour_7 (by decide) ?_
    rw [← hQ9]
    exact W.zret (v := (1 : Int32)) hx hb hr rfl (fun t ht hW => ⟨⟨(1 : Int32), (), rfl, hw, by rw [ht]; exact hP, va_K.moved hW.alike hK, hD⟩, hS.F ht⟩) hS.2.2 dX1_isHonour_11

def w_X1_isEnd_b22 (post : Int32 → Prop) (p0 : Int32) : Prop := post (1 : Int32)

def w_X1_isEnd (p0 : Int32) (post : Int32 → Prop) : Prop := ∀ t1 : Int32, t1 = p0 - p0 / (9 : Int32) * (9 : Int32) → (w_X1_isHonour p0 (fun r2 => (((r2 = 0 → (((t1 = 0 → (w_X1_isEnd_b22 post p0)) ∧ (¬ t1 = 0 → (((t1 = (8 : Int32) → (w_X1_isEnd_b22 post p0)) ∧ (¬ t1 = (8 : Int32) → (post (0 : Int32))))))))) ∧ (¬ r2 = 0 → (post (0 : Int32)))))))

set_option maxHeartbeats 4000000 in
set_option maxRecDepth 100000 in
theorem c_X1_isEnd (l : Launch) (dC : Nat → ClassId) (dI : Nat → Nat → Nat) (cI cZ : ClassId) (sz : Nat) (p0 : Int32) (post : Int32 → Prop) (hw : w_X1_isEnd p0 post) : Met l yX1_isEnd wsX1_isEnd ({ frames := 2, cells := 0, slots := 0, locals := 40 } : Room) (va_Pc [.int p0] (fun U => U.heap.size = sz ∧ va_P (dC, dI) vwCl [] U.heap ∧ va_K (dC, dI) vwCl [(cI, .int), (cZ, .boolean)] U ∧ va_D (fun _ => True) [])) (va_Qi (fun (r9 : Int32) (u9 : Unit) => post r9) (fun (u9 : Unit) (t9 : State) => va_P (dC, dI) vwCl [] t9.heap ∧ va_K (dC, dI) vwCl [(cI, .int), (cZ, .boolean)] t9 ∧ va_D (va_A [] sz) []) (va_A [] sz)) 0 0 (va_A [] sz) := by
  refine Met.ofW (cc := cX1_isEnd) (maxL := 2) (ret := (some .boolean)) (by decide) rfl ?_
  intro p e s m args below meth c s₁ B hml hv
  obtain ⟨rfl, hsz, hP, hK, hD0⟩ := hv
  have hx := B.exec
  have hb := B.bytes
  have hr := B.returns
  have hts := atoms_spec (ws := wsX1_isEnd) B.pre
  have hown : s.vm.findClass RX1 = some m.cls := findClass_of_methodNamed B.named
  have hlocks := B.notSynchronized
  subst hsz
  have hD := hD0.self (sz := s.heap.size)
  generalize hAe : va_A [] s.heap.size = A at hD ⊢
  have hA : ∀ q : Nat, s.heap.size ≤ q → A q := fun q h => by rw [← hAe]; exact Or.inr h
  have hS : va_S A s.heap s.heap [] := va_S.rf
  have hl := lv_entry ([.int p0]) (n := 2) (Nat.le_of_ble_eq_true rfl)
  rw [lg_entry_eq]
  generalize (lg_sl ([.int p0]) ++ List.replicate (2 - (lg_sl ([.int p0])).length) Slot.unset).toArray = ls at hl ⊢
  have hl : lv_has ls 2 [(0, .int p0)] := hl
  refine (?_ : ∀ Q9 : State → Prop, MQ below _ _ s _ _ _ = Q9 → W p l e ({ frames := 2, cells := 0, slots := 0, locals := 40 } : Room) s m _ below meth c s.heap [] 0 0 Q9 (F0 m 0 ls [])) _ rfl
  intro Q9 hQ9
  have hw : ∀ t1 : Int32, t1 = p0 - p0 / (9 : Int32) * (9 : Int32) → (w_X1_isHonour p0 (fun r2 => (((r2 = 0 → (((t1 = 0 → (w_X1_isEnd_b22 post p0)) ∧ (¬ t1 = 0 → (((t1 = (8 : Int32) → (w_X1_isEnd_b22 post p0)) ∧ (¬ t1 = (8 : Int32) → (post (0 : Int32))))))))) ∧ (¬ r2 = 0 → (post (0 : Int32))))))) := hw
  have L22 : ∀ (H : Heap) (locs : List Loc) (ls : Array Slot), w_X1_isEnd_b22 post p0 → va_P (dC, dI) vwCl [] H → va_D A [] → va_S A s.heap H locs → lv_has ls 2 [] → W p l e ({ frames := 2, cells := 0, slots := 0, locals := 40 } : Room) s m ([.int p0] : List Value).toArray below meth c H locs 0 0 Q9 (F0 m 22 ls []) := by
    intro H locs ls hw hP hD hS hl
    refine lv_iconst (v := 1) hx hb dX1_isEnd_22 (by decide) ?_
    refine lv_goto (tgt := 27) hx hb dX1_isEnd_23 (by decide) ?_
    rw [← hQ9]
    exact W.zret (v := (1 : Int32)) hx hb hr rfl (fun t ht hW => ⟨⟨(1 : Int32), (), rfl, hw, by rw [ht]; exact hP, va_K.moved hW.alike hK, hD⟩, hS.F ht⟩) hS.2.2 dX1_isEnd_27
  refine lv_iload_n hx hb dX1_isEnd_0 rfl (lv_at hl 0 rfl) ?_
  refine lv_bipush (v := 9) hx hb dX1_isEnd_1 (by decide) ?_
  refine lv_irem hx hb dX1_isEnd_3 (by decide) ?_
  refine lv_topi (fun t1 et1 => ?_)
  have hw := hw t1 et1
  refine lv_istore_n (lv' := [(1, .int t1), (0, .int p0)]) hx hb dX1_isEnd_4 rfl hl (by decide) rfl (fun ls hl => ?_)
  refine lv_iload_n hx hb dX1_isEnd_5 rfl (lv_at hl 1 rfl) ?_
  have hPc := hP.sub (ws' := []) [] rfl
  have hDc := hD.sub (ws' := []) [] (by decide) rfl
  have hFc := va_free (wc := []) hD hS hA [] rfl
  refine va_calli (va_runS (As := [.int p0]) (rest := []) ⟨hx, hb, hml, hown, hts⟩ (c_X1_isHonour l dC dI cI cZ s.heap.size p0 _ hw) (va_cwS 1 hts gX1_isEnd_X1_isHonour rfl rfl rfl (by decide +kernel) ⟨Nat.le_of_ble_eq_true rfl, Nat.le_of_ble_eq_true rfl⟩) ⟨fun a U g mk q => by obtain ⟨q0, q1, qP, qK, qD⟩ := q; exact ⟨q0, q1, qP, va_K.moved (u := U) (U := U.calling g mk a) (Vm.Alike.refl U.vm) qK, qD⟩, fun U hU hW => ⟨rfl, by rw [hU], by rw [hU]; exact hPc, va_K.moved hW.alike hK, hDc.weaken (fun _ _ _ _ => trivial)⟩⟩ rfl rfl hl.1 rfl (lv_room (Nat.le_of_ble_eq_true rfl)) dX1_isEnd_6 ⟨Nat.le_of_ble_eq_true rfl, Nat.le_of_ble_eq_true rfl⟩) hS (fun q _ h => hFc q h) hFc (fun r2 u t H1 locs ht hvm hw hB hz1 hk1 hS => ?_)
  obtain ⟨hP1, -, hD1⟩ := hB
  have hw := And.intro hw trivial
  try dsimp only at hw
  have hw := hw.1
  rw [ht] at hP1
  obtain ⟨hP, hD⟩ := va_join (wr := []) (w1 := []) hP hD [] [] rfl rfl (by decide) (by decide) hk1 hFc hP1 hD1
  generalize H1 = H at hP hS ⊢
  have hP : va_P (dC, dI) vwCl [] H := hP
  have hD : va_D A [] := hD
  refine lv_if_ne (tgt := 26) hx hb dX1_isEnd_9 (by decide) (fun c3 => ?_) (fun c3 => ?_)
  · have hw := hw.2 c3
    refine lv_iconst (v := 0) hx hb dX1_isEnd_26 (by decide) ?_
    rw [← hQ9]
    exact W.zret (v := (0 : Int32)) hx hb hr rfl (fun t ht hW => ⟨⟨(0 : Int32), (), rfl, hw, by rw [ht]; exact hP, va_K.moved hW.alike hK, hD⟩, hS.F ht⟩) hS.2.2 dX1_isEnd_27
  · have hw := hw.1 c3
    refine lv_iload_n hx hb dX1_isEnd_12 rfl (lv_at hl 0 rfl) ?_
    refine lv_if_eq (tgt := 22) hx hb dX1_isEnd_13 (by decide) (fun c4 => ?_) (fun c4 => ?_)
    · have hw := hw.1 c4
      exact L22 _ _ _ hw hP hD hS (lv_sub hl [] rfl)
    · have hw := hw.2 c4
      refine lv_iload_n hx hb dX1_isEnd_16 rfl (lv_at hl 0 rfl) ?_
      refine lv_bipush (v := 8) hx hb dX1_isEnd_17 (by decide) ?_
      refine lv_icmp_ne (tgt := 26) hx hb dX1_isEnd_19 (by decide) (fun c5 => ?_) (fun c5 => ?_)
      · have hw := hw.2 c5
        refine lv_iconst (v := 0) hx hb dX1_isEnd_26 (by decide) ?_
        rw [← hQ9]
        exact W.zret (v := (0 : Int32)) hx hb hr rfl (fun t ht hW => ⟨⟨(0 : Int32), (), rfl, hw, by rw [ht]; exact hP, va_K.moved hW.alike hK, hD⟩, hS.F ht⟩) hS.2.2 dX1_isEnd_27
      · have hw := hw.1 c5
        exact L22 _ _ _ hw hP hD hS (lv_sub hl [] rfl)

def w_X1_heldByOrphans_b50 (post : Int32 → Prop) (hd : (Nat → Int32)) (K6 : Int32 → Int32 → Int32 → Prop) (v1 : Int32) (v2 : Int32) (v3 : Int32) : Prop := K6 v1 v2 (v3 + 1)

def w_X1_heldByOrphans_b38 (post : Int32 → Prop) (hd : (Nat → Int32)) (K6 : Int32 → Int32 → Int32 → Prop) (v1 : Int32) (v2 : Int32) (v3 : Int32) : Prop := vp_in v3 34 ∧ ((((hd v3.toNatClampNeg) ≤ (1 : Int32) → (w_X1_heldByOrphans_b50 post hd K6 v1 v2 v3)) ∧ (¬ (hd v3.toNatClampNeg) ≤ (1 : Int32) → (w_X1_heldByOrphans_b50 post hd K6 v1 (1 : Int32) v3))))

def w_X1_heldByOrphans_b26 (post : Int32 → Prop) (hd : (Nat → Int32)) (K6 : Int32 → Int32 → Int32 → Prop) (v1 : Int32) (v2 : Int32) (v3 : Int32) : Prop := vp_in v3 34 ∧ ((((hd v3.toNatClampNeg) ≤ 0 → (w_X1_heldByOrphans_b38 post hd K6 v1 v2 v3)) ∧ (¬ (hd v3.toNatClampNeg) ≤ 0 → (w_X1_heldByOrphans_b38 post hd K6 (v1 + 1) v2 v3))))

def w_X1_heldByOrphans_b6 (post : Int32 → Prop) (hd : (Nat → Int32)) : Nat → Int32 → Int32 → Int32 → Prop
  | 0, _, _, _ => False
  | n + 1, v1, v2, v3 => (((34 : Int32) ≤ v3 → (post (v1 + v2))) ∧ (¬ (34 : Int32) ≤ v3 → (w_X1_isEnd v3 (fun r2 => (((r2 = 0 → (w_X1_isHonour v3 (fun r8 => (((r8 = 0 → (w_X1_heldByOrphans_b50 post hd (w_X1_heldByOrphans_b6 post hd n) v1 v2 v3)) ∧ (¬ r8 = 0 → (w_X1_heldByOrphans_b26 post hd (w_X1_heldByOrphans_b6 post hd n) v1 v2 v3))))))) ∧ (¬ r2 = 0 → (w_X1_heldByOrphans_b26 post hd (w_X1_heldByOrphans_b6 post hd n) v1 v2 v3))))))))

def w_X1_heldByOrphans (hd : (Nat → Int32)) (post : Int32 → Prop) : Prop := ∃ n9, w_X1_heldByOrphans_b6 post hd n9 (0 : Int32) (0 : Int32) (0 : Int32)

set_option maxHeartbeats 4000000 in
set_option maxRecDepth 100000 in
theorem c_X1_heldByOrphans (l : Launch) (dC : Nat → ClassId) (dI : Nat → Nat → Nat) (cI cZ : ClassId) (x : Nat) (aH : Nat) (aL : Nat) (aS : Nat) (aO : Nat) (aK : Nat) (aZ : Nat) (cv : Nat) (sz : Nat) (tcn : Int32) (mcn : Int32) (swd : Int32) (rwd : Int32) (bpt : Int32) (flm : Int32) (hd : (Nat → Int32)) (post : Int32 → Prop) (hw : w_X1_heldByOrphans hd post) : Met l yX1_heldByOrphans wsX1_heldByOrphans ({ frames := 3, cells := 0, slots := 0, locals := 61 } : Room) (va_Pc [.ref x] (fun U => U.heap.size = sz ∧ va_P (dC, dI) vwCl [(x, .inr (1, [.ref aH, .ref aL, .ref aS, .ref aO, .ref aK, .ref aZ, .ref cv, .int tcn, .int mcn, .int swd, .int rwd, .int bpt, .int flm])), (aH, .inl (cI, 34, .inl hd))] U.heap ∧ va_K (dC, dI) vwCl [(cI, .int), (cZ, .boolean)] U ∧ va_D (fun _ => True) [(x, .inr (1, [.ref aH, .ref aL, .ref aS, .ref aO, .ref aK, .ref aZ, .ref cv, .int tcn, .int mcn, .int swd, .int rwd, .int bpt, .int flm])), (aH, .inl (cI, 34, .inl hd))])) (va_Qi (fun (r9 : Int32) (u9 : Unit) => post r9) (fun (u9 : Unit) (t9 : State) => va_P (dC, dI) vwCl [(x, .inr (1, [.ref aH, .ref aL, .ref aS, .ref aO, .ref aK, .ref aZ, .ref cv, .int tcn, .int mcn, .int swd, .int rwd, .int bpt, .int flm])), (aH, .inl (cI, 34, .inl hd))] t9.heap ∧ va_K (dC, dI) vwCl [(cI, .int), (cZ, .boolean)] t9 ∧ va_D (va_A [(x, .inr (1, [.ref aH, .ref aL, .ref aS, .ref aO, .ref aK, .ref aZ, .ref cv, .int tcn, .int mcn, .int swd, .int rwd, .int bpt, .int flm])), (aH, .inl (cI, 34, .inl hd))] sz) [(x, .inr (1, [.ref aH, .ref aL, .ref aS, .ref aO, .ref aK, .ref aZ, .ref cv, .int tcn, .int mcn, .int swd, .int rwd, .int bpt, .int flm])), (aH, .inl (cI, 34, .inl hd))]) (va_A [(x, .inr (1, [.ref aH, .ref aL, .ref aS, .ref aO, .ref aK, .ref aZ, .ref cv, .int tcn, .int mcn, .int swd, .int rwd, .int bpt, .int flm])), (aH, .inl (cI, 34, .inl hd))] sz)) 0 0 (va_A [(x, .inr (1, [.ref aH, .ref aL, .ref aS, .ref aO, .ref aK, .ref aZ, .ref cv, .int tcn, .int mcn, .int swd, .int rwd, .int bpt, .int flm])), (aH, .inl (cI, 34, .inl hd))] sz) := by
  refine Met.ofW (cc := cX1_heldByOrphans) (maxL := 4) (ret := (some .int)) (by decide) rfl ?_
  intro p e s m args below meth c s₁ B hml hv
  obtain ⟨rfl, hsz, hP, hK, hD0⟩ := hv
  have hx := B.exec
  have hb := B.bytes
  have hr := B.returns
  have hts := atoms_spec (ws := wsX1_heldByOrphans) B.pre
  have hown : s.vm.findClass RX1 = some m.cls := findClass_of_methodNamed B.named
  have hlocks := B.notSynchronized
  have hinX1 : ∀ w ∈ u_ws RX1 TX1 13, w ∈ wsX1_heldByOrphans := by decide +kernel
  subst hsz
  have hD := hD0.self (sz := s.heap.size)
  generalize hAe : va_A [(x, .inr (1, [.ref aH, .ref aL, .ref aS, .ref aO, .ref aK, .ref aZ, .ref cv, .int tcn, .int mcn, .int swd, .int rwd, .int bpt, .int flm])), (aH, .inl (cI, 34, .inl hd))] s.heap.size = A at hD ⊢
  have hA : ∀ q : Nat, s.heap.size ≤ q → A q := fun q h => by rw [← hAe]; exact Or.inr h
  have hS : va_S A s.heap s.heap [] := va_S.rf
  have hl := lv_entry ([.ref x]) (n := 4) (Nat.le_of_ble_eq_true rfl)
  rw [lg_entry_eq]
  generalize (lg_sl ([.ref x]) ++ List.replicate (4 - (lg_sl ([.ref x])).length) Slot.unset).toArray = ls at hl ⊢
  have hl : lv_has ls 4 [(0, .ref x)] := hl
  refine (?_ : ∀ Q9 : State → Prop, MQ below _ _ s _ _ _ = Q9 → W p l e ({ frames := 3, cells := 0, slots := 0, locals := 61 } : Room) s m _ below meth c s.heap [] 0 0 Q9 (F0 m 0 ls [])) _ rfl
  intro Q9 hQ9
  have hw : ∃ n9, w_X1_heldByOrphans_b6 post hd n9 (0 : Int32) (0 : Int32) (0 : Int32) := hw
  have L50 : ∀ (K6 : Int32 → Int32 → Int32 → Prop) (hK6 : ∀ (v1 : Int32) (v2 : Int32) (v3 : Int32) (H : Heap) (locs : List Loc) (ls : Array Slot), K6 v1 v2 v3 → va_P (dC, dI) vwCl [(x, .inr (1, [.ref aH, .ref aL, .ref aS, .ref aO, .ref aK, .ref aZ, .ref cv, .int tcn, .int mcn, .int swd, .int rwd, .int bpt, .int flm])), (aH, .inl (cI, 34, .inl hd))] H → va_D A [(x, .inr (1, [.ref aH, .ref aL, .ref aS, .ref aO, .ref aK, .ref aZ, .ref cv, .int tcn, .int mcn, .int swd, .int rwd, .int bpt, .int flm])), (aH, .inl (cI, 34, .inl hd))] → va_S A s.heap H locs → lv_has ls 4 [(0, .ref x), (1, .int v1), (2, .int v2), (3, .int v3)] → W p l e ({ frames := 3, cells := 0, slots := 0, locals := 61 } : Room) s m ([.ref x] : List Value).toArray below meth c H locs 0 0 Q9 (F0 m 6 ls [])), ∀ (v1 : Int32) (v2 : Int32) (v3 : Int32) (H : Heap) (locs : List Loc) (ls : Array Slot), w_X1_heldByOrphans_b50 post hd K6 v1 v2 v3 → va_P (dC, dI) vwCl [(x, .inr (1, [.ref aH, .ref aL, .ref aS, .ref aO, .ref aK, .ref aZ, .ref cv, .int tcn, .int mcn, .int swd, .int rwd, .int bpt, .int flm])), (aH, .inl (cI, 34, .inl hd))] H → va_D A [(x, .inr (1, [.ref aH, .ref aL, .ref aS, .ref aO, .ref aK, .ref aZ, .ref cv, .int tcn, .int mcn, .int swd, .int rwd, .int bpt, .int flm])), (aH, .inl (cI, 34, .inl hd))] → va_S A s.heap H locs → lv_has ls 4 [(0, .ref x), (1, .int v1), (2, .int v2), (3, .int v3)] → W p l e ({ frames := 3, cells := 0, slots := 0, locals := 61 } : Room) s m ([.ref x] : List Value).toArray below meth c H locs 0 0 Q9 (F0 m 50 ls []) := by
    intro K6 hK6 v1 v2 v3 H locs ls hw hP hD hS hl
    refine lv_iinc (v := v3 + 1) (lv' := [(3, .int (v3 + 1)), (0, .ref x), (1, .int v1), (2, .int v2)]) hx hb dX1_heldByOrphans_50 hl (k := 3) rfl rfl (by decide) rfl (fun ls hl => ?_)
    refine lv_goto (tgt := 6) hx hb dX1_heldByOrphans_53 (by decide) ?_
    exact hK6 v1 v2 (v3 + 1) _ _ _ hw hP hD hS (lv_sub hl [1, 2, 3, 0] rfl)
  have L38 : ∀ (K6 : Int32 → Int32 → Int32 → Prop) (hK6 : ∀ (v1 : Int32) (v2 : Int32) (v3 : Int32) (H : Heap) (locs : List Loc) (ls : Array Slot), K6 v1 v2 v3 → va_P (dC, dI) vwCl [(x, .inr (1, [.ref aH, .ref aL, .ref aS, .ref aO, .ref aK, .ref aZ, .ref cv, .int tcn, .int mcn, .int swd, .int rwd, .int bpt, .int flm])), (aH, .inl (cI, 34, .inl hd))] H → va_D A [(x, .inr (1, [.ref aH, .ref aL, .ref aS, .ref aO, .ref aK, .ref aZ, .ref cv, .int tcn, .int mcn, .int swd, .int rwd, .int bpt, .int flm])), (aH, .inl (cI, 34, .inl hd))] → va_S A s.heap H locs → lv_has ls 4 [(0, .ref x), (1, .int v1), (2, .int v2), (3, .int v3)] → W p l e ({ frames := 3, cells := 0, slots := 0, locals := 61 } : Room) s m ([.ref x] : List Value).toArray below meth c H locs 0 0 Q9 (F0 m 6 ls [])), ∀ (v1 : Int32) (v2 : Int32) (v3 : Int32) (H : Heap) (locs : List Loc) (ls : Array Slot), w_X1_heldByOrphans_b38 post hd K6 v1 v2 v3 → va_P (dC, dI) vwCl [(x, .inr (1, [.ref aH, .ref aL, .ref aS, .ref aO, .ref aK, .ref aZ, .ref cv, .int tcn, .int mcn, .int swd, .int rwd, .int bpt, .int flm])), (aH, .inl (cI, 34, .inl hd))] H → va_D A [(x, .inr (1, [.ref aH, .ref aL, .ref aS, .ref aO, .ref aK, .ref aZ, .ref cv, .int tcn, .int mcn, .int swd, .int rwd, .int bpt, .int flm])), (aH, .inl (cI, 34, .inl hd))] → va_S A s.heap H locs → lv_has ls 4 [(0, .ref x), (1, .int v1), (2, .int v2), (3, .int v3)] → W p l e ({ frames := 3, cells := 0, slots := 0, locals := 61 } : Room) s m ([.ref x] : List Value).toArray below meth c H locs 0 0 Q9 (F0 m 38 ls []) := by
    intro K6 hK6 v1 v2 v3 H locs ls hw hP hD hS hl
    refine lv_aload_n hx hb dX1_heldByOrphans_38 rfl (lv_at hl 0 rfl) ?_
    refine va_get (D := (dC, dI)) (ci := 1) (v := .ref aH) (C := RX1) (T := TX1) (N := 13) hx hb hts hinX1 hown hK hP 0 rfl rfl 0 (by decide) (hts (.fieldLink RX1 9 "TileHand" "hand" "[I") (by decide +kernel)) (fun _ h9 => h9) rfl dX1_heldByOrphans_39 ?_
    refine lv_iload_n hx hb dX1_heldByOrphans_42 rfl (lv_at hl 3 rfl) ?_
    obtain ⟨h6, hw⟩ := hw
    refine va_iald hx hb hK hP 1 0 rfl rfl h6 dX1_heldByOrphans_43 ?_
    refine lv_iconst (v := 1) hx hb dX1_heldByOrphans_44 (by decide) ?_
    refine lv_icmp_le (tgt := 50) hx hb dX1_heldByOrphans_45 (by decide) (fun c7 => ?_) (fun c7 => ?_)
    · have hw := hw.1 c7
      exact L50 K6 hK6 v1 v2 v3 _ _ _ hw hP hD hS (lv_sub hl [0, 1, 2, 3] rfl)
    · have hw := hw.2 c7
      refine lv_iconst (v := 1) hx hb dX1_heldByOrphans_48 (by decide) ?_
      refine lv_istore_n (lv' := [(2, .int (1 : Int32)), (0, .ref x), (1, .int v1), (3, .int v3)]) hx hb dX1_heldByOrphans_49 rfl hl (by decide) rfl (fun ls hl => ?_)
      exact L50 K6 hK6 v1 (1 : Int32) v3 _ _ _ hw hP hD hS (lv_sub hl [1, 2, 0, 3] rfl)
  have L26 : ∀ (K6 : Int32 → Int32 → Int32 → Prop) (hK6 : ∀ (v1 : Int32) (v2 : Int32) (v3 : Int32) (H : Heap) (locs : List Loc) (ls : Array Slot), K6 v1 v2 v3 → va_P (dC, dI) vwCl [(x, .inr (1, [.ref aH, .ref aL, .ref aS, .ref aO, .ref aK, .ref aZ, .ref cv, .int tcn, .int mcn, .int swd, .int rwd, .int bpt, .int flm])), (aH, .inl (cI, 34, .inl hd))] H → va_D A [(x, .inr (1, [.ref aH, .ref aL, .ref aS, .ref aO, .ref aK, .ref aZ, .ref cv, .int tcn, .int mcn, .int swd, .int rwd, .int bpt, .int flm])), (aH, .inl (cI, 34, .inl hd))] → va_S A s.heap H locs → lv_has ls 4 [(0, .ref x), (1, .int v1), (2, .int v2), (3, .int v3)] → W p l e ({ frames := 3, cells := 0, slots := 0, locals := 61 } : Room) s m ([.ref x] : List Value).toArray below meth c H locs 0 0 Q9 (F0 m 6 ls [])), ∀ (v1 : Int32) (v2 : Int32) (v3 : Int32) (H : Heap) (locs : List Loc) (ls : Array Slot), w_X1_heldByOrphans_b26 post hd K6 v1 v2 v3 → va_P (dC, dI) vwCl [(x, .inr (1, [.ref aH, .ref aL, .ref aS, .ref aO, .ref aK, .ref aZ, .ref cv, .int tcn, .int mcn, .int swd, .int rwd, .int bpt, .int flm])), (aH, .inl (cI, 34, .inl hd))] H → va_D A [(x, .inr (1, [.ref aH, .ref aL, .ref aS, .ref aO, .ref aK, .ref aZ, .ref cv, .int tcn, .int mcn, .int swd, .int rwd, .int bpt, .int flm])), (aH, .inl (cI, 34, .inl hd))] → va_S A s.heap H locs → lv_has ls 4 [(0, .ref x), (1, .int v1), (2, .int v2), (3, .int v3)] → W p l e ({ frames := 3, cells := 0, slots := 0, locals := 61 } : Room) s m ([.ref x] : List Value).toArray below meth c H locs 0 0 Q9 (F0 m 26 ls []) := by
    intro K6 hK6 v1 v2 v3 H locs ls hw hP hD hS hl
    refine lv_aload_n hx hb dX1_heldByOrphans_26 rfl (lv_at hl 0 rfl) ?_
    refine va_get (D := (dC, dI)) (ci := 1) (v := .ref aH) (C := RX1) (T := TX1) (N := 13) hx hb hts hinX1 hown hK hP 0 rfl rfl 0 (by decide) (hts (.fieldLink RX1 9 "TileHand" "hand" "[I") (by decide +kernel)) (fun _ h9 => h9) rfl dX1_heldByOrphans_27 ?_
    refine lv_iload_n hx hb dX1_heldByOrphans_30 rfl (lv_at hl 3 rfl) ?_
    obtain ⟨h4, hw⟩ := hw
    refine va_iald hx hb hK hP 1 0 rfl rfl h4 dX1_heldByOrphans_31 ?_
    refine lv_if_le (tgt := 38) hx hb dX1_heldByOrphans_32 (by decide) (fun c5 => ?_) (fun c5 => ?_)
    · have hw := hw.1 c5
      exact L38 K6 hK6 v1 v2 v3 _ _ _ hw hP hD hS (lv_sub hl [0, 1, 2, 3] rfl)
    · have hw := hw.2 c5
      refine lv_iinc (v := v1 + 1) (lv' := [(1, .int (v1 + 1)), (0, .ref x), (2, .int v2), (3, .int v3)]) hx hb dX1_heldByOrphans_35 hl (k := 1) rfl rfl (by decide) rfl (fun ls hl => ?_)
      exact L38 K6 hK6 (v1 + 1) v2 v3 _ _ _ hw hP hD hS (lv_sub hl [1, 0, 2, 3] rfl)
  have L6 : ∀ (n : Nat), ∀ (v1 : Int32) (v2 : Int32) (v3 : Int32) (H : Heap) (locs : List Loc) (ls : Array Slot), w_X1_heldByOrphans_b6 post hd n v1 v2 v3 → va_P (dC, dI) vwCl [(x, .inr (1, [.ref aH, .ref aL, .ref aS, .ref aO, .ref aK, .ref aZ, .ref cv, .int tcn, .int mcn, .int swd, .int rwd, .int bpt, .int flm])), (aH, .inl (cI, 34, .inl hd))] H → va_D A [(x, .inr (1, [.ref aH, .ref aL, .ref aS, .ref aO, .ref aK, .ref aZ, .ref cv, .int tcn, .int mcn, .int swd, .int rwd, .int bpt, .int flm])), (aH, .inl (cI, 34, .inl hd))] → va_S A s.heap H locs → lv_has ls 4 [(0, .ref x), (1, .int v1), (2, .int v2), (3, .int v3)] → W p l e ({ frames := 3, cells := 0, slots := 0, locals := 61 } : Room) s m ([.ref x] : List Value).toArray below meth c H locs 0 0 Q9 (F0 m 6 ls []) := by
    intro n
    induction n with
    | zero => intro v1 v2 v3 H locs ls hw _ _ _ _; exact False.elim hw
    | succ n ih =>
      intro v1 v2 v3 H locs ls hw hP hD hS hl
      refine lv_iload_n hx hb dX1_heldByOrphans_6 rfl (lv_at hl 3 rfl) ?_
      refine lv_bipush (v := 34) hx hb dX1_heldByOrphans_7 (by decide) ?_
      refine lv_icmp_ge (tgt := 56) hx hb dX1_heldByOrphans_9 (by decide) (fun c1 => ?_) (fun c1 => ?_)
      · have hw := hw.1 c1
        refine lv_iload_n hx hb dX1_heldByOrphans_56 rfl (lv_at hl 1 rfl) ?_
        refine lv_iload_n hx hb dX1_heldByOrphans_57 rfl (lv_at hl 2 rfl) ?_
        refine lv_iadd hx hb dX1_heldByOrphans_58 ?_
        rw [← hQ9]
        exact W.iret (v := v1 + v2) hx hb hr (fun t ht hW => ⟨⟨v1 + v2, (), rfl, hw, by rw [ht]; exact hP, va_K.moved hW.alike hK, hD⟩, hS.F ht⟩) hS.2.2 dX1_heldByOrphans_59
      · have hw := hw.2 c1
        refine lv_iload_n hx hb dX1_heldByOrphans_12 rfl (lv_at hl 3 rfl) ?_
        have hPc := hP.sub (ws' := []) [] rfl
        have hDc := hD.sub (ws' := []) [] (by decide) rfl
        have hFc := va_free (wc := []) hD hS hA [] rfl
        refine va_calli (va_runS (As := [.int v3]) (rest := []) ⟨hx, hb, hml, hown, hts⟩ (c_X1_isEnd l dC dI cI cZ H.size v3 _ hw) (va_cwS 1 hts gX1_heldByOrphans_X1_isEnd rfl rfl rfl (by decide +kernel) ⟨Nat.le_of_ble_eq_true rfl, Nat.le_of_ble_eq_true rfl⟩) ⟨fun a U g mk q => by obtain ⟨q0, q1, qP, qK, qD⟩ := q; exact ⟨q0, q1, qP, va_K.moved (u := U) (U := U.calling g mk a) (Vm.Alike.refl U.vm) qK, qD⟩, fun U hU hW => ⟨rfl, by rw [hU], by rw [hU]; exact hPc, va_K.moved hW.alike hK, hDc.weaken (fun _ _ _ _ => trivial)⟩⟩ rfl rfl hl.1 rfl (lv_room (Nat.le_of_ble_eq_true rfl)) dX1_heldByOrphans_13 ⟨Nat.le_of_ble_eq_true rfl, Nat.le_of_ble_eq_true rfl⟩) hS (fun q _ h => hFc q h) hFc (fun r2 u t H1 locs ht hvm hw hB hz1 hk1 hS => ?_)
        obtain ⟨hP1, -, hD1⟩ := hB
        have hw := And.intro hw trivial
        try dsimp only at hw
        have hw := hw.1
        rw [ht] at hP1
        obtain ⟨hP, hD⟩ := va_join (wr := [(x, .inr (1, [.ref aH, .ref aL, .ref aS, .ref aO, .ref aK, .ref aZ, .ref cv, .int tcn, .int mcn, .int swd, .int rwd, .int bpt, .int flm])), (aH, .inl (cI, 34, .inl hd))]) (w1 := []) hP hD [] [0, 1] rfl rfl (by decide) (by decide) hk1 hFc hP1 hD1
        generalize H1 = H at hP hS ⊢
        have hP : va_P (dC, dI) vwCl [(x, .inr (1, [.ref aH, .ref aL, .ref aS, .ref aO, .ref aK, .ref aZ, .ref cv, .int tcn, .int mcn, .int swd, .int rwd, .int bpt, .int flm])), (aH, .inl (cI, 34, .inl hd))] H := hP
        have hD : va_D A [(x, .inr (1, [.ref aH, .ref aL, .ref aS, .ref aO, .ref aK, .ref aZ, .ref cv, .int tcn, .int mcn, .int swd, .int rwd, .int bpt, .int flm])), (aH, .inl (cI, 34, .inl hd))] := hD
        refine lv_if_ne (tgt := 26) hx hb dX1_heldByOrphans_16 (by decide) (fun c3 => ?_) (fun c3 => ?_)
        · have hw := hw.2 c3
          exact L26 (w_X1_heldByOrphans_b6 post hd n) ih v1 v2 v3 _ _ _ hw hP hD hS (lv_sub hl [0, 1, 2, 3] rfl)
        · have hw := hw.1 c3
          refine lv_iload_n hx hb dX1_heldByOrphans_19 rfl (lv_at hl 3 rfl) ?_
          have hPc := hP.sub (ws' := []) [] rfl
          have hDc := hD.sub (ws' := []) [] (by decide) rfl
          have hFc := va_free (wc := []) hD hS hA [] rfl
          refine va_calli (va_runS (As := [.int v3]) (rest := []) ⟨hx, hb, hml, hown, hts⟩ (c_X1_isHonour l dC dI cI cZ H.size v3 _ hw) (va_cwS 1 hts gX1_heldByOrphans_X1_isHonour rfl rfl rfl (by decide +kernel) ⟨Nat.le_of_ble_eq_true rfl, Nat.le_of_ble_eq_true rfl⟩) ⟨fun a U g mk q => by obtain ⟨q0, q1, qP, qK, qD⟩ := q; exact ⟨q0, q1, qP, va_K.moved (u := U) (U := U.calling g mk a) (Vm.Alike.refl U.vm) qK, qD⟩, fun U hU hW => ⟨rfl, by rw [hU], by rw [hU]; exact hPc, va_K.moved hW.alike hK, hDc.weaken (fun _ _ _ _ => trivial)⟩⟩ rfl rfl hl.1 rfl (lv_room (Nat.le_of_ble_eq_true rfl)) dX1_heldByOrphans_20 ⟨Nat.le_of_ble_eq_true rfl, Nat.le_of_ble_eq_true rfl⟩) hS (fun q _ h => hFc q h) hFc (fun r8 u t H1 locs ht hvm hw hB hz1 hk1 hS => ?_)
          obtain ⟨hP1, -, hD1⟩ := hB
          have hw := And.intro hw trivial
          try dsimp only at hw
          have hw := hw.1
          rw [ht] at hP1
          obtain ⟨hP, hD⟩ := va_join (wr := [(x, .inr (1, [.ref aH, .ref aL, .ref aS, .ref aO, .ref aK, .ref aZ, .ref cv, .int tcn, .int mcn, .int swd, .int rwd, .int bpt, .int flm])), (aH, .inl (cI, 34, .inl hd))]) (w1 := []) hP hD [] [0, 1] rfl rfl (by decide) (by decide) hk1 hFc hP1 hD1
          generalize H1 = H at hP hS ⊢
          have hP : va_P (dC, dI) vwCl [(x, .inr (1, [.ref aH, .ref aL, .ref aS, .ref aO, .ref aK, .ref aZ, .ref cv, .int tcn, .int mcn, .int swd, .int rwd, .int bpt, .int flm])), (aH, .inl (cI, 34, .inl hd))] H := hP
          have hD : va_D A [(x, .inr (1, [.ref aH, .ref aL, .ref aS, .ref aO, .ref aK, .ref aZ, .ref cv, .int tcn, .int mcn, .int swd, .int rwd, .int bpt, .int flm])), (aH, .inl (cI, 34, .inl hd))] := hD
          refine lv_if_eq (tgt := 50) hx hb dX1_heldByOrphans_23 (by decide) (fun c9 => ?_) (fun c9 => ?_)
          · have hw := hw.1 c9
            exact L50 (w_X1_heldByOrphans_b6 post hd n) ih v1 v2 v3 _ _ _ hw hP hD hS (lv_sub hl [0, 1, 2, 3] rfl)
          · have hw := hw.2 c9
            exact L26 (w_X1_heldByOrphans_b6 post hd n) ih v1 v2 v3 _ _ _ hw hP hD hS (lv_sub hl [0, 1, 2, 3] rfl)
  refine lv_iconst (v := 0) hx hb dX1_heldByOrphans_0 (by decide) ?_
  refine lv_istore_n (lv' := [(1, .int (0 : Int32)), (0, .ref x)]) hx hb dX1_heldByOrphans_1 rfl hl (by decide) rfl (fun ls hl => ?_)
  refine lv_iconst (v := 0) hx hb dX1_heldByOrphans_2 (by decide) ?_
  refine lv_istore_n (lv' := [(2, .int (0 : Int32)), (1, .int (0 : Int32)), (0, .ref x)]) hx hb dX1_heldByOrphans_3 rfl hl (by decide) rfl (fun ls hl => ?_)
  refine lv_iconst (v := 0) hx hb dX1_heldByOrphans_4 (by decide) ?_
  refine lv_istore_n (lv' := [(3, .int (0 : Int32)), (2, .int (0 : Int32)), (1, .int (0 : Int32)), (0, .ref x)]) hx hb dX1_heldByOrphans_5 rfl hl (by decide) rfl (fun ls hl => ?_)
  obtain ⟨n9, hw⟩ := hw
  exact L6 n9 (0 : Int32) (0 : Int32) (0 : Int32) _ _ _ hw hP hD hS (lv_sub hl [3, 2, 1, 0] rfl)

def w_X1_heldByPairs_b47 (post : Int32 → Prop) (hd : (Nat → Int32)) (v1 : Int32) (v2 : Int32) : Prop := ∀ t2 : Int32, t2 = (if (7 : Int32) < v1 then (7 : Int32) else v1) → (post (((2 : Int32) * t2) + (if ((7 : Int32) - t2) < v2 then ((7 : Int32) - t2) else v2)))

def w_X1_heldByPairs_b41 (post : Int32 → Prop) (hd : (Nat → Int32)) (K6 : Int32 → Int32 → Int32 → Prop) (v1 : Int32) (v2 : Int32) (v3 : Int32) : Prop := K6 v1 v2 (v3 + 1)

def w_X1_heldByPairs_b6 (post : Int32 → Prop) (hd : (Nat → Int32)) : Nat → Int32 → Int32 → Int32 → Prop
  | 0, _, _, _ => False
  | n + 1, v1, v2, v3 => (((34 : Int32) ≤ v3 → (w_X1_heldByPairs_b47 post hd v1 v2)) ∧ (¬ (34 : Int32) ≤ v3 → (vp_in v3 34 ∧ ((((hd v3.toNatClampNeg) < (2 : Int32) → (vp_in v3 34 ∧ ((((hd v3.toNatClampNeg) = (1 : Int32) → (w_X1_heldByPairs_b41 post hd (w_X1_heldByPairs_b6 post hd n) v1 (v2 + 1) v3)) ∧ (¬ (hd v3.toNatClampNeg) = (1 : Int32) → (w_X1_heldByPairs_b41 post hd (w_X1_heldByPairs_b6 post hd n) v1 v2 v3)))))) ∧ (¬ (hd v3.toNatClampNeg) < (2 : Int32) → (w_X1_heldByPairs_b41 post hd (w_X1_heldByPairs_b6 post hd n) (v1 + 1) v2 v3)))))))

def w_X1_heldByPairs (hd : (Nat → Int32)) (post : Int32 → Prop) : Prop := ∃ n9, w_X1_heldByPairs_b6 post hd n9 (0 : Int32) (0 : Int32) (0 : Int32)

set_option maxHeartbeats 4000000 in
set_option maxRecDepth 100000 in
theorem c_X1_heldByPairs (l : Launch) (dC : Nat → ClassId) (dI : Nat → Nat → Nat) (cI cZ : ClassId) (x : Nat) (aH : Nat) (aL : Nat) (aS : Nat) (aO : Nat) (aK : Nat) (aZ : Nat) (cv : Nat) (sz : Nat) (tcn : Int32) (mcn : Int32) (swd : Int32) (rwd : Int32) (bpt : Int32) (flm : Int32) (hd : (Nat → Int32)) (post : Int32 → Prop) (hw : w_X1_heldByPairs hd post) : Met l yX1_heldByPairs wsX1_heldByPairs ({ frames := 2, cells := 0, slots := 0, locals := 40 } : Room) (va_Pc [.ref x] (fun U => U.heap.size = sz ∧ va_P (dC, dI) vwCl [(x, .inr (1, [.ref aH, .ref aL, .ref aS, .ref aO, .ref aK, .ref aZ, .ref cv, .int tcn, .int mcn, .int swd, .int rwd, .int bpt, .int flm])), (aH, .inl (cI, 34, .inl hd))] U.heap ∧ va_K (dC, dI) vwCl [(cI, .int), (cZ, .boolean)] U ∧ va_D (fun _ => True) [(x, .inr (1, [.ref aH, .ref aL, .ref aS, .ref aO, .ref aK, .ref aZ, .ref cv, .int tcn, .int mcn, .int swd, .int rwd, .int bpt, .int flm])), (aH, .inl (cI, 34, .inl hd))])) (va_Qi (fun (r9 : Int32) (u9 : Unit) => post r9) (fun (u9 : Unit) (t9 : State) => va_P (dC, dI) vwCl [(x, .inr (1, [.ref aH, .ref aL, .ref aS, .ref aO, .ref aK, .ref aZ, .ref cv, .int tcn, .int mcn, .int swd, .int rwd, .int bpt, .int flm])), (aH, .inl (cI, 34, .inl hd))] t9.heap ∧ va_K (dC, dI) vwCl [(cI, .int), (cZ, .boolean)] t9 ∧ va_D (va_A [(x, .inr (1, [.ref aH, .ref aL, .ref aS, .ref aO, .ref aK, .ref aZ, .ref cv, .int tcn, .int mcn, .int swd, .int rwd, .int bpt, .int flm])), (aH, .inl (cI, 34, .inl hd))] sz) [(x, .inr (1, [.ref aH, .ref aL, .ref aS, .ref aO, .ref aK, .ref aZ, .ref cv, .int tcn, .int mcn, .int swd, .int rwd, .int bpt, .int flm])), (aH, .inl (cI, 34, .inl hd))]) (va_A [(x, .inr (1, [.ref aH, .ref aL, .ref aS, .ref aO, .ref aK, .ref aZ, .ref cv, .int tcn, .int mcn, .int swd, .int rwd, .int bpt, .int flm])), (aH, .inl (cI, 34, .inl hd))] sz)) 0 0 (va_A [(x, .inr (1, [.ref aH, .ref aL, .ref aS, .ref aO, .ref aK, .ref aZ, .ref cv, .int tcn, .int mcn, .int swd, .int rwd, .int bpt, .int flm])), (aH, .inl (cI, 34, .inl hd))] sz) := by
  refine Met.ofW (cc := cX1_heldByPairs) (maxL := 4) (ret := (some .int)) (by decide) rfl ?_
  intro p e s m args below meth c s₁ B hml hv
  obtain ⟨rfl, hsz, hP, hK, hD0⟩ := hv
  have hx := B.exec
  have hb := B.bytes
  have hr := B.returns
  have hts := atoms_spec (ws := wsX1_heldByPairs) B.pre
  have hown : s.vm.findClass RX1 = some m.cls := findClass_of_methodNamed B.named
  have hlocks := B.notSynchronized
  have hinX1 : ∀ w ∈ u_ws RX1 TX1 13, w ∈ wsX1_heldByPairs := by decide +kernel
  subst hsz
  have hD := hD0.self (sz := s.heap.size)
  generalize hAe : va_A [(x, .inr (1, [.ref aH, .ref aL, .ref aS, .ref aO, .ref aK, .ref aZ, .ref cv, .int tcn, .int mcn, .int swd, .int rwd, .int bpt, .int flm])), (aH, .inl (cI, 34, .inl hd))] s.heap.size = A at hD ⊢
  have hA : ∀ q : Nat, s.heap.size ≤ q → A q := fun q h => by rw [← hAe]; exact Or.inr h
  have hS : va_S A s.heap s.heap [] := va_S.rf
  have hl := lv_entry ([.ref x]) (n := 4) (Nat.le_of_ble_eq_true rfl)
  rw [lg_entry_eq]
  generalize (lg_sl ([.ref x]) ++ List.replicate (4 - (lg_sl ([.ref x])).length) Slot.unset).toArray = ls at hl ⊢
  have hl : lv_has ls 4 [(0, .ref x)] := hl
  refine (?_ : ∀ Q9 : State → Prop, MQ below _ _ s _ _ _ = Q9 → W p l e ({ frames := 2, cells := 0, slots := 0, locals := 40 } : Room) s m _ below meth c s.heap [] 0 0 Q9 (F0 m 0 ls [])) _ rfl
  intro Q9 hQ9
  have hw : ∃ n9, w_X1_heldByPairs_b6 post hd n9 (0 : Int32) (0 : Int32) (0 : Int32) := hw
  have L47 : ∀ (v1 : Int32) (v2 : Int32) (H : Heap) (locs : List Loc) (ls : Array Slot), w_X1_heldByPairs_b47 post hd v1 v2 → va_P (dC, dI) vwCl [(x, .inr (1, [.ref aH, .ref aL, .ref aS, .ref aO, .ref aK, .ref aZ, .ref cv, .int tcn, .int mcn, .int swd, .int rwd, .int bpt, .int flm])), (aH, .inl (cI, 34, .inl hd))] H → va_D A [(x, .inr (1, [.ref aH, .ref aL, .ref aS, .ref aO, .ref aK, .ref aZ, .ref cv, .int tcn, .int mcn, .int swd, .int rwd, .int bpt, .int flm])), (aH, .inl (cI, 34, .inl hd))] → va_S A s.heap H locs → lv_has ls 4 [(0, .ref x), (1, .int v1), (2, .int v2)] → W p l e ({ frames := 2, cells := 0, slots := 0, locals := 40 } : Room) s m ([.ref x] : List Value).toArray below meth c H locs 0 0 Q9 (F0 m 47 ls []) := by
    intro v1 v2 H locs ls hw hP hD hS hl
    refine lv_iload_n hx hb dX1_heldByPairs_47 rfl (lv_at hl 1 rfl) ?_
    refine lv_bipush (v := 7) hx hb dX1_heldByPairs_48 (by decide) ?_
    refine va_mmin hx hb (hml.trans hl.1.symm) hown (hts (.methodLink RX1 143 Lib.Math.min.name) (by decide +kernel)) (hts (.static Lib.Math.min.name) (by decide +kernel)) (hts (.initialized "java/lang/Math") (by decide +kernel)) (hts (.code Lib.Math.min.name Lib.Math.min.code 2 (some .int)) (by decide +kernel)) (Nat.le_of_ble_eq_true rfl) (Nat.le_of_ble_eq_true rfl) (Nat.le_of_ble_eq_true rfl) (Nat.le_of_ble_eq_true rfl) dX1_heldByPairs_50 ?_
    refine lv_topi (fun t2 et2 => ?_)
    have hw := hw t2 et2
    refine lv_istore_n (lv' := [(1, .int t2), (0, .ref x), (2, .int v2)]) hx hb dX1_heldByPairs_53 rfl hl (by decide) rfl (fun ls hl => ?_)
    refine lv_iconst (v := 2) hx hb dX1_heldByPairs_54 (by decide) ?_
    refine lv_iload_n hx hb dX1_heldByPairs_55 rfl (lv_at hl 0 rfl) ?_
    refine lv_imul hx hb dX1_heldByPairs_56 ?_
    refine lv_iload_n hx hb dX1_heldByPairs_57 rfl (lv_at hl 2 rfl) ?_
    refine lv_bipush (v := 7) hx hb dX1_heldByPairs_58 (by decide) ?_
    refine lv_iload_n hx hb dX1_heldByPairs_60 rfl (lv_at hl 0 rfl) ?_
    refine lv_isub hx hb dX1_heldByPairs_61 ?_
    refine va_mmin hx hb (hml.trans hl.1.symm) hown (hts (.methodLink RX1 143 Lib.Math.min.name) (by decide +kernel)) (hts (.static Lib.Math.min.name) (by decide +kernel)) (hts (.initialized "java/lang/Math") (by decide +kernel)) (hts (.code Lib.Math.min.name Lib.Math.min.code 2 (some .int)) (by decide +kernel)) (Nat.le_of_ble_eq_true rfl) (Nat.le_of_ble_eq_true rfl) (Nat.le_of_ble_eq_true rfl) (Nat.le_of_ble_eq_true rfl) dX1_heldByPairs_62 ?_
    refine lv_iadd hx hb dX1_heldByPairs_65 ?_
    rw [← hQ9]
    exact W.iret (v := ((2 : Int32) * t2) + (if ((7 : Int32) - t2) < v2 then ((7 : Int32) - t2) else v2)) hx hb hr (fun t ht hW => ⟨⟨((2 : Int32) * t2) + (if ((7 : Int32) - t2) < v2 then ((7 : Int32) - t2) else v2), (), rfl, hw, by rw [ht]; exact hP, va_K.moved hW.alike hK, hD⟩, hS.F ht⟩) hS.2.2 dX1_heldByPairs_66
  have L41 : ∀ (K6 : Int32 → Int32 → Int32 → Prop) (hK6 : ∀ (v1 : Int32) (v2 : Int32) (v3 : Int32) (H : Heap) (locs : List Loc) (ls : Array Slot), K6 v1 v2 v3 → va_P (dC, dI) vwCl [(x, .inr (1, [.ref aH, .ref aL, .ref aS, .ref aO, .ref aK, .ref aZ, .ref cv, .int tcn, .int mcn, .int swd, .int rwd, .int bpt, .int flm])), (aH, .inl (cI, 34, .inl hd))] H → va_D A [(x, .inr (1, [.ref aH, .ref aL, .ref aS, .ref aO, .ref aK, .ref aZ, .ref cv, .int tcn, .int mcn, .int swd, .int rwd, .int bpt, .int flm])), (aH, .inl (cI, 34, .inl hd))] → va_S A s.heap H locs → lv_has ls 4 [(0, .ref x), (1, .int v1), (2, .int v2), (3, .int v3)] → W p l e ({ frames := 2, cells := 0, slots := 0, locals := 40 } : Room) s m ([.ref x] : List Value).toArray below meth c H locs 0 0 Q9 (F0 m 6 ls [])), ∀ (v1 : Int32) (v2 : Int32) (v3 : Int32) (H : Heap) (locs : List Loc) (ls : Array Slot), w_X1_heldByPairs_b41 post hd K6 v1 v2 v3 → va_P (dC, dI) vwCl [(x, .inr (1, [.ref aH, .ref aL, .ref aS, .ref aO, .ref aK, .ref aZ, .ref cv, .int tcn, .int mcn, .int swd, .int rwd, .int bpt, .int flm])), (aH, .inl (cI, 34, .inl hd))] H → va_D A [(x, .inr (1, [.ref aH, .ref aL, .ref aS, .ref aO, .ref aK, .ref aZ, .ref cv, .int tcn, .int mcn, .int swd, .int rwd, .int bpt, .int flm])), (aH, .inl (cI, 34, .inl hd))] → va_S A s.heap H locs → lv_has ls 4 [(0, .ref x), (1, .int v1), (2, .int v2), (3, .int v3)] → W p l e ({ frames := 2, cells := 0, slots := 0, locals := 40 } : Room) s m ([.ref x] : List Value).toArray below meth c H locs 0 0 Q9 (F0 m 41 ls []) := by
    intro K6 hK6 v1 v2 v3 H locs ls hw hP hD hS hl
    refine lv_iinc (v := v3 + 1) (lv' := [(3, .int (v3 + 1)), (0, .ref x), (1, .int v1), (2, .int v2)]) hx hb dX1_heldByPairs_41 hl (k := 3) rfl rfl (by decide) rfl (fun ls hl => ?_)
    refine lv_goto (tgt := 6) hx hb dX1_heldByPairs_44 (by decide) ?_
    exact hK6 v1 v2 (v3 + 1) _ _ _ hw hP hD hS (lv_sub hl [1, 2, 3, 0] rfl)
  have L6 : ∀ (n : Nat), ∀ (v1 : Int32) (v2 : Int32) (v3 : Int32) (H : Heap) (locs : List Loc) (ls : Array Slot), w_X1_heldByPairs_b6 post hd n v1 v2 v3 → va_P (dC, dI) vwCl [(x, .inr (1, [.ref aH, .ref aL, .ref aS, .ref aO, .ref aK, .ref aZ, .ref cv, .int tcn, .int mcn, .int swd, .int rwd, .int bpt, .int flm])), (aH, .inl (cI, 34, .inl hd))] H → va_D A [(x, .inr (1, [.ref aH, .ref aL, .ref aS, .ref aO, .ref aK, .ref aZ, .ref cv, .int tcn, .int mcn, .int swd, .int rwd, .int bpt, .int flm])), (aH, .inl (cI, 34, .inl hd))] → va_S A s.heap H locs → lv_has ls 4 [(0, .ref x), (1, .int v1), (2, .int v2), (3, .int v3)] → W p l e ({ frames := 2, cells := 0, slots := 0, locals := 40 } : Room) s m ([.ref x] : List Value).toArray below meth c H locs 0 0 Q9 (F0 m 6 ls []) := by
    intro n
    induction n with
    | zero => intro v1 v2 v3 H locs ls hw _ _ _ _; exact False.elim hw
    | succ n ih =>
      intro v1 v2 v3 H locs ls hw hP hD hS hl
      refine lv_iload_n hx hb dX1_heldByPairs_6 rfl (lv_at hl 3 rfl) ?_
      refine lv_bipush (v := 34) hx hb dX1_heldByPairs_7 (by decide) ?_
      refine lv_icmp_ge (tgt := 47) hx hb dX1_heldByPairs_9 (by decide) (fun c1 => ?_) (fun c1 => ?_)
      · have hw := hw.1 c1
        exact L47 v1 v2 _ _ _ hw hP hD hS (lv_sub hl [0, 1, 2] rfl)
      · have hw := hw.2 c1
        refine lv_aload_n hx hb dX1_heldByPairs_12 rfl (lv_at hl 0 rfl) ?_
        refine va_get (D := (dC, dI)) (ci := 1) (v := .ref aH) (C := RX1) (T := TX1) (N := 13) hx hb hts hinX1 hown hK hP 0 rfl rfl 0 (by decide) (hts (.fieldLink RX1 9 "TileHand" "hand" "[I") (by decide +kernel)) (fun _ h9 => h9) rfl dX1_heldByPairs_13 ?_
        refine lv_iload_n hx hb dX1_heldByPairs_16 rfl (lv_at hl 3 rfl) ?_
        obtain ⟨h3, hw⟩ := hw
        refine va_iald hx hb hK hP 1 0 rfl rfl h3 dX1_heldByPairs_17 ?_
        refine lv_iconst (v := 2) hx hb dX1_heldByPairs_18 (by decide) ?_
        refine lv_icmp_lt (tgt := 28) hx hb dX1_heldByPairs_19 (by decide) (fun c4 => ?_) (fun c4 => ?_)
        · have hw := hw.1 c4
          refine lv_aload_n hx hb dX1_heldByPairs_28 rfl (lv_at hl 0 rfl) ?_
          refine va_get (D := (dC, dI)) (ci := 1) (v := .ref aH) (C := RX1) (T := TX1) (N := 13) hx hb hts hinX1 hown hK hP 0 rfl rfl 0 (by decide) (hts (.fieldLink RX1 9 "TileHand" "hand" "[I") (by decide +kernel)) (fun _ h9 => h9) rfl dX1_heldByPairs_29 ?_
          refine lv_iload_n hx hb dX1_heldByPairs_32 rfl (lv_at hl 3 rfl) ?_
          obtain ⟨h5, hw⟩ := hw
          refine va_iald hx hb hK hP 1 0 rfl rfl h5 dX1_heldByPairs_33 ?_
          refine lv_iconst (v := 1) hx hb dX1_heldByPairs_34 (by decide) ?_
          refine lv_icmp_ne (tgt := 41) hx hb dX1_heldByPairs_35 (by decide) (fun c6 => ?_) (fun c6 => ?_)
          · have hw := hw.2 c6
            exact L41 (w_X1_heldByPairs_b6 post hd n) ih v1 v2 v3 _ _ _ hw hP hD hS (lv_sub hl [0, 1, 2, 3] rfl)
          · have hw := hw.1 c6
            refine lv_iinc (v := v2 + 1) (lv' := [(2, .int (v2 + 1)), (0, .ref x), (1, .int v1), (3, .int v3)]) hx hb dX1_heldByPairs_38 hl (k := 2) rfl rfl (by decide) rfl (fun ls hl => ?_)
            exact L41 (w_X1_heldByPairs_b6 post hd n) ih v1 (v2 + 1) v3 _ _ _ hw hP hD hS (lv_sub hl [1, 2, 0, 3] rfl)
        · have hw := hw.2 c4
          refine lv_iinc (v := v1 + 1) (lv' := [(1, .int (v1 + 1)), (0, .ref x), (2, .int v2), (3, .int v3)]) hx hb dX1_heldByPairs_22 hl (k := 1) rfl rfl (by decide) rfl (fun ls hl => ?_)
          refine lv_goto (tgt := 41) hx hb dX1_heldByPairs_25 (by decide) ?_
          exact L41 (w_X1_heldByPairs_b6 post hd n) ih (v1 + 1) v2 v3 _ _ _ hw hP hD hS (lv_sub hl [1, 0, 2, 3] rfl)
  refine lv_iconst (v := 0) hx hb dX1_heldByPairs_0 (by decide) ?_
  refine lv_istore_n (lv' := [(1, .int (0 : Int32)), (0, .ref x)]) hx hb dX1_heldByPairs_1 rfl hl (by decide) rfl (fun ls hl => ?_)
  refine lv_iconst (v := 0) hx hb dX1_heldByPairs_2 (by decide) ?_
  refine lv_istore_n (lv' := [(2, .int (0 : Int32)), (1, .int (0 : Int32)), (0, .ref x)]) hx hb dX1_heldByPairs_3 rfl hl (by decide) rfl (fun ls hl => ?_)
  refine lv_iconst (v := 0) hx hb dX1_heldByPairs_4 (by decide) ?_
  refine lv_istore_n (lv' := [(3, .int (0 : Int32)), (2, .int (0 : Int32)), (1, .int (0 : Int32)), (0, .ref x)]) hx hb dX1_heldByPairs_5 rfl hl (by decide) rfl (fun ls hl => ?_)
  obtain ⟨n9, hw⟩ := hw
  exact L6 n9 (0 : Int32) (0 : Int32) (0 : Int32) _ _ _ hw hP hD hS (lv_sub hl [3, 2, 1, 0] rfl)
