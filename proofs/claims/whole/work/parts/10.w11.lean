def w_X2_drop (thr : Int32) (mel : Int32) (hM : (Nat → Int32)) (sM : (Nat → Int32)) (p0 : Int32) (post : Int32 → Int32 → (Nat → Int32) → (Nat → Int32) → Prop) : Prop := w_X2_isKind p0 (fun r1 => (((r1 = 0 → (w_X2_fail (0 : Int32) (1 : Int32) (fun r12 thr_13 => (post r12 thr_13 hM sM)))) ∧ (¬ r1 = 0 → (vp_in p0 34 ∧ ((((hM p0.toNatClampNeg) = 0 → (w_X2_fail (0 : Int32) (2 : Int32) (fun r10 thr_11 => (post r10 thr_11 hM sM)))) ∧ (¬ (hM p0.toNatClampNeg) = 0 → (vp_in p0 34 ∧ (vp_in p0 34 ∧ (vp_in p0 34 ∧ (vp_in p0 34 ∧ (w_X2_sizeOf mel (upd hM p0.toNatClampNeg ((hM p0.toNatClampNeg) - (1 : Int32))) (fun r9 => (post r9 (0 : Int32) (upd hM p0.toNatClampNeg ((hM p0.toNatClampNeg) - (1 : Int32))) (upd sM p0.toNatClampNeg ((sM p0.toNatClampNeg) + (1 : Int32))))))))))))))))))

set_option maxHeartbeats 4000000 in
set_option maxRecDepth 100000 in
theorem c_X2_drop (l : Launch) (dC : Nat → ClassId) (dI : Nat → Nat → Nat) (cI cZ : ClassId) (y : Nat) (bH : Nat) (bS : Nat) (bL : Nat) (bO : Nat) (bK : Nat) (bZ : Nat) (bR : Nat) (bG : Nat) (bB : Nat) (bX : Nat) (sz : Nat) (thr : Int32) (mel : Int32) (sea : Int32) (rnd : Int32) (bas : Int32) (lim : Int32) (hM : (Nat → Int32)) (sM : (Nat → Int32)) (p0 : Int32) (post : Int32 → Int32 → (Nat → Int32) → (Nat → Int32) → Prop) (hw : w_X2_drop thr mel hM sM p0 post) : Met l yX2_drop wsX2_drop ({ frames := 3, cells := 0, slots := 0, locals := 60 } : Room) (va_Pc [.ref y, .int p0] (fun U => U.heap.size = sz ∧ va_P (dC, dI) vwCl [(y, .inr (2, [.int thr, .ref bH, .ref bS, .ref bL, .int mel, .ref bO, .ref bK, .ref bZ, .int sea, .int rnd, .int bas, .int lim, .ref bR, .ref bG, .ref bB, .ref bX])), (bH, .inl (cI, 34, .inl hM)), (bS, .inl (cI, 34, .inl sM))] U.heap ∧ va_K (dC, dI) vwCl [(cI, .int), (cZ, .boolean)] U ∧ va_D (fun _ => True) [(y, .inr (2, [.int thr, .ref bH, .ref bS, .ref bL, .int mel, .ref bO, .ref bK, .ref bZ, .int sea, .int rnd, .int bas, .int lim, .ref bR, .ref bG, .ref bB, .ref bX])), (bH, .inl (cI, 34, .inl hM)), (bS, .inl (cI, 34, .inl sM))])) (va_Qi (fun (r9 : Int32) (u9 : Int32 × (Nat → Int32) × (Nat → Int32)) => post r9 u9.1 u9.2.1 u9.2.2) (fun (u9 : Int32 × (Nat → Int32) × (Nat → Int32)) (t9 : State) => va_P (dC, dI) vwCl [(y, .inr (2, [.int u9.1, .ref bH, .ref bS, .ref bL, .int mel, .ref bO, .ref bK, .ref bZ, .int sea, .int rnd, .int bas, .int lim, .ref bR, .ref bG, .ref bB, .ref bX])), (bH, .inl (cI, 34, .inl u9.2.1)), (bS, .inl (cI, 34, .inl u9.2.2))] t9.heap ∧ va_K (dC, dI) vwCl [(cI, .int), (cZ, .boolean)] t9 ∧ va_D (va_A [(y, .inr (2, [.int thr, .ref bH, .ref bS, .ref bL, .int mel, .ref bO, .ref bK, .ref bZ, .int sea, .int rnd, .int bas, .int lim, .ref bR, .ref bG, .ref bB, .ref bX])), (bH, .inl (cI, 34, .inl hM)), (bS, .inl (cI, 34, .inl sM))] sz) [(y, .inr (2, [.int u9.1, .ref bH, .ref bS, .ref bL, .int mel, .ref bO, .ref bK, .ref bZ, .int sea, .int rnd, .int bas, .int lim, .ref bR, .ref bG, .ref bB, .ref bX])), (bH, .inl (cI, 34, .inl u9.2.1)), (bS, .inl (cI, 34, .inl u9.2.2))]) (va_A [(y, .inr (2, [.int thr, .ref bH, .ref bS, .ref bL, .int mel, .ref bO, .ref bK, .ref bZ, .int sea, .int rnd, .int bas, .int lim, .ref bR, .ref bG, .ref bB, .ref bX])), (bH, .inl (cI, 34, .inl hM)), (bS, .inl (cI, 34, .inl sM))] sz)) 0 0 (va_A [(y, .inr (2, [.int thr, .ref bH, .ref bS, .ref bL, .int mel, .ref bO, .ref bK, .ref bZ, .int sea, .int rnd, .int bas, .int lim, .ref bR, .ref bG, .ref bB, .ref bX])), (bH, .inl (cI, 34, .inl hM)), (bS, .inl (cI, 34, .inl sM))] sz) := by
  refine Met.ofW (cc := cX2_drop) (maxL := 2) (ret := (some .int)) (by decide) rfl ?_
  intro p e s m args below meth c s₁ B hml hv
  obtain ⟨rfl, hsz, hP, hK, hD0⟩ := hv
  have hx := B.exec
  have hb := B.bytes
  have hr := B.returns
  have hts := atoms_spec (ws := wsX2_drop) B.pre
  have hown : s.vm.findClass RX2 = some m.cls := findClass_of_methodNamed B.named
  have hlocks := B.notSynchronized
  have hinX2 : ∀ w ∈ u_ws RX2 TX2 16, w ∈ wsX2_drop := by decide +kernel
  subst hsz
  have hD := hD0.self (sz := s.heap.size)
  generalize hAe : va_A [(y, .inr (2, [.int thr, .ref bH, .ref bS, .ref bL, .int mel, .ref bO, .ref bK, .ref bZ, .int sea, .int rnd, .int bas, .int lim, .ref bR, .ref bG, .ref bB, .ref bX])), (bH, .inl (cI, 34, .inl hM)), (bS, .inl (cI, 34, .inl sM))] s.heap.size = A at hD ⊢
  have hA : ∀ q : Nat, s.heap.size ≤ q → A q := fun q h => by rw [← hAe]; exact Or.inr h
  have hS : va_S A s.heap s.heap [] := va_S.rf
  have hl := lv_entry ([.ref y, .int p0]) (n := 2) (Nat.le_of_ble_eq_true rfl)
  rw [lg_entry_eq]
  generalize (lg_sl ([.ref y, .int p0]) ++ List.replicate (2 - (lg_sl ([.ref y, .int p0])).length) Slot.unset).toArray = ls at hl ⊢
  have hl : lv_has ls 2 [(0, .ref y), (1, .int p0)] := hl
  refine (?_ : ∀ Q9 : State → Prop, MQ below _ _ s _ _ _ = Q9 → W p l e ({ frames := 3, cells := 0, slots := 0, locals := 60 } : Room) s m _ below meth c s.heap [] 0 0 Q9 (F0 m 0 ls [])) _ rfl
  intro Q9 hQ9
  have hw : w_X2_isKind p0 (fun r1 => (((r1 = 0 → (w_X2_fail (0 : Int32) (1 : Int32) (fun r12 thr_13 => (post r12 thr_13 hM sM)))) ∧ (¬ r1 = 0 → (vp_in p0 34 ∧ ((((hM p0.toNatClampNeg) = 0 → (w_X2_fail (0 : Int32) (2 : Int32) (fun r10 thr_11 => (post r10 thr_11 hM sM)))) ∧ (¬ (hM p0.toNatClampNeg) = 0 → (vp_in p0 34 ∧ (vp_in p0 34 ∧ (vp_in p0 34 ∧ (vp_in p0 34 ∧ (w_X2_sizeOf mel (upd hM p0.toNatClampNeg ((hM p0.toNatClampNeg) - (1 : Int32))) (fun r9 => (post r9 (0 : Int32) (upd hM p0.toNatClampNeg ((hM p0.toNatClampNeg) - (1 : Int32))) (upd sM p0.toNatClampNeg ((sM p0.toNatClampNeg) + (1 : Int32)))))))))))))))))) := hw
  refine lv_aload_n hx hb dX2_drop_0 rfl (lv_at hl 0 rfl) ?_
  refine lv_iconst (v := 0) hx hb dX2_drop_1 (by decide) ?_
  refine va_put (D := (dC, dI)) (ci := 2) (v := .int (0 : Int32)) (ty := .int) (C := RX2) (T := TX2) (N := 16) hx hb hts hinX2 tyX2 tyX2_ok nmX2 hown hK hP hD hS 0 rfl rfl 0 (by decide) (hts (.fieldLink RX2 54 "TileHandModel" "thrown" "I") (by decide +kernel)) (fun _ h9 => h9) rfl (by decide +kernel) rfl rfl (Nat.le_of_ble_eq_true rfl) dX2_drop_2 (fun H locs hP hD hS => ?_)
  have hP : va_P (dC, dI) vwCl [(y, .inr (2, [.int (0 : Int32), .ref bH, .ref bS, .ref bL, .int mel, .ref bO, .ref bK, .ref bZ, .int sea, .int rnd, .int bas, .int lim, .ref bR, .ref bG, .ref bB, .ref bX])), (bH, .inl (cI, 34, .inl hM)), (bS, .inl (cI, 34, .inl sM))] H := hP
  have hD : va_D A [(y, .inr (2, [.int (0 : Int32), .ref bH, .ref bS, .ref bL, .int mel, .ref bO, .ref bK, .ref bZ, .int sea, .int rnd, .int bas, .int lim, .ref bR, .ref bG, .ref bB, .ref bX])), (bH, .inl (cI, 34, .inl hM)), (bS, .inl (cI, 34, .inl sM))] := hD
  refine lv_iload_n hx hb dX2_drop_5 rfl (lv_at hl 1 rfl) ?_
  have hPc := hP.sub (ws' := []) [] rfl
  have hDc := hD.sub (ws' := []) [] (by decide) rfl
  have hFc := va_free (wc := []) hD hS hA [] rfl
  refine va_calli (va_runS (As := [.int p0]) (rest := []) ⟨hx, hb, hml, hown, hts⟩ (c_X2_isKind l dC dI cI cZ H.size p0 _ hw) (va_cwS 1 hts gX2_drop_X2_isKind rfl rfl rfl (by decide +kernel) ⟨Nat.le_of_ble_eq_true rfl, Nat.le_of_ble_eq_true rfl⟩) ⟨fun a U g mk q => by obtain ⟨q0, q1, qP, qK, qD⟩ := q; exact ⟨q0, q1, qP, va_K.moved (u := U) (U := U.calling g mk a) (Vm.Alike.refl U.vm) qK, qD⟩, fun U hU hW => ⟨rfl, by rw [hU], by rw [hU]; exact hPc, va_K.moved hW.alike hK, hDc.weaken (fun _ _ _ _ => trivial)⟩⟩ rfl rfl hl.1 rfl (lv_room (Nat.le_of_ble_eq_true rfl)) dX2_drop_6 ⟨Nat.le_of_ble_eq_true rfl, Nat.le_of_ble_eq_true rfl⟩) hS (fun q _ h => hFc q h) hFc (fun r1 u t H1 locs ht hvm hw hB hz1 hk1 hS => ?_)
  obtain ⟨hP1, -, hD1⟩ := hB
  have hw := And.intro hw trivial
  try dsimp only at hw
  have hw := hw.1
  rw [ht] at hP1
  obtain ⟨hP, hD⟩ := va_join (wr := [(y, .inr (2, [.int (0 : Int32), .ref bH, .ref bS, .ref bL, .int mel, .ref bO, .ref bK, .ref bZ, .int sea, .int rnd, .int bas, .int lim, .ref bR, .ref bG, .ref bB, .ref bX])), (bH, .inl (cI, 34, .inl hM)), (bS, .inl (cI, 34, .inl sM))]) (w1 := []) hP hD [] [0, 1, 2] rfl rfl (by decide) (by decide) hk1 hFc hP1 hD1
  generalize H1 = H at hP hS ⊢
  have hP : va_P (dC, dI) vwCl [(y, .inr (2, [.int (0 : Int32), .ref bH, .ref bS, .ref bL, .int mel, .ref bO, .ref bK, .ref bZ, .int sea, .int rnd, .int bas, .int lim, .ref bR, .ref bG, .ref bB, .ref bX])), (bH, .inl (cI, 34, .inl hM)), (bS, .inl (cI, 34, .inl sM))] H := hP
  have hD : va_D A [(y, .inr (2, [.int (0 : Int32), .ref bH, .ref bS, .ref bL, .int mel, .ref bO, .ref bK, .ref bZ, .int sea, .int rnd, .int bas, .int lim, .ref bR, .ref bG, .ref bB, .ref bX])), (bH, .inl (cI, 34, .inl hM)), (bS, .inl (cI, 34, .inl sM))] := hD
  refine lv_if_ne (tgt := 18) hx hb dX2_drop_9 (by decide) (fun c2 => ?_) (fun c2 => ?_)
  · have hw := hw.2 c2
    refine lv_aload_n hx hb dX2_drop_18 rfl (lv_at hl 0 rfl) ?_
    refine va_get (D := (dC, dI)) (ci := 2) (v := .ref bH) (C := RX2) (T := TX2) (N := 16) hx hb hts hinX2 hown hK hP 0 rfl rfl 1 (by decide) (hts (.fieldLink RX2 9 "TileHandModel" "hand" "[I") (by decide +kernel)) (fun _ h9 => h9) rfl dX2_drop_19 ?_
    refine lv_iload_n hx hb dX2_drop_22 rfl (lv_at hl 1 rfl) ?_
    obtain ⟨h3, hw⟩ := hw
    refine va_iald hx hb hK hP 1 0 rfl rfl h3 dX2_drop_23 ?_
    refine lv_if_ne (tgt := 33) hx hb dX2_drop_24 (by decide) (fun c4 => ?_) (fun c4 => ?_)
    · have hw := hw.2 c4
      refine lv_aload_n hx hb dX2_drop_33 rfl (lv_at hl 0 rfl) ?_
      refine va_get (D := (dC, dI)) (ci := 2) (v := .ref bH) (C := RX2) (T := TX2) (N := 16) hx hb hts hinX2 hown hK hP 0 rfl rfl 1 (by decide) (hts (.fieldLink RX2 9 "TileHandModel" "hand" "[I") (by decide +kernel)) (fun _ h9 => h9) rfl dX2_drop_34 ?_
      refine lv_iload_n hx hb dX2_drop_37 rfl (lv_at hl 1 rfl) ?_
      refine lv_dup2_11 hx hb dX2_drop_38 rfl rfl ?_
      obtain ⟨h5, hw⟩ := hw
      refine va_iald hx hb hK hP 1 0 rfl rfl h5 dX2_drop_39 ?_
      refine lv_iconst (v := 1) hx hb dX2_drop_40 (by decide) ?_
      refine lv_isub hx hb dX2_drop_41 ?_
      obtain ⟨h6, hw⟩ := hw
      refine va_iast hx hb hK hP hD hS 1 0 rfl rfl h6 dX2_drop_42 (fun H locs hP hD hS => ?_)
      have hP : va_P (dC, dI) vwCl [(y, .inr (2, [.int (0 : Int32), .ref bH, .ref bS, .ref bL, .int mel, .ref bO, .ref bK, .ref bZ, .int sea, .int rnd, .int bas, .int lim, .ref bR, .ref bG, .ref bB, .ref bX])), (bH, .inl (cI, 34, .inl (upd hM p0.toNatClampNeg ((hM p0.toNatClampNeg) - (1 : Int32))))), (bS, .inl (cI, 34, .inl sM))] H := hP
      have hD : va_D A [(y, .inr (2, [.int (0 : Int32), .ref bH, .ref bS, .ref bL, .int mel, .ref bO, .ref bK, .ref bZ, .int sea, .int rnd, .int bas, .int lim, .ref bR, .ref bG, .ref bB, .ref bX])), (bH, .inl (cI, 34, .inl (upd hM p0.toNatClampNeg ((hM p0.toNatClampNeg) - (1 : Int32))))), (bS, .inl (cI, 34, .inl sM))] := hD
      refine lv_aload_n hx hb dX2_drop_43 rfl (lv_at hl 0 rfl) ?_
      refine va_get (D := (dC, dI)) (ci := 2) (v := .ref bS) (C := RX2) (T := TX2) (N := 16) hx hb hts hinX2 hown hK hP 0 rfl rfl 2 (by decide) (hts (.fieldLink RX2 13 "TileHandModel" "seen" "[I") (by decide +kernel)) (fun _ h9 => h9) rfl dX2_drop_44 ?_
      refine lv_iload_n hx hb dX2_drop_47 rfl (lv_at hl 1 rfl) ?_
      refine lv_dup2_11 hx hb dX2_drop_48 rfl rfl ?_
      obtain ⟨h7, hw⟩ := hw
      refine va_iald hx hb hK hP 2 0 rfl rfl h7 dX2_drop_49 ?_
      refine lv_iconst (v := 1) hx hb dX2_drop_50 (by decide) ?_
      refine lv_iadd hx hb dX2_drop_51 ?_
      obtain ⟨h8, hw⟩ := hw
      refine va_iast hx hb hK hP hD hS 2 0 rfl rfl h8 dX2_drop_52 (fun H locs hP hD hS => ?_)
      have hP : va_P (dC, dI) vwCl [(y, .inr (2, [.int (0 : Int32), .ref bH, .ref bS, .ref bL, .int mel, .ref bO, .ref bK, .ref bZ, .int sea, .int rnd, .int bas, .int lim, .ref bR, .ref bG, .ref bB, .ref bX])), (bH, .inl (cI, 34, .inl (upd hM p0.toNatClampNeg ((hM p0.toNatClampNeg) - (1 : Int32))))), (bS, .inl (cI, 34, .inl (upd sM p0.toNatClampNeg ((sM p0.toNatClampNeg) + (1 : Int32)))))] H := hP
      have hD : va_D A [(y, .inr (2, [.int (0 : Int32), .ref bH, .ref bS, .ref bL, .int mel, .ref bO, .ref bK, .ref bZ, .int sea, .int rnd, .int bas, .int lim, .ref bR, .ref bG, .ref bB, .ref bX])), (bH, .inl (cI, 34, .inl (upd hM p0.toNatClampNeg ((hM p0.toNatClampNeg) - (1 : Int32))))), (bS, .inl (cI, 34, .inl (upd sM p0.toNatClampNeg ((sM p0.toNatClampNeg) + (1 : Int32)))))] := hD
      refine lv_aload_n hx hb dX2_drop_53 rfl (lv_at hl 0 rfl) ?_
      have hPc := hP.sub (ws' := [(y, .inr (2, [.int (0 : Int32), .ref bH, .ref bS, .ref bL, .int mel, .ref bO, .ref bK, .ref bZ, .int sea, .int rnd, .int bas, .int lim, .ref bR, .ref bG, .ref bB, .ref bX])), (bH, .inl (cI, 34, .inl (upd hM p0.toNatClampNeg ((hM p0.toNatClampNeg) - (1 : Int32)))))]) [0, 1] rfl
      have hDc := hD.sub (ws' := [(y, .inr (2, [.int (0 : Int32), .ref bH, .ref bS, .ref bL, .int mel, .ref bO, .ref bK, .ref bZ, .int sea, .int rnd, .int bas, .int lim, .ref bR, .ref bG, .ref bB, .ref bX])), (bH, .inl (cI, 34, .inl (upd hM p0.toNatClampNeg ((hM p0.toNatClampNeg) - (1 : Int32)))))]) [0, 1] (by decide) rfl
      have hFc := va_free (wc := [(y, .inr (2, [.int (0 : Int32), .ref bH, .ref bS, .ref bL, .int mel, .ref bO, .ref bK, .ref bZ, .int sea, .int rnd, .int bas, .int lim, .ref bR, .ref bG, .ref bB, .ref bX])), (bH, .inl (cI, 34, .inl (upd hM p0.toNatClampNeg ((hM p0.toNatClampNeg) - (1 : Int32)))))]) hD hS hA [0, 1] rfl
      refine va_calli (va_runV (As := []) (rest := []) ⟨hx, hb, hml, hown, hts⟩ (c_X2_sizeOf l dC dI cI cZ y bH bS bL bO bK bZ bR bG bB bX H.size (0 : Int32) mel sea rnd bas lim (upd hM p0.toNatClampNeg ((hM p0.toNatClampNeg) - (1 : Int32))) _ hw) (cwV 0 hts gX2_drop_X2_sizeOf rfl rfl rfl (by decide +kernel) ⟨Nat.le_of_ble_eq_true rfl, Nat.le_of_ble_eq_true rfl⟩) ⟨fun a U g mk q => by obtain ⟨q0, q1, qP, qK, qD⟩ := q; exact ⟨q0, q1, qP, va_K.moved (u := U) (U := U.calling g mk a) (Vm.Alike.refl U.vm) qK, qD⟩, va_recv hK hPc (ci := 2) (q0 := 0) rfl rfl, fun U hU hW => ⟨rfl, by rw [hU], by rw [hU]; exact hPc, va_K.moved hW.alike hK, hDc.weaken (fun _ _ _ _ => trivial)⟩⟩ rfl rfl hl.1 rfl (lv_room (Nat.le_of_ble_eq_true rfl)) dX2_drop_54 ⟨Nat.le_of_ble_eq_true rfl, Nat.le_of_ble_eq_true rfl⟩) hS (fun q _ h => hFc q h) hFc (fun r9 u t H1 locs ht hvm hw hB hz1 hk1 hS => ?_)
      obtain ⟨hP1, -, hD1⟩ := hB
      have hw := And.intro hw trivial
      try dsimp only at hw
      have hw := hw.1
      rw [ht] at hP1
      obtain ⟨hP, hD⟩ := va_join (wr := [(bS, .inl (cI, 34, .inl (upd sM p0.toNatClampNeg ((sM p0.toNatClampNeg) + (1 : Int32)))))]) (w1 := [(y, .inr (2, [.int (0 : Int32), .ref bH, .ref bS, .ref bL, .int mel, .ref bO, .ref bK, .ref bZ, .int sea, .int rnd, .int bas, .int lim, .ref bR, .ref bG, .ref bB, .ref bX])), (bH, .inl (cI, 34, .inl (upd hM p0.toNatClampNeg ((hM p0.toNatClampNeg) - (1 : Int32)))))]) hP hD [0, 1] [2] rfl rfl (by decide) (by decide) hk1 hFc hP1 hD1
      generalize H1 = H at hP hS ⊢
      have hP : va_P (dC, dI) vwCl [(bS, .inl (cI, 34, .inl (upd sM p0.toNatClampNeg ((sM p0.toNatClampNeg) + (1 : Int32))))), (y, .inr (2, [.int (0 : Int32), .ref bH, .ref bS, .ref bL, .int mel, .ref bO, .ref bK, .ref bZ, .int sea, .int rnd, .int bas, .int lim, .ref bR, .ref bG, .ref bB, .ref bX])), (bH, .inl (cI, 34, .inl (upd hM p0.toNatClampNeg ((hM p0.toNatClampNeg) - (1 : Int32)))))] H := hP
      have hD : va_D A [(bS, .inl (cI, 34, .inl (upd sM p0.toNatClampNeg ((sM p0.toNatClampNeg) + (1 : Int32))))), (y, .inr (2, [.int (0 : Int32), .ref bH, .ref bS, .ref bL, .int mel, .ref bO, .ref bK, .ref bZ, .int sea, .int rnd, .int bas, .int lim, .ref bR, .ref bG, .ref bB, .ref bX])), (bH, .inl (cI, 34, .inl (upd hM p0.toNatClampNeg ((hM p0.toNatClampNeg) - (1 : Int32)))))] := hD
      have hP9 := hP.sub (ws' := [(y, .inr (2, [.int (0 : Int32), .ref bH, .ref bS, .ref bL, .int mel, .ref bO, .ref bK, .ref bZ, .int sea, .int rnd, .int bas, .int lim, .ref bR, .ref bG, .ref bB, .ref bX])), (bH, .inl (cI, 34, .inl (upd hM p0.toNatClampNeg ((hM p0.toNatClampNeg) - (1 : Int32))))), (bS, .inl (cI, 34, .inl (upd sM p0.toNatClampNeg ((sM p0.toNatClampNeg) + (1 : Int32)))))]) [1, 2, 0] rfl
      have hD9 := hD.sub (ws' := [(y, .inr (2, [.int (0 : Int32), .ref bH, .ref bS, .ref bL, .int mel, .ref bO, .ref bK, .ref bZ, .int sea, .int rnd, .int bas, .int lim, .ref bR, .ref bG, .ref bB, .ref bX])), (bH, .inl (cI, 34, .inl (upd hM p0.toNatClampNeg ((hM p0.toNatClampNeg) - (1 : Int32))))), (bS, .inl (cI, 34, .inl (upd sM p0.toNatClampNeg ((sM p0.toNatClampNeg) + (1 : Int32)))))]) [1, 2, 0] (by decide) rfl
      rw [← hQ9]
      exact W.iret (v := r9) hx hb hr (fun t ht hW => ⟨⟨r9, ((0 : Int32), upd hM p0.toNatClampNeg ((hM p0.toNatClampNeg) - (1 : Int32)), upd sM p0.toNatClampNeg ((sM p0.toNatClampNeg) + (1 : Int32))), rfl, hw, by rw [ht]; exact hP9, va_K.moved hW.alike hK, hD9⟩, hS.F ht⟩) hS.2.2 dX2_drop_57
    · have hw := hw.1 c4
      refine lv_aload_n hx hb dX2_drop_27 rfl (lv_at hl 0 rfl) ?_
      refine lv_iconst (v := 2) hx hb dX2_drop_28 (by decide) ?_
      have hPc := hP.sub (ws' := [(y, .inr (2, [.int (0 : Int32), .ref bH, .ref bS, .ref bL, .int mel, .ref bO, .ref bK, .ref bZ, .int sea, .int rnd, .int bas, .int lim, .ref bR, .ref bG, .ref bB, .ref bX]))]) [0] rfl
      have hDc := hD.sub (ws' := [(y, .inr (2, [.int (0 : Int32), .ref bH, .ref bS, .ref bL, .int mel, .ref bO, .ref bK, .ref bZ, .int sea, .int rnd, .int bas, .int lim, .ref bR, .ref bG, .ref bB, .ref bX]))]) [0] (by decide) rfl
      have hFc := va_free (wc := [(y, .inr (2, [.int (0 : Int32), .ref bH, .ref bS, .ref bL, .int mel, .ref bO, .ref bK, .ref bZ, .int sea, .int rnd, .int bas, .int lim, .ref bR, .ref bG, .ref bB, .ref bX]))]) hD hS hA [0] rfl
      refine va_calli (va_runV (As := [.int (2 : Int32)]) (rest := []) ⟨hx, hb, hml, hown, hts⟩ (c_X2_fail l dC dI cI cZ y bH bS bL bO bK bZ bR bG bB bX H.size (0 : Int32) mel sea rnd bas lim (2 : Int32) _ hw) (cwV 1 hts gX2_drop_X2_fail rfl rfl rfl (by decide +kernel) ⟨Nat.le_of_ble_eq_true rfl, Nat.le_of_ble_eq_true rfl⟩) ⟨fun a U g mk q => by obtain ⟨q0, q1, qP, qK, qD⟩ := q; exact ⟨q0, q1, qP, va_K.moved (u := U) (U := U.calling g mk a) (Vm.Alike.refl U.vm) qK, qD⟩, va_recv hK hPc (ci := 2) (q0 := 0) rfl rfl, fun U hU hW => ⟨rfl, by rw [hU], by rw [hU]; exact hPc, va_K.moved hW.alike hK, hDc.weaken (fun _ _ _ _ => trivial)⟩⟩ rfl rfl hl.1 rfl (lv_room (Nat.le_of_ble_eq_true rfl)) dX2_drop_29 ⟨Nat.le_of_ble_eq_true rfl, Nat.le_of_ble_eq_true rfl⟩) hS (fun q _ h => hFc q h) hFc (fun r10 u t H1 locs ht hvm hw hB hz1 hk1 hS => ?_)
      obtain ⟨thr_11, rfl⟩ : ∃ z, z = u := ⟨_, rfl⟩
      obtain ⟨hP1, -, hD1⟩ := hB
      have hw := And.intro hw trivial
      try dsimp only at hw
      have hw := hw.1
      rw [ht] at hP1
      obtain ⟨hP, hD⟩ := va_join (wr := [(bH, .inl (cI, 34, .inl hM)), (bS, .inl (cI, 34, .inl sM))]) (w1 := [(y, .inr (2, [.int thr_11, .ref bH, .ref bS, .ref bL, .int mel, .ref bO, .ref bK, .ref bZ, .int sea, .int rnd, .int bas, .int lim, .ref bR, .ref bG, .ref bB, .ref bX]))]) hP hD [0] [1, 2] rfl rfl (by decide) (by decide) hk1 hFc hP1 hD1
      generalize H1 = H at hP hS ⊢
      have hP : va_P (dC, dI) vwCl [(bH, .inl (cI, 34, .inl hM)), (bS, .inl (cI, 34, .inl sM)), (y, .inr (2, [.int thr_11, .ref bH, .ref bS, .ref bL, .int mel, .ref bO, .ref bK, .ref bZ, .int sea, .int rnd, .int bas, .int lim, .ref bR, .ref bG, .ref bB, .ref bX]))] H := hP
      have hD : va_D A [(bH, .inl (cI, 34, .inl hM)), (bS, .inl (cI, 34, .inl sM)), (y, .inr (2, [.int thr_11, .ref bH, .ref bS, .ref bL, .int mel, .ref bO, .ref bK, .ref bZ, .int sea, .int rnd, .int bas, .int lim, .ref bR, .ref bG, .ref bB, .ref bX]))] := hD
      have hP9 := hP.sub (ws' := [(y, .inr (2, [.int thr_11, .ref bH, .ref bS, .ref bL, .int mel, .ref bO, .ref bK, .ref bZ, .int sea, .int rnd, .int bas, .int lim, .ref bR, .ref bG, .ref bB, .ref bX])), (bH, .inl (cI, 34, .inl hM)), (bS, .inl (cI, 34, .inl sM))]) [2, 0, 1] rfl
      have hD9 := hD.sub (ws' := [(y, .inr (2, [.int thr_11, .ref bH, .ref bS, .ref bL, .int mel, .ref bO, .ref bK, .ref bZ, .int sea, .int rnd, .int bas, .int lim, .ref bR, .ref bG, .ref bB, .ref bX])), (bH, .inl (cI, 34, .inl hM)), (bS, .inl (cI, 34, .inl sM))]) [2, 0, 1] (by decide) rfl
      rw [← hQ9]
      exact W.iret (v := r10) hx hb hr (fun t ht hW => ⟨⟨r10, (thr_11, hM, sM), rfl, hw, by rw [ht]; exact hP9, va_K.moved hW.alike hK, hD9⟩, hS.F ht⟩) hS.2.2 dX2_drop_32
  · have hw := hw.1 c2
    refine lv_aload_n hx hb dX2_drop_12 rfl (lv_at hl 0 rfl) ?_
    refine lv_iconst (v := 1) hx hb dX2_drop_13 (by decide) ?_
    have hPc := hP.sub (ws' := [(y, .inr (2, [.int (0 : Int32), .ref bH, .ref bS, .ref bL, .int mel, .ref bO, .ref bK, .ref bZ, .int sea, .int rnd, .int bas, .int lim, .ref bR, .ref bG, .ref bB, .ref bX]))]) [0] rfl
    have hDc := hD.sub (ws' := [(y, .inr (2, [.int (0 : Int32), .ref bH, .ref bS, .ref bL, .int mel, .ref bO, .ref bK, .ref bZ, .int sea, .int rnd, .int bas, .int lim, .ref bR, .ref bG, .ref bB, .ref bX]))]) [0] (by decide) rfl
    have hFc := va_free (wc := [(y, .inr (2, [.int (0 : Int32), .ref bH, .ref bS, .ref bL, .int mel, .ref bO, .ref bK, .ref bZ, .int sea, .int rnd, .int bas, .int lim, .ref bR, .ref bG, .ref bB, .ref bX]))]) hD hS hA [0] rfl
    refine va_calli (va_runV (As := [.int (1 : Int32)]) (rest := []) ⟨hx, hb, hml, hown, hts⟩ (c_X2_fail l dC dI cI cZ y bH bS bL bO bK bZ bR bG bB bX H.size (0 : Int32) mel sea rnd bas lim (1 : Int32) _ hw) (cwV 1 hts gX2_drop_X2_fail rfl rfl rfl (by decide +kernel) ⟨Nat.le_of_ble_eq_true rfl, Nat.le_of_ble_eq_true rfl⟩) ⟨fun a U g mk q => by obtain ⟨q0, q1, qP, qK, qD⟩ := q; exact ⟨q0, q1, qP, va_K.moved (u := U) (U := U.calling g mk a) (Vm.Alike.refl U.vm) qK, qD⟩, va_recv hK hPc (ci := 2) (q0 := 0) rfl rfl, fun U hU hW => ⟨rfl, by rw [hU], by rw [hU]; exact hPc, va_K.moved hW.alike hK, hDc.weaken (fun _ _ _ _ => trivial)⟩⟩ rfl rfl hl.1 rfl (lv_room (Nat.le_of_ble_eq_true rfl)) dX2_drop_14 ⟨Nat.le_of_ble_eq_true rfl, Nat.le_of_ble_eq_true rfl⟩) hS (fun q _ h => hFc q h) hFc (fun r12 u t H1 locs ht hvm hw hB hz1 hk1 hS => ?_)
    obtain ⟨thr_13, rfl⟩ : ∃ z, z = u := ⟨_, rfl⟩
    obtain ⟨hP1, -, hD1⟩ := hB
    have hw := And.intro hw trivial
    try dsimp only at hw
    have hw := hw.1
    rw [ht] at hP1
    obtain ⟨hP, hD⟩ := va_join (wr := [(bH, .inl (cI, 34, .inl hM)), (bS, .inl (cI, 34, .inl sM))]) (w1 := [(y, .inr (2, [.int thr_13, .ref bH, .ref bS, .ref bL, .int mel, .ref bO, .ref bK, .ref bZ, .int sea, .int rnd, .int bas, .int lim, .ref bR, .ref bG, .ref bB, .ref bX]))]) hP hD [0] [1, 2] rfl rfl (by decide) (by decide) hk1 hFc hP1 hD1
    generalize H1 = H at hP hS ⊢
    have hP : va_P (dC, dI) vwCl [(bH, .inl (cI, 34, .inl hM)), (bS, .inl (cI, 34, .inl sM)), (y, .inr (2, [.int thr_13, .ref bH, .ref bS, .ref bL, .int mel, .ref bO, .ref bK, .ref bZ, .int sea, .int rnd, .int bas, .int lim, .ref bR, .ref bG, .ref bB, .ref bX]))] H := hP
    have hD : va_D A [(bH, .inl (cI, 34, .inl hM)), (bS, .inl (cI, 34, .inl sM)), (y, .inr (2, [.int thr_13, .ref bH, .ref bS, .ref bL, .int mel, .ref bO, .ref bK, .ref bZ, .int sea, .int rnd, .int bas, .int lim, .ref bR, .ref bG, .ref bB, .ref bX]))] := hD
    have hP9 := hP.sub (ws' := [(y, .inr (2, [.int thr_13, .ref bH, .ref bS, .ref bL, .int mel, .ref bO, .ref bK, .ref bZ, .int sea, .int rnd, .int bas, .int lim, .ref bR, .ref bG, .ref bB, .ref bX])), (bH, .inl (cI, 34, .inl hM)), (bS, .inl (cI, 34, .inl sM))]) [2, 0, 1] rfl
    have hD9 := hD.sub (ws' := [(y, .inr (2, [.int thr_13, .ref bH, .ref bS, .ref bL, .int mel, .ref bO, .ref bK, .ref bZ, .int sea, .int rnd, .int bas, .int lim, .ref bR, .ref bG, .ref bB, .ref bX])), (bH, .inl (cI, 34, .inl hM)), (bS, .inl (cI, 34, .inl sM))]) [2, 0, 1] (by decide) rfl
    rw [← hQ9]
    exact W.iret (v := r12) hx hb hr (fun t ht hW => ⟨⟨r12, (thr_13, hM, sM), rfl, hw, by rw [ht]; exact hP9, va_K.moved hW.alike hK, hD9⟩, hS.F ht⟩) hS.2.2 dX2_drop_17

def w_X2_see (thr : Int32) (hM : (Nat → Int32)) (sM : (Nat → Int32)) (lM : (Nat → Int32)) (p0 : Int32) (post : Int32 → Int32 → (Nat → Int32) → Prop) : Prop := w_X2_isKind p0 (fun r1 => (((r1 = 0 → (w_X2_fail (0 : Int32) (1 : Int32) (fun r10 thr_11 => (post r10 thr_11 sM)))) ∧ (¬ r1 = 0 → (w_X2_left hM sM lM p0 (fun r3 => (((r3 = 0 → (w_X2_fail (0 : Int32) (2 : Int32) (fun r8 thr_9 => (post r8 thr_9 sM)))) ∧ (¬ r3 = 0 → (vp_in p0 34 ∧ (vp_in p0 34 ∧ (w_X2_left hM (upd sM p0.toNatClampNeg ((sM p0.toNatClampNeg) + (1 : Int32))) lM p0 (fun r7 => (post r7 (0 : Int32) (upd sM p0.toNatClampNeg ((sM p0.toNatClampNeg) + (1 : Int32)))))))))))))))))

set_option maxHeartbeats 4000000 in
set_option maxRecDepth 100000 in
theorem c_X2_see (l : Launch) (dC : Nat → ClassId) (dI : Nat → Nat → Nat) (cI cZ : ClassId) (y : Nat) (bH : Nat) (bS : Nat) (bL : Nat) (bO : Nat) (bK : Nat) (bZ : Nat) (bR : Nat) (bG : Nat) (bB : Nat) (bX : Nat) (sz : Nat) (thr : Int32) (mel : Int32) (sea : Int32) (rnd : Int32) (bas : Int32) (lim : Int32) (hM : (Nat → Int32)) (sM : (Nat → Int32)) (lM : (Nat → Int32)) (p0 : Int32) (post : Int32 → Int32 → (Nat → Int32) → Prop) (hw : w_X2_see thr hM sM lM p0 post) : Met l yX2_see wsX2_see ({ frames := 3, cells := 0, slots := 0, locals := 60 } : Room) (va_Pc [.ref y, .int p0] (fun U => U.heap.size = sz ∧ va_P (dC, dI) vwCl [(y, .inr (2, [.int thr, .ref bH, .ref bS, .ref bL, .int mel, .ref bO, .ref bK, .ref bZ, .int sea, .int rnd, .int bas, .int lim, .ref bR, .ref bG, .ref bB, .ref bX])), (bH, .inl (cI, 34, .inl hM)), (bS, .inl (cI, 34, .inl sM)), (bL, .inl (cI, 34, .inl lM))] U.heap ∧ va_K (dC, dI) vwCl [(cI, .int), (cZ, .boolean)] U ∧ va_D (fun _ => True) [(y, .inr (2, [.int thr, .ref bH, .ref bS, .ref bL, .int mel, .ref bO, .ref bK, .ref bZ, .int sea, .int rnd, .int bas, .int lim, .ref bR, .ref bG, .ref bB, .ref bX])), (bH, .inl (cI, 34, .inl hM)), (bS, .inl (cI, 34, .inl sM)), (bL, .inl (cI, 34, .inl lM))])) (va_Qi (fun (r9 : Int32) (u9 : Int32 × (Nat → Int32)) => post r9 u9.1 u9.2) (fun (u9 : Int32 × (Nat → Int32)) (t9 : State) => va_P (dC, dI) vwCl [(y, .inr (2, [.int u9.1, .ref bH, .ref bS, .ref bL, .int mel, .ref bO, .ref bK, .ref bZ, .int sea, .int rnd, .int bas, .int lim, .ref bR, .ref bG, .ref bB, .ref bX])), (bH, .inl (cI, 34, .inl hM)), (bS, .inl (cI, 34, .inl u9.2)), (bL, .inl (cI, 34, .inl lM))] t9.heap ∧ va_K (dC, dI) vwCl [(cI, .int), (cZ, .boolean)] t9 ∧ va_D (va_A [(y, .inr (2, [.int thr, .ref bH, .ref bS, .ref bL, .int mel, .ref bO, .ref bK, .ref bZ, .int sea, .int rnd, .int bas, .int lim, .ref bR, .ref bG, .ref bB, .ref bX])), (bH, .inl (cI, 34, .inl hM)), (bS, .inl (cI, 34, .inl sM)), (bL, .inl (cI, 34, .inl lM))] sz) [(y, .inr (2, [.int u9.1, .ref bH, .ref bS, .ref bL, .int mel, .ref bO, .ref bK, .ref bZ, .int sea, .int rnd, .int bas, .int lim, .ref bR, .ref bG, .ref bB, .ref bX])), (bH, .inl (cI, 34, .inl hM)), (bS, .inl (cI, 34, .inl u9.2)), (bL, .inl (cI, 34, .inl lM))]) (va_A [(y, .inr (2, [.int thr, .ref bH, .ref bS, .ref bL, .int mel, .ref bO, .ref bK, .ref bZ, .int sea, .int rnd, .int bas, .int lim, .ref bR, .ref bG, .ref bB, .ref bX])), (bH, .inl (cI, 34, .inl hM)), (bS, .inl (cI, 34, .inl sM)), (bL, .inl (cI, 34, .inl lM))] sz)) 0 0 (va_A [(y, .inr (2, [.int thr, .ref bH, .ref bS, .ref bL, .int mel, .ref bO, .ref bK, .ref bZ, .int sea, .int rnd, .int bas, .int lim, .ref bR, .ref bG, .ref bB, .ref bX])), (bH, .inl (cI, 34, .inl hM)), (bS, .inl (cI, 34, .inl sM)), (bL, .inl (cI, 34, .inl lM))] sz) := by
  refine Met.ofW (cc := cX2_see) (maxL := 2) (ret := (some .int)) (by decide) rfl ?_
  intro p e s m args below meth c s₁ B hml hv
  obtain ⟨rfl, hsz, hP, hK, hD0⟩ := hv
  have hx := B.exec
  have hb := B.bytes
  have hr := B.returns
  have hts := atoms_spec (ws := wsX2_see) B.pre
  have hown : s.vm.findClass RX2 = some m.cls := findClass_of_methodNamed B.named
  have hlocks := B.notSynchronized
  have hinX2 : ∀ w ∈ u_ws RX2 TX2 16, w ∈ wsX2_see := by decide +kernel
  subst hsz
  have hD := hD0.self (sz := s.heap.size)
  generalize hAe : va_A [(y, .inr (2, [.int thr, .ref bH, .ref bS, .ref bL, .int mel, .ref bO, .ref bK, .ref bZ, .int sea, .int rnd, .int bas, .int lim, .ref bR, .ref bG, .ref bB, .ref bX])), (bH, .inl (cI, 34, .inl hM)), (bS, .inl (cI, 34, .inl sM)), (bL, .inl (cI, 34, .inl lM))] s.heap.size = A at hD ⊢
  have hA : ∀ q : Nat, s.heap.size ≤ q → A q := fun q h => by rw [← hAe]; exact Or.inr h
  have hS : va_S A s.heap s.heap [] := va_S.rf
  have hl := lv_entry ([.ref y, .int p0]) (n := 2) (Nat.le_of_ble_eq_true rfl)
  rw [lg_entry_eq]
  generalize (lg_sl ([.ref y, .int p0]) ++ List.replicate (2 - (lg_sl ([.ref y, .int p0])).length) Slot.unset).toArray = ls at hl ⊢
  have hl : lv_has ls 2 [(0, .ref y), (1, .int p0)] := hl
  refine (?_ : ∀ Q9 : State → Prop, MQ below _ _ s _ _ _ = Q9 → W p l e ({ frames := 3, cells := 0, slots := 0, locals := 60 } : Room) s m _ below meth c s.heap [] 0 0 Q9 (F0 m 0 ls [])) _ rfl
  intro Q9 hQ9
  have hw : w_X2_isKind p0 (fun r1 => (((r1 = 0 → (w_X2_fail (0 : Int32) (1 : Int32) (fun r10 thr_11 => (post r10 thr_11 sM)))) ∧ (¬ r1 = 0 → (w_X2_left hM sM lM p0 (fun r3 => (((r3 = 0 → (w_X2_fail (0 : Int32) (2 : Int32) (fun r8 thr_9 => (post r8 thr_9 sM)))) ∧ (¬ r3 = 0 → (vp_in p0 34 ∧ (vp_in p0 34 ∧ (w_X2_left hM (upd sM p0.toNatClampNeg ((sM p0.toNatClampNeg) + (1 : Int32))) lM p0 (fun r7 => (post r7 (0 : Int32) (upd sM p0.toNatClampNeg ((sM p0.toNatClampNeg) + (1 : Int32))))))))))))))))) := hw
  refine lv_aload_n hx hb dX2_see_0 rfl (lv_at hl 0 rfl) ?_
  refine lv_iconst (v := 0) hx hb dX2_see_1 (by decide) ?_
  refine va_put (D := (dC, dI)) (ci := 2) (v := .int (0 : Int32)) (ty := .int) (C := RX2) (T := TX2) (N := 16) hx hb hts hinX2 tyX2 tyX2_ok nmX2 hown hK hP hD hS 0 rfl rfl 0 (by decide) (hts (.fieldLink RX2 54 "TileHandModel" "thrown" "I") (by decide +kernel)) (fun _ h9 => h9) rfl (by decide +kernel) rfl rfl (Nat.le_of_ble_eq_true rfl) dX2_see_2 (fun H locs hP hD hS => ?_)
  have hP : va_P (dC, dI) vwCl [(y, .inr (2, [.int (0 : Int32), .ref bH, .ref bS, .ref bL, .int mel, .ref bO, .ref bK, .ref bZ, .int sea, .int rnd, .int bas, .int lim, .ref bR, .ref bG, .ref bB, .ref bX])), (bH, .inl (cI, 34, .inl hM)), (bS, .inl (cI, 34, .inl sM)), (bL, .inl (cI, 34, .inl lM))] H := hP
  have hD : va_D A [(y, .inr (2, [.int (0 : Int32), .ref bH, .ref bS, .ref bL, .int mel, .ref bO, .ref bK, .ref bZ, .int sea, .int rnd, .int bas, .int lim, .ref bR, .ref bG, .ref bB, .ref bX])), (bH, .inl (cI, 34, .inl hM)), (bS, .inl (cI, 34, .inl sM)), (bL, .inl (cI, 34, .inl lM))] := hD
  refine lv_iload_n hx hb dX2_see_5 rfl (lv_at hl 1 rfl) ?_
  have hPc := hP.sub (ws' := []) [] rfl
  have hDc := hD.sub (ws' := []) [] (by decide) rfl
  have hFc := va_free (wc := []) hD hS hA [] rfl
  refine va_calli (va_runS (As := [.int p0]) (rest := []) ⟨hx, hb, hml, hown, hts⟩ (c_X2_isKind l dC dI cI cZ H.size p0 _ hw) (va_cwS 1 hts gX2_see_X2_isKind rfl rfl rfl (by decide +kernel) ⟨Nat.le_of_ble_eq_true rfl, Nat.le_of_ble_eq_true rfl⟩) ⟨fun a U g mk q => by obtain ⟨q0, q1, qP, qK, qD⟩ := q; exact ⟨q0, q1, qP, va_K.moved (u := U) (U := U.calling g mk a) (Vm.Alike.refl U.vm) qK, qD⟩, fun U hU hW => ⟨rfl, by rw [hU], by rw [hU]; exact hPc, va_K.moved hW.alike hK, hDc.weaken (fun _ _ _ _ => trivial)⟩⟩ rfl rfl hl.1 rfl (lv_room (Nat.le_of_ble_eq_true rfl)) dX2_see_6 ⟨Nat.le_of_ble_eq_true rfl, Nat.le_of_ble_eq_true rfl⟩) hS (fun q _ h => hFc q h) hFc (fun r1 u t H1 locs ht hvm hw hB hz1 hk1 hS => ?_)
  obtain ⟨hP1, -, hD1⟩ := hB
  have hw := And.intro hw trivial
  try dsimp only at hw
  have hw := hw.1
  rw [ht] at hP1
  obtain ⟨hP, hD⟩ := va_join (wr := [(y, .inr (2, [.int (0 : Int32), .ref bH, .ref bS, .ref bL, .int mel, .ref bO, .ref bK, .ref bZ, .int sea, .int rnd, .int bas, .int lim, .ref bR, .ref bG, .ref bB, .ref bX])), (bH, .inl (cI, 34, .inl hM)), (bS, .inl (cI, 34, .inl sM)), (bL, .inl (cI, 34, .inl lM))]) (w1 := []) hP hD [] [0, 1, 2, 3] rfl rfl (by decide) (by decide) hk1 hFc hP1 hD1
  generalize H1 = H at hP hS ⊢
  have hP : va_P (dC, dI) vwCl [(y, .inr (2, [.int (0 : Int32), .ref bH, .ref bS, .ref bL, .int mel, .ref bO, .ref bK, .ref bZ, .int sea, .int rnd, .int bas, .int lim, .ref bR, .ref bG, .ref bB, .ref bX])), (bH, .inl (cI, 34, .inl hM)), (bS, .inl (cI, 34, .inl sM)), (bL, .inl (cI, 34, .inl lM))] H := hP
  have hD : va_D A [(y, .inr (2, [.int (0 : Int32), .ref bH, .ref bS, .ref bL, .int mel, .ref bO, .ref bK, .ref bZ, .int sea, .int rnd, .int bas, .int lim, .ref bR, .ref bG, .ref bB, .ref bX])), (bH, .inl (cI, 34, .inl hM)), (bS, .inl (cI, 34, .inl sM)), (bL, .inl (cI, 34, .inl lM))] := hD
  refine lv_if_ne (tgt := 18) hx hb dX2_see_9 (by decide) (fun c2 => ?_) (fun c2 => ?_)
  · have hw := hw.2 c2
    refine lv_aload_n hx hb dX2_see_18 rfl (lv_at hl 0 rfl) ?_
    refine lv_iload_n hx hb dX2_see_19 rfl (lv_at hl 1 rfl) ?_
    have hPc := hP.sub (ws' := [(y, .inr (2, [.int (0 : Int32), .ref bH, .ref bS, .ref bL, .int mel, .ref bO, .ref bK, .ref bZ, .int sea, .int rnd, .int bas, .int lim, .ref bR, .ref bG, .ref bB, .ref bX])), (bH, .inl (cI, 34, .inl hM)), (bS, .inl (cI, 34, .inl sM)), (bL, .inl (cI, 34, .inl lM))]) [0, 1, 2, 3] rfl
    have hDc := hD.sub (ws' := [(y, .inr (2, [.int (0 : Int32), .ref bH, .ref bS, .ref bL, .int mel, .ref bO, .ref bK, .ref bZ, .int sea, .int rnd, .int bas, .int lim, .ref bR, .ref bG, .ref bB, .ref bX])), (bH, .inl (cI, 34, .inl hM)), (bS, .inl (cI, 34, .inl sM)), (bL, .inl (cI, 34, .inl lM))]) [0, 1, 2, 3] (by decide) rfl
    have hFc := va_free (wc := [(y, .inr (2, [.int (0 : Int32), .ref bH, .ref bS, .ref bL, .int mel, .ref bO, .ref bK, .ref bZ, .int sea, .int rnd, .int bas, .int lim, .ref bR, .ref bG, .ref bB, .ref bX])), (bH, .inl (cI, 34, .inl hM)), (bS, .inl (cI, 34, .inl sM)), (bL, .inl (cI, 34, .inl lM))]) hD hS hA [0, 1, 2, 3] rfl
    refine va_calli (va_runV (As := [.int p0]) (rest := []) ⟨hx, hb, hml, hown, hts⟩ (c_X2_left l dC dI cI cZ y bH bS bL bO bK bZ bR bG bB bX H.size (0 : Int32) mel sea rnd bas lim hM sM lM p0 _ hw) (cwV 1 hts gX2_see_X2_left rfl rfl rfl (by decide +kernel) ⟨Nat.le_of_ble_eq_true rfl, Nat.le_of_ble_eq_true rfl⟩) ⟨fun a U g mk q => by obtain ⟨q0, q1, qP, qK, qD⟩ := q; exact ⟨q0, q1, qP, va_K.moved (u := U) (U := U.calling g mk a) (Vm.Alike.refl U.vm) qK, qD⟩, va_recv hK hPc (ci := 2) (q0 := 0) rfl rfl, fun U hU hW => ⟨rfl, by rw [hU], by rw [hU]; exact hPc, va_K.moved hW.alike hK, hDc.weaken (fun _ _ _ _ => trivial)⟩⟩ rfl rfl hl.1 rfl (lv_room (Nat.le_of_ble_eq_true rfl)) dX2_see_20 ⟨Nat.le_of_ble_eq_true rfl, Nat.le_of_ble_eq_true rfl⟩) hS (fun q _ h => hFc q h) hFc (fun r3 u t H1 locs ht hvm hw hB hz1 hk1 hS => ?_)
    obtain ⟨hP1, -, hD1⟩ := hB
    have hw := And.intro hw trivial
    try dsimp only at hw
    have hw := hw.1
    rw [ht] at hP1
    obtain ⟨hP, hD⟩ := va_join (wr := []) (w1 := [(y, .inr (2, [.int (0 : Int32), .ref bH, .ref bS, .ref bL, .int mel, .ref bO, .ref bK, .ref bZ, .int sea, .int rnd, .int bas, .int lim, .ref bR, .ref bG, .ref bB, .ref bX])), (bH, .inl (cI, 34, .inl hM)), (bS, .inl (cI, 34, .inl sM)), (bL, .inl (cI, 34, .inl lM))]) hP hD [0, 1, 2, 3] [] rfl rfl (by decide) (by decide) hk1 hFc hP1 hD1
    generalize H1 = H at hP hS ⊢
    have hP : va_P (dC, dI) vwCl [(y, .inr (2, [.int (0 : Int32), .ref bH, .ref bS, .ref bL, .int mel, .ref bO, .ref bK, .ref bZ, .int sea, .int rnd, .int bas, .int lim, .ref bR, .ref bG, .ref bB, .ref bX])), (bH, .inl (cI, 34, .inl hM)), (bS, .inl (cI, 34, .inl sM)), (bL, .inl (cI, 34, .inl lM))] H := hP
    have hD : va_D A [(y, .inr (2, [.int (0 : Int32), .ref bH, .ref bS, .ref bL, .int mel, .ref bO, .ref bK, .ref bZ, .int sea, .int rnd, .int bas, .int lim, .ref bR, .ref bG, .ref bB, .ref bX])), (bH, .inl (cI, 34, .inl hM)), (bS, .inl (cI, 34, .inl sM)), (bL, .inl (cI, 34, .inl lM))] := hD
    refine lv_if_ne (tgt := 32) hx hb dX2_see_23 (by decide) (fun c4 => ?_) (fun c4 => ?_)
    · have hw := hw.2 c4
      refine lv_aload_n hx hb dX2_see_32 rfl (lv_at hl 0 rfl) ?_
      refine va_get (D := (dC, dI)) (ci := 2) (v := .ref bS) (C := RX2) (T := TX2) (N := 16) hx hb hts hinX2 hown hK hP 0 rfl rfl 2 (by decide) (hts (.fieldLink RX2 13 "TileHandModel" "seen" "[I") (by decide +kernel)) (fun _ h9 => h9) rfl dX2_see_33 ?_
      refine lv_iload_n hx hb dX2_see_36 rfl (lv_at hl 1 rfl) ?_
      refine lv_dup2_11 hx hb dX2_see_37 rfl rfl ?_
      obtain ⟨h5, hw⟩ := hw
      refine va_iald hx hb hK hP 2 0 rfl rfl h5 dX2_see_38 ?_
      refine lv_iconst (v := 1) hx hb dX2_see_39 (by decide) ?_
      refine lv_iadd hx hb dX2_see_40 ?_
      obtain ⟨h6, hw⟩ := hw
      refine va_iast hx hb hK hP hD hS 2 0 rfl rfl h6 dX2_see_41 (fun H locs hP hD hS => ?_)
      have hP : va_P (dC, dI) vwCl [(y, .inr (2, [.int (0 : Int32), .ref bH, .ref bS, .ref bL, .int mel, .ref bO, .ref bK, .ref bZ, .int sea, .int rnd, .int bas, .int lim, .ref bR, .ref bG, .ref bB, .ref bX])), (bH, .inl (cI, 34, .inl hM)), (bS, .inl (cI, 34, .inl (upd sM p0.toNatClampNeg ((sM p0.toNatClampNeg) + (1 : Int32))))), (bL, .inl (cI, 34, .inl lM))] H := hP
      have hD : va_D A [(y, .inr (2, [.int (0 : Int32), .ref bH, .ref bS, .ref bL, .int mel, .ref bO, .ref bK, .ref bZ, .int sea, .int rnd, .int bas, .int lim, .ref bR, .ref bG, .ref bB, .ref bX])), (bH, .inl (cI, 34, .inl hM)), (bS, .inl (cI, 34, .inl (upd sM p0.toNatClampNeg ((sM p0.toNatClampNeg) + (1 : Int32))))), (bL, .inl (cI, 34, .inl lM))] := hD
      refine lv_aload_n hx hb dX2_see_42 rfl (lv_at hl 0 rfl) ?_
      refine lv_iload_n hx hb dX2_see_43 rfl (lv_at hl 1 rfl) ?_
      have hPc := hP.sub (ws' := [(y, .inr (2, [.int (0 : Int32), .ref bH, .ref bS, .ref bL, .int mel, .ref bO, .ref bK, .ref bZ, .int sea, .int rnd, .int bas, .int lim, .ref bR, .ref bG, .ref bB, .ref bX])), (bH, .inl (cI, 34, .inl hM)), (bS, .inl (cI, 34, .inl (upd sM p0.toNatClampNeg ((sM p0.toNatClampNeg) + (1 : Int32))))), (bL, .inl (cI, 34, .inl lM))]) [0, 1, 2, 3] rfl
      have hDc := hD.sub (ws' := [(y, .inr (2, [.int (0 : Int32), .ref bH, .ref bS, .ref bL, .int mel, .ref bO, .ref bK, .ref bZ, .int sea, .int rnd, .int bas, .int lim, .ref bR, .ref bG, .ref bB, .ref bX])), (bH, .inl (cI, 34, .inl hM)), (bS, .inl (cI, 34, .inl (upd sM p0.toNatClampNeg ((sM p0.toNatClampNeg) + (1 : Int32))))), (bL, .inl (cI, 34, .inl lM))]) [0, 1, 2, 3] (by decide) rfl
      have hFc := va_free (wc := [(y, .inr (2, [.int (0 : Int32), .ref bH, .ref bS, .ref bL, .int mel, .ref bO, .ref bK, .ref bZ, .int sea, .int rnd, .int bas, .int lim, .ref bR, .ref bG, .ref bB, .ref bX])), (bH, .inl (cI, 34, .inl hM)), (bS, .inl (cI, 34, .inl (upd sM p0.toNatClampNeg ((sM p0.toNatClampNeg) + (1 : Int32))))), (bL, .inl (cI, 34, .inl lM))]) hD hS hA [0, 1, 2, 3] rfl
      refine va_calli (va_runV (As := [.int p0]) (rest := []) ⟨hx, hb, hml, hown, hts⟩ (c_X2_left l dC dI cI cZ y bH bS bL bO bK bZ bR bG bB bX H.size (0 : Int32) mel sea rnd bas lim hM (upd sM p0.toNatClampNeg ((sM p0.toNatClampNeg) + (1 : Int32))) lM p0 _ hw) (cwV 1 hts gX2_see_X2_left rfl rfl rfl (by decide +kernel) ⟨Nat.le_of_ble_eq_true rfl, Nat.le_of_ble_eq_true rfl⟩) ⟨fun a U g mk q => by obtain ⟨q0, q1, qP, qK, qD⟩ := q; exact ⟨q0, q1, qP, va_K.moved (u := U) (U := U.calling g mk a) (Vm.Alike.refl U.vm) qK, qD⟩, va_recv hK hPc (ci := 2) (q0 := 0) rfl rfl, fun U hU hW => ⟨rfl, by rw [hU], by rw [hU]; exact hPc, va_K.moved hW.alike hK, hDc.weaken (fun _ _ _ _ => trivial)⟩⟩ rfl rfl hl.1 rfl (lv_room (Nat.le_of_ble_eq_true rfl)) dX2_see_44 ⟨Nat.le_of_ble_eq_true rfl, Nat.le_of_ble_eq_true rfl⟩) hS (fun q _ h => hFc q h) hFc (fun r7 u t H1 locs ht hvm hw hB hz1 hk1 hS => ?_)
      obtain ⟨hP1, -, hD1⟩ := hB
      have hw := And.intro hw trivial
      try dsimp only at hw
      have hw := hw.1
      rw [ht] at hP1
      obtain ⟨hP, hD⟩ := va_join (wr := []) (w1 := [(y, .inr (2, [.int (0 : Int32), .ref bH, .ref bS, .ref bL, .int mel, .ref bO, .ref bK, .ref bZ, .int sea, .int rnd, .int bas, .int lim, .ref bR, .ref bG, .ref bB, .ref bX])), (bH, .inl (cI, 34, .inl hM)), (bS, .inl (cI, 34, .inl (upd sM p0.toNatClampNeg ((sM p0.toNatClampNeg) + (1 : Int32))))), (bL, .inl (cI, 34, .inl lM))]) hP hD [0, 1, 2, 3] [] rfl rfl (by decide) (by decide) hk1 hFc hP1 hD1
      generalize H1 = H at hP hS ⊢
      have hP : va_P (dC, dI) vwCl [(y, .inr (2, [.int (0 : Int32), .ref bH, .ref bS, .ref bL, .int mel, .ref bO, .ref bK, .ref bZ, .int sea, .int rnd, .int bas, .int lim, .ref bR, .ref bG, .ref bB, .ref bX])), (bH, .inl (cI, 34, .inl hM)), (bS, .inl (cI, 34, .inl (upd sM p0.toNatClampNeg ((sM p0.toNatClampNeg) + (1 : Int32))))), (bL, .inl (cI, 34, .inl lM))] H := hP
      have hD : va_D A [(y, .inr (2, [.int (0 : Int32), .ref bH, .ref bS, .ref bL, .int mel, .ref bO, .ref bK, .ref bZ, .int sea, .int rnd, .int bas, .int lim, .ref bR, .ref bG, .ref bB, .ref bX])), (bH, .inl (cI, 34, .inl hM)), (bS, .inl (cI, 34, .inl (upd sM p0.toNatClampNeg ((sM p0.toNatClampNeg) + (1 : Int32))))), (bL, .inl (cI, 34, .inl lM))] := hD
      rw [← hQ9]
      exact W.iret (v := r7) hx hb hr (fun t ht hW => ⟨⟨r7, ((0 : Int32), upd sM p0.toNatClampNeg ((sM p0.toNatClampNeg) + (1 : Int32))), rfl, hw, by rw [ht]; exact hP, va_K.moved hW.alike hK, hD⟩, hS.F ht⟩) hS.2.2 dX2_see_47
    · have hw := hw.1 c4
      refine lv_aload_n hx hb dX2_see_26 rfl (lv_at hl 0 rfl) ?_
      refine lv_iconst (v := 2) hx hb dX2_see_27 (by decide) ?_
      have hPc := hP.sub (ws' := [(y, .inr (2, [.int (0 : Int32), .ref bH, .ref bS, .ref bL, .int mel, .ref bO, .ref bK, .ref bZ, .int sea, .int rnd, .int bas, .int lim, .ref bR, .ref bG, .ref bB, .ref bX]))]) [0] rfl
      have hDc := hD.sub (ws' := [(y, .inr (2, [.int (0 : Int32), .ref bH, .ref bS, .ref bL, .int mel, .ref bO, .ref bK, .ref bZ, .int sea, .int rnd, .int bas, .int lim, .ref bR, .ref bG, .ref bB, .ref bX]))]) [0] (by decide) rfl
      have hFc := va_free (wc := [(y, .inr (2, [.int (0 : Int32), .ref bH, .ref bS, .ref bL, .int mel, .ref bO, .ref bK, .ref bZ, .int sea, .int rnd, .int bas, .int lim, .ref bR, .ref bG, .ref bB, .ref bX]))]) hD hS hA [0] rfl
      refine va_calli (va_runV (As := [.int (2 : Int32)]) (rest := []) ⟨hx, hb, hml, hown, hts⟩ (c_X2_fail l dC dI cI cZ y bH bS bL bO bK bZ bR bG bB bX H.size (0 : Int32) mel sea rnd bas lim (2 : Int32) _ hw) (cwV 1 hts gX2_see_X2_fail rfl rfl rfl (by decide +kernel) ⟨Nat.le_of_ble_eq_true rfl, Nat.le_of_ble_eq_true rfl⟩) ⟨fun a U g mk q => by obtain ⟨q0, q1, qP, qK, qD⟩ := q; exact ⟨q0, q1, qP, va_K.moved (u := U) (U := U.calling g mk a) (Vm.Alike.refl U.vm) qK, qD⟩, va_recv hK hPc (ci := 2) (q0 := 0) rfl rfl, fun U hU hW => ⟨rfl, by rw [hU], by rw [hU]; exact hPc, va_K.moved hW.alike hK, hDc.weaken (fun _ _ _ _ => trivial)⟩⟩ rfl rfl hl.1 rfl (lv_room (Nat.le_of_ble_eq_true rfl)) dX2_see_28 ⟨Nat.le_of_ble_eq_true rfl, Nat.le_of_ble_eq_true rfl⟩) hS (fun q _ h => hFc q h) hFc (fun r8 u t H1 locs ht hvm hw hB hz1 hk1 hS => ?_)
      obtain ⟨thr_9, rfl⟩ : ∃ z, z = u := ⟨_, rfl⟩
      obtain ⟨hP1, -, hD1⟩ := hB
      have hw := And.intro hw trivial
      try dsimp only at hw
      have hw := hw.1
      rw [ht] at hP1
      obtain ⟨hP, hD⟩ := va_join (wr := [(bH, .inl (cI, 34, .inl hM)), (bS, .inl (cI, 34, .inl sM)), (bL, .inl (cI, 34, .inl lM))]) (w1 := [(y, .inr (2, [.int thr_9, .ref bH, .ref bS, .ref bL, .int mel, .ref bO, .ref bK, .ref bZ, .int sea, .int rnd, .int bas, .int lim, .ref bR, .ref bG, .ref bB, .ref bX]))]) hP hD [0] [1, 2, 3] rfl rfl (by decide) (by decide) hk1 hFc hP1 hD1
      generalize H1 = H at hP hS ⊢
      have hP : va_P (dC, dI) vwCl [(bH, .inl (cI, 34, .inl hM)), (bS, .inl (cI, 34, .inl sM)), (bL, .inl (cI, 34, .inl lM)), (y, .inr (2, [.int thr_9, .ref bH, .ref bS, .ref bL, .int mel, .ref bO, .ref bK, .ref bZ, .int sea, .int rnd, .int bas, .int lim, .ref bR, .ref bG, .ref bB, .ref bX]))] H := hP
      have hD : va_D A [(bH, .inl (cI, 34, .inl hM)), (bS, .inl (cI, 34, .inl sM)), (bL, .inl (cI, 34, .inl lM)), (y, .inr (2, [.int thr_9, .ref bH, .ref bS, .ref bL, .int mel, .ref bO, .ref bK, .ref bZ, .int sea, .int rnd, .int bas, .int lim, .ref bR, .ref bG, .ref bB, .ref bX]))] := hD
      have hP9 := hP.sub (ws' := [(y, .inr (2, [.int thr_9, .ref bH, .ref bS, .ref bL, .int mel, .ref bO, .ref bK, .ref bZ, .int sea, .int rnd, .int bas, .int lim, .ref bR, .ref bG, .ref bB, .ref bX])), (bH, .inl (cI, 34, .inl hM)), (bS, .inl (cI, 34, .inl sM)), (bL, .inl (cI, 34, .inl lM))]) [3, 0, 1, 2] rfl
      have hD9 := hD.sub (ws' := [(y, .inr (2, [.int thr_9, .ref bH, .ref bS, .ref bL, .int mel, .ref bO, .ref bK, .ref bZ, .int sea, .int rnd, .int bas, .int lim, .ref bR, .ref bG, .ref bB, .ref bX])), (bH, .inl (cI, 34, .inl hM)), (bS, .inl (cI, 34, .inl sM)), (bL, .inl (cI, 34, .inl lM))]) [3, 0, 1, 2] (by decide) rfl
      rw [← hQ9]
      exact W.iret (v := r8) hx hb hr (fun t ht hW => ⟨⟨r8, (thr_9, sM), rfl, hw, by rw [ht]; exact hP9, va_K.moved hW.alike hK, hD9⟩, hS.F ht⟩) hS.2.2 dX2_see_31
  · have hw := hw.1 c2
    refine lv_aload_n hx hb dX2_see_12 rfl (lv_at hl 0 rfl) ?_
    refine lv_iconst (v := 1) hx hb dX2_see_13 (by decide) ?_
    have hPc := hP.sub (ws' := [(y, .inr (2, [.int (0 : Int32), .ref bH, .ref bS, .ref bL, .int mel, .ref bO, .ref bK, .ref bZ, .int sea, .int rnd, .int bas, .int lim, .ref bR, .ref bG, .ref bB, .ref bX]))]) [0] rfl
    have hDc := hD.sub (ws' := [(y, .inr (2, [.int (0 : Int32), .ref bH, .ref bS, .ref bL, .int mel, .ref bO, .ref bK, .ref bZ, .int sea, .int rnd, .int bas, .int lim, .ref bR, .ref bG, .ref bB, .ref bX]))]) [0] (by decide) rfl
    have hFc := va_free (wc := [(y, .inr (2, [.int (0 : Int32), .ref bH, .ref bS, .ref bL, .int mel, .ref bO, .ref bK, .ref bZ, .int sea, .int rnd, .int bas, .int lim, .ref bR, .ref bG, .ref bB, .ref bX]))]) hD hS hA [0] rfl
    refine va_calli (va_runV (As := [.int (1 : Int32)]) (rest := []) ⟨hx, hb, hml, hown, hts⟩ (c_X2_fail l dC dI cI cZ y bH bS bL bO bK bZ bR bG bB bX H.size (0 : Int32) mel sea rnd bas lim (1 : Int32) _ hw) (cwV 1 hts gX2_see_X2_fail rfl rfl rfl (by decide +kernel) ⟨Nat.le_of_ble_eq_true rfl, Nat.le_of_ble_eq_true rfl⟩) ⟨fun a U g mk q => by obtain ⟨q0, q1, qP, qK, qD⟩ := q; exact ⟨q0, q1, qP, va_K.moved (u := U) (U := U.calling g mk a) (Vm.Alike.refl U.vm) qK, qD⟩, va_recv hK hPc (ci := 2) (q0 := 0) rfl rfl, fun U hU hW => ⟨rfl, by rw [hU], by rw [hU]; exact hPc, va_K.moved hW.alike hK, hDc.weaken (fun _ _ _ _ => trivial)⟩⟩ rfl rfl hl.1 rfl (lv_room (Nat.le_of_ble_eq_true rfl)) dX2_see_14 ⟨Nat.le_of_ble_eq_true rfl, Nat.le_of_ble_eq_true rfl⟩) hS (fun q _ h => hFc q h) hFc (fun r10 u t H1 locs ht hvm hw hB hz1 hk1 hS => ?_)
    obtain ⟨thr_11, rfl⟩ : ∃ z, z = u := ⟨_, rfl⟩
    obtain ⟨hP1, -, hD1⟩ := hB
    have hw := And.intro hw trivial
    try dsimp only at hw
    have hw := hw.1
    rw [ht] at hP1
    obtain ⟨hP, hD⟩ := va_join (wr := [(bH, .inl (cI, 34, .inl hM)), (bS, .inl (cI, 34, .inl sM)), (bL, .inl (cI, 34, .inl lM))]) (w1 := [(y, .inr (2, [.int thr_11, .ref bH, .ref bS, .ref bL, .int mel, .ref bO, .ref bK, .ref bZ, .int sea, .int rnd, .int bas, .int lim, .ref bR, .ref bG, .ref bB, .ref bX]))]) hP hD [0] [1, 2, 3] rfl rfl (by decide) (by decide) hk1 hFc hP1 hD1
    generalize H1 = H at hP hS ⊢
    have hP : va_P (dC, dI) vwCl [(bH, .inl (cI, 34, .inl hM)), (bS, .inl (cI, 34, .inl sM)), (bL, .inl (cI, 34, .inl lM)), (y, .inr (2, [.int thr_11, .ref bH, .ref bS, .ref bL, .int mel, .ref bO, .ref bK, .ref bZ, .int sea, .int rnd, .int bas, .int lim, .ref bR, .ref bG, .ref bB, .ref bX]))] H := hP
    have hD : va_D A [(bH, .inl (cI, 34, .inl hM)), (bS, .inl (cI, 34, .inl sM)), (bL, .inl (cI, 34, .inl lM)), (y, .inr (2, [.int thr_11, .ref bH, .ref bS, .ref bL, .int mel, .ref bO, .ref bK, .ref bZ, .int sea, .int rnd, .int bas, .int lim, .ref bR, .ref bG, .ref bB, .ref bX]))] := hD
    have hP9 := hP.sub (ws' := [(y, .inr (2, [.int thr_11, .ref bH, .ref bS, .ref bL, .int mel, .ref bO, .ref bK, .ref bZ, .int sea, .int rnd, .int bas, .int lim, .ref bR, .ref bG, .ref bB, .ref bX])), (bH, .inl (cI, 34, .inl hM)), (bS, .inl (cI, 34, .inl sM)), (bL, .inl (cI, 34, .inl lM))]) [3, 0, 1, 2] rfl
    have hD9 := hD.sub (ws' := [(y, .inr (2, [.int thr_11, .ref bH, .ref bS, .ref bL, .int mel, .ref bO, .ref bK, .ref bZ, .int sea, .int rnd, .int bas, .int lim, .ref bR, .ref bG, .ref bB, .ref bX])), (bH, .inl (cI, 34, .inl hM)), (bS, .inl (cI, 34, .inl sM)), (bL, .inl (cI, 34, .inl lM))]) [3, 0, 1, 2] (by decide) rfl
    rw [← hQ9]
    exact W.iret (v := r10) hx hb hr (fun t ht hW => ⟨⟨r10, (thr_11, sM), rfl, hw, by rw [ht]; exact hP9, va_K.moved hW.alike hK, hD9⟩, hS.F ht⟩) hS.2.2 dX2_see_17

def w_X2_lay (hM : (Nat → Int32)) (lM : (Nat → Int32)) (p0 : Int32) (p1 : Int32) (post : (Nat → Int32) → (Nat → Int32) → Prop) : Prop := vp_in p0 34 ∧ (vp_in p0 34 ∧ (vp_in p0 34 ∧ (vp_in p0 34 ∧ (post (upd hM p0.toNatClampNeg ((hM p0.toNatClampNeg) - p1)) (upd lM p0.toNatClampNeg ((lM p0.toNatClampNeg) + p1))))))

set_option maxHeartbeats 4000000 in
set_option maxRecDepth 100000 in
theorem c_X2_lay (l : Launch) (dC : Nat → ClassId) (dI : Nat → Nat → Nat) (cI cZ : ClassId) (y : Nat) (bH : Nat) (bS : Nat) (bL : Nat) (bO : Nat) (bK : Nat) (bZ : Nat) (bR : Nat) (bG : Nat) (bB : Nat) (bX : Nat) (sz : Nat) (thr : Int32) (mel : Int32) (sea : Int32) (rnd : Int32) (bas : Int32) (lim : Int32) (hM : (Nat → Int32)) (lM : (Nat → Int32)) (p0 : Int32) (p1 : Int32) (post : (Nat → Int32) → (Nat → Int32) → Prop) (hw : w_X2_lay hM lM p0 p1 post) : Met l yX2_lay wsX2_lay ({ frames := 0, cells := 0, slots := 0, locals := 0 } : Room) (va_Pc [.ref y, .int p0, .int p1] (fun U => U.heap.size = sz ∧ va_P (dC, dI) vwCl [(y, .inr (2, [.int thr, .ref bH, .ref bS, .ref bL, .int mel, .ref bO, .ref bK, .ref bZ, .int sea, .int rnd, .int bas, .int lim, .ref bR, .ref bG, .ref bB, .ref bX])), (bH, .inl (cI, 34, .inl hM)), (bL, .inl (cI, 34, .inl lM))] U.heap ∧ va_K (dC, dI) vwCl [(cI, .int), (cZ, .boolean)] U ∧ va_D (fun _ => True) [(y, .inr (2, [.int thr, .ref bH, .ref bS, .ref bL, .int mel, .ref bO, .ref bK, .ref bZ, .int sea, .int rnd, .int bas, .int lim, .ref bR, .ref bG, .ref bB, .ref bX])), (bH, .inl (cI, 34, .inl hM)), (bL, .inl (cI, 34, .inl lM))])) (va_Qv (fun (u9 : (Nat → Int32) × (Nat → Int32)) => post u9.1 u9.2) (fun (u9 : (Nat → Int32) × (Nat → Int32)) (t9 : State) => va_P (dC, dI) vwCl [(y, .inr (2, [.int thr, .ref bH, .ref bS, .ref bL, .int mel, .ref bO, .ref bK, .ref bZ, .int sea, .int rnd, .int bas, .int lim, .ref bR, .ref bG, .ref bB, .ref bX])), (bH, .inl (cI, 34, .inl u9.1)), (bL, .inl (cI, 34, .inl u9.2))] t9.heap ∧ va_K (dC, dI) vwCl [(cI, .int), (cZ, .boolean)] t9 ∧ va_D (va_A [(y, .inr (2, [.int thr, .ref bH, .ref bS, .ref bL, .int mel, .ref bO, .ref bK, .ref bZ, .int sea, .int rnd, .int bas, .int lim, .ref bR, .ref bG, .ref bB, .ref bX])), (bH, .inl (cI, 34, .inl hM)), (bL, .inl (cI, 34, .inl lM))] sz) [(y, .inr (2, [.int thr, .ref bH, .ref bS, .ref bL, .int mel, .ref bO, .ref bK, .ref bZ, .int sea, .int rnd, .int bas, .int lim, .ref bR, .ref bG, .ref bB, .ref bX])), (bH, .inl (cI, 34, .inl u9.1)), (bL, .inl (cI, 34, .inl u9.2))]) (va_A [(y, .inr (2, [.int thr, .ref bH, .ref bS, .ref bL, .int mel, .ref bO, .ref bK, .ref bZ, .int sea, .int rnd, .int bas, .int lim, .ref bR, .ref bG, .ref bB, .ref bX])), (bH, .inl (cI, 34, .inl hM)), (bL, .inl (cI, 34, .inl lM))] sz)) 0 0 (va_A [(y, .inr (2, [.int thr, .ref bH, .ref bS, .ref bL, .int mel, .ref bO, .ref bK, .ref bZ, .int sea, .int rnd, .int bas, .int lim, .ref bR, .ref bG, .ref bB, .ref bX])), (bH, .inl (cI, 34, .inl hM)), (bL, .inl (cI, 34, .inl lM))] sz) := by
  refine Met.ofW (cc := cX2_lay) (maxL := 3) (ret := none) (by decide) rfl ?_
  intro p e s m args below meth c s₁ B hml hv
  obtain ⟨rfl, hsz, hP, hK, hD0⟩ := hv
  have hx := B.exec
  have hb := B.bytes
  have hr := B.returns
  have hts := atoms_spec (ws := wsX2_lay) B.pre
  have hown : s.vm.findClass RX2 = some m.cls := findClass_of_methodNamed B.named
  have hlocks := B.notSynchronized
  have hinX2 : ∀ w ∈ u_ws RX2 TX2 16, w ∈ wsX2_lay := by decide +kernel
  subst hsz
  have hD := hD0.self (sz := s.heap.size)
  generalize hAe : va_A [(y, .inr (2, [.int thr, .ref bH, .ref bS, .ref bL, .int mel, .ref bO, .ref bK, .ref bZ, .int sea, .int rnd, .int bas, .int lim, .ref bR, .ref bG, .ref bB, .ref bX])), (bH, .inl (cI, 34, .inl hM)), (bL, .inl (cI, 34, .inl lM))] s.heap.size = A at hD ⊢
  have hA : ∀ q : Nat, s.heap.size ≤ q → A q := fun q h => by rw [← hAe]; exact Or.inr h
  have hS : va_S A s.heap s.heap [] := va_S.rf
  have hl := lv_entry ([.ref y, .int p0, .int p1]) (n := 3) (Nat.le_of_ble_eq_true rfl)
  rw [lg_entry_eq]
  generalize (lg_sl ([.ref y, .int p0, .int p1]) ++ List.replicate (3 - (lg_sl ([.ref y, .int p0, .int p1])).length) Slot.unset).toArray = ls at hl ⊢
  have hl : lv_has ls 3 [(0, .ref y), (1, .int p0), (2, .int p1)] := hl
  refine (?_ : ∀ Q9 : State → Prop, MQ below _ _ s _ _ _ = Q9 → W p l e ({ frames := 0, cells := 0, slots := 0, locals := 0 } : Room) s m _ below meth c s.heap [] 0 0 Q9 (F0 m 0 ls [])) _ rfl
  intro Q9 hQ9
  have hw : vp_in p0 34 ∧ (vp_in p0 34 ∧ (vp_in p0 34 ∧ (vp_in p0 34 ∧ (post (upd hM p0.toNatClampNeg ((hM p0.toNatClampNeg) - p1)) (upd lM p0.toNatClampNeg ((lM p0.toNatClampNeg) + p1)))))) := hw
  refine lv_aload_n hx hb dX2_lay_0 rfl (lv_at hl 0 rfl) ?_
  refine va_get (D := (dC, dI)) (ci := 2) (v := .ref bH) (C := RX2) (T := TX2) (N := 16) hx hb hts hinX2 hown hK hP 0 rfl rfl 1 (by decide) (hts (.fieldLink RX2 9 "TileHandModel" "hand" "[I") (by decide +kernel)) (fun _ h9 => h9) rfl dX2_lay_1 ?_
  refine lv_iload_n hx hb dX2_lay_4 rfl (lv_at hl 1 rfl) ?_
  refine lv_dup2_11 hx hb dX2_lay_5 rfl rfl ?_
  obtain ⟨h1, hw⟩ := hw
  refine va_iald hx hb hK hP 1 0 rfl rfl h1 dX2_lay_6 ?_
  refine lv_iload_n hx hb dX2_lay_7 rfl (lv_at hl 2 rfl) ?_
  refine lv_isub hx hb dX2_lay_8 ?_
  obtain ⟨h2, hw⟩ := hw
  refine va_iast hx hb hK hP hD hS 1 0 rfl rfl h2 dX2_lay_9 (fun H locs hP hD hS => ?_)
  have hP : va_P (dC, dI) vwCl [(y, .inr (2, [.int thr, .ref bH, .ref bS, .ref bL, .int mel, .ref bO, .ref bK, .ref bZ, .int sea, .int rnd, .int bas, .int lim, .ref bR, .ref bG, .ref bB, .ref bX])), (bH, .inl (cI, 34, .inl (upd hM p0.toNatClampNeg ((hM p0.toNatClampNeg) - p1)))), (bL, .inl (cI, 34, .inl lM))] H := hP
  have hD : va_D A [(y, .inr (2, [.int thr, .ref bH, .ref bS, .ref bL, .int mel, .ref bO, .ref bK, .ref bZ, .int sea, .int rnd, .int bas, .int lim, .ref bR, .ref bG, .ref bB, .ref bX])), (bH, .inl (cI, 34, .inl (upd hM p0.toNatClampNeg ((hM p0.toNatClampNeg) - p1)))), (bL, .inl (cI, 34, .inl lM))] := hD
  refine lv_aload_n hx hb dX2_lay_10 rfl (lv_at hl 0 rfl) ?_
  refine va_get (D := (dC, dI)) (ci := 2) (v := .ref bL) (C := RX2) (T := TX2) (N := 16) hx hb hts hinX2 hown hK hP 0 rfl rfl 3 (by decide) (hts (.fieldLink RX2 16 "TileHandModel" "laid" "[I") (by decide +kernel)) (fun _ h9 => h9) rfl dX2_lay_11 ?_
  refine lv_iload_n hx hb dX2_lay_14 rfl (lv_at hl 1 rfl) ?_
  refine lv_dup2_11 hx hb dX2_lay_15 rfl rfl ?_
  obtain ⟨h3, hw⟩ := hw
  refine va_iald hx hb hK hP 2 0 rfl rfl h3 dX2_lay_16 ?_
  refine lv_iload_n hx hb dX2_lay_17 rfl (lv_at hl 2 rfl) ?_
  refine lv_iadd hx hb dX2_lay_18 ?_
  obtain ⟨h4, hw⟩ := hw
  refine va_iast hx hb hK hP hD hS 2 0 rfl rfl h4 dX2_lay_19 (fun H locs hP hD hS => ?_)
  have hP : va_P (dC, dI) vwCl [(y, .inr (2, [.int thr, .ref bH, .ref bS, .ref bL, .int mel, .ref bO, .ref bK, .ref bZ, .int sea, .int rnd, .int bas, .int lim, .ref bR, .ref bG, .ref bB, .ref bX])), (bH, .inl (cI, 34, .inl (upd hM p0.toNatClampNeg ((hM p0.toNatClampNeg) - p1)))), (bL, .inl (cI, 34, .inl (upd lM p0.toNatClampNeg ((lM p0.toNatClampNeg) + p1))))] H := hP
  have hD : va_D A [(y, .inr (2, [.int thr, .ref bH, .ref bS, .ref bL, .int mel, .ref bO, .ref bK, .ref bZ, .int sea, .int rnd, .int bas, .int lim, .ref bR, .ref bG, .ref bB, .ref bX])), (bH, .inl (cI, 34, .inl (upd hM p0.toNatClampNeg ((hM p0.toNatClampNeg) - p1)))), (bL, .inl (cI, 34, .inl (upd lM p0.toNatClampNeg ((lM p0.toNatClampNeg) + p1))))] := hD
  rw [← hQ9]
  exact W.vret hx hb hr (fun t ht hW => ⟨⟨(upd hM p0.toNatClampNeg ((hM p0.toNatClampNeg) - p1), upd lM p0.toNatClampNeg ((lM p0.toNatClampNeg) + p1)), rfl, hw, by rw [ht]; exact hP, va_K.moved hW.alike hK, hD⟩, hS.F ht⟩) hS.2.2 dX2_lay_20

def w_X2_meld_b38 (post : Int32 → Int32 → Int32 → (Nat → Int32) → (Nat → Int32) → (Nat → Int32) → (Nat → Int32) → (Nat → Int32) → Prop) (p0 : Int32) (p1 : Int32) (p2 : Int32) (thr : Int32) (mel : Int32) (hM : (Nat → Int32)) (lM : (Nat → Int32)) (oM : (Nat → Int32)) (kM : (Nat → Int32)) (zM : (Nat → Int32)) : Prop := w_X2_fail thr (2 : Int32) (fun r5 thr_6 => (post r5 thr_6 mel hM lM oM kM zM))

def w_X2_meld_b119 (post : Int32 → Int32 → Int32 → (Nat → Int32) → (Nat → Int32) → (Nat → Int32) → (Nat → Int32) → (Nat → Int32) → Prop) (p0 : Int32) (p1 : Int32) (p2 : Int32) (thr : Int32) (mel : Int32) (hM : (Nat → Int32)) (lM : (Nat → Int32)) (oM : (Nat → Int32)) (kM : (Nat → Int32)) (zM : (Nat → Int32)) : Prop := w_X2_fail thr (3 : Int32) (fun r12 thr_13 => (post r12 thr_13 mel hM lM oM kM zM))

def w_X2_meld_b164 (post : Int32 → Int32 → Int32 → (Nat → Int32) → (Nat → Int32) → (Nat → Int32) → (Nat → Int32) → (Nat → Int32) → Prop) (p0 : Int32) (p1 : Int32) (p2 : Int32) (thr : Int32) (mel : Int32) (hM : (Nat → Int32)) (lM : (Nat → Int32)) (oM : (Nat → Int32)) (kM : (Nat → Int32)) (zM : (Nat → Int32)) : Prop := vp_in mel 4 ∧ (vp_in mel 4 ∧ (vp_in mel 4 ∧ (w_X2_sizeOf (mel + (1 : Int32)) hM (fun r21 => (post r21 thr (mel + (1 : Int32)) hM lM (upd oM mel.toNatClampNeg p0) (upd kM mel.toNatClampNeg p1) (upd zM mel.toNatClampNeg (vp_nar .boolean p2)))))))

def w_X2_meld_b153 (post : Int32 → Int32 → Int32 → (Nat → Int32) → (Nat → Int32) → (Nat → Int32) → (Nat → Int32) → (Nat → Int32) → Prop) (p0 : Int32) (p1 : Int32) (p2 : Int32) (thr : Int32) (mel : Int32) (hM : (Nat → Int32)) (lM : (Nat → Int32)) (oM : (Nat → Int32)) (kM : (Nat → Int32)) (zM : (Nat → Int32)) : Prop := w_X2_meld_b164 post p0 p1 p2 thr mel hM lM oM kM zM

def w_X2_meld_b132 (post : Int32 → Int32 → Int32 → (Nat → Int32) → (Nat → Int32) → (Nat → Int32) → (Nat → Int32) → (Nat → Int32) → Prop) (p0 : Int32) (p1 : Int32) (p2 : Int32) : Nat → Int32 → Int32 → Int32 → (Nat → Int32) → (Nat → Int32) → (Nat → Int32) → (Nat → Int32) → (Nat → Int32) → Prop
  | 0, _, _, _, _, _, _, _, _ => False
  | n + 1, v5, thr, mel, hM, lM, oM, kM, zM => (((p1 + (3 : Int32)) ≤ v5 → (w_X2_meld_b153 post p0 p1 p2 thr mel hM lM oM kM zM)) ∧ (¬ (p1 + (3 : Int32)) ≤ v5 → (w_X2_lay hM lM v5 (1 : Int32) (fun hM_23 lM_24 => (w_X2_meld_b132 post p0 p1 p2 n (v5 + 1) thr mel hM_23 lM_24 oM kM zM)))))

def w_X2_meld_b104 (post : Int32 → Int32 → Int32 → (Nat → Int32) → (Nat → Int32) → (Nat → Int32) → (Nat → Int32) → (Nat → Int32) → Prop) (p0 : Int32) (p1 : Int32) (p2 : Int32) (s1 : Int32) (thr : Int32) (mel : Int32) (hM : (Nat → Int32)) (lM : (Nat → Int32)) (oM : (Nat → Int32)) (kM : (Nat → Int32)) (zM : (Nat → Int32)) : Prop := ((s1 = 0 → (w_X2_meld_b119 post p0 p1 p2 thr mel hM lM oM kM zM)) ∧ (¬ s1 = 0 → (((mel = (4 : Int32) → (w_X2_meld_b119 post p0 p1 p2 thr mel hM lM oM kM zM)) ∧ (¬ mel = (4 : Int32) → (((p0 = 0 → (∃ n9, w_X2_meld_b132 post p0 p1 p2 n9 p1 thr mel hM lM oM kM zM)) ∧ (¬ p0 = 0 → (w_X2_lay hM lM p1 (p0 + (2 : Int32)) (fun hM_16 lM_17 => (w_X2_meld_b164 post p0 p1 p2 thr mel hM_16 lM_17 oM kM zM)))))))))))

def w_X2_meld_b83 (post : Int32 → Int32 → Int32 → (Nat → Int32) → (Nat → Int32) → (Nat → Int32) → (Nat → Int32) → (Nat → Int32) → Prop) (p0 : Int32) (p1 : Int32) (p2 : Int32) (thr : Int32) (mel : Int32) (hM : (Nat → Int32)) (lM : (Nat → Int32)) (oM : (Nat → Int32)) (kM : (Nat → Int32)) (zM : (Nat → Int32)) : Prop := w_X2_meld_b104 post p0 p1 p2 (0 : Int32) thr mel hM lM oM kM zM

def w_X2_meld_b44 (post : Int32 → Int32 → Int32 → (Nat → Int32) → (Nat → Int32) → (Nat → Int32) → (Nat → Int32) → (Nat → Int32) → Prop) (p0 : Int32) (p1 : Int32) (p2 : Int32) (thr : Int32) (mel : Int32) (hM : (Nat → Int32)) (lM : (Nat → Int32)) (oM : (Nat → Int32)) (kM : (Nat → Int32)) (zM : (Nat → Int32)) : Prop := ((p0 = 0 → (vp_in p1 34 ∧ ((((hM p1.toNatClampNeg) ≤ 0 → (w_X2_meld_b83 post p0 p1 p2 thr mel hM lM oM kM zM)) ∧ (¬ (hM p1.toNatClampNeg) ≤ 0 → (vp_in (p1 + (1 : Int32)) 34 ∧ ((((hM (p1 + (1 : Int32)).toNatClampNeg) ≤ 0 → (w_X2_meld_b83 post p0 p1 p2 thr mel hM lM oM kM zM)) ∧ (¬ (hM (p1 + (1 : Int32)).toNatClampNeg) ≤ 0 → (vp_in (p1 + (2 : Int32)) 34 ∧ ((((hM (p1 + (2 : Int32)).toNatClampNeg) ≤ 0 → (w_X2_meld_b83 post p0 p1 p2 thr mel hM lM oM kM zM)) ∧ (¬ (hM (p1 + (2 : Int32)).toNatClampNeg) ≤ 0 → (w_X2_meld_b104 post p0 p1 p2 (1 : Int32) thr mel hM lM oM kM zM)))))))))))))) ∧ (¬ p0 = 0 → (vp_in p1 34 ∧ ((((hM p1.toNatClampNeg) < (p0 + (2 : Int32)) → (w_X2_meld_b104 post p0 p1 p2 (0 : Int32) thr mel hM lM oM kM zM)) ∧ (¬ (hM p1.toNatClampNeg) < (p0 + (2 : Int32)) → (w_X2_meld_b104 post p0 p1 p2 (1 : Int32) thr mel hM lM oM kM zM)))))))

def w_X2_meld (thr : Int32) (mel : Int32) (hM : (Nat → Int32)) (lM : (Nat → Int32)) (oM : (Nat → Int32)) (kM : (Nat → Int32)) (zM : (Nat → Int32)) (p0 : Int32) (p1 : Int32) (p2 : Int32) (post : Int32 → Int32 → Int32 → (Nat → Int32) → (Nat → Int32) → (Nat → Int32) → (Nat → Int32) → (Nat → Int32) → Prop) : Prop := w_X2_isKind p1 (fun r1 => (((r1 = 0 → (w_X2_fail (0 : Int32) (1 : Int32) (fun r33 thr_34 => (post r33 thr_34 mel hM lM oM kM zM)))) ∧ (¬ r1 = 0 → (w_X2_isIn p0 (0 : Int32) (2 : Int32) (fun r3 => (((r3 = 0 → (w_X2_meld_b38 post p0 p1 p2 (0 : Int32) mel hM lM oM kM zM)) ∧ (¬ r3 = 0 → (((p0 = 0 → (w_X2_beginsRow p1 (fun r31 => (((r31 = 0 → (w_X2_meld_b38 post p0 p1 p2 (0 : Int32) mel hM lM oM kM zM)) ∧ (¬ r31 = 0 → (w_X2_meld_b44 post p0 p1 p2 (0 : Int32) mel hM lM oM kM zM))))))) ∧ (¬ p0 = 0 → (w_X2_meld_b44 post p0 p1 p2 (0 : Int32) mel hM lM oM kM zM)))))))))))))

set_option maxHeartbeats 4000000 in
set_option maxRecDepth 100000 in
theorem c_X2_meld (l : Launch) (dC : Nat → ClassId) (dI : Nat → Nat → Nat) (cI cZ : ClassId) (y : Nat) (bH : Nat) (bS : Nat) (bL : Nat) (bO : Nat) (bK : Nat) (bZ : Nat) (bR : Nat) (bG : Nat) (bB : Nat) (bX : Nat) (sz : Nat) (thr : Int32) (mel : Int32) (sea : Int32) (rnd : Int32) (bas : Int32) (lim : Int32) (hM : (Nat → Int32)) (lM : (Nat → Int32)) (oM : (Nat → Int32)) (kM : (Nat → Int32)) (zM : (Nat → Int32)) (p0 : Int32) (p1 : Int32) (p2 : Int32) (post : Int32 → Int32 → Int32 → (Nat → Int32) → (Nat → Int32) → (Nat → Int32) → (Nat → Int32) → (Nat → Int32) → Prop) (hw : w_X2_meld thr mel hM lM oM kM zM p0 p1 p2 post) : Met l yX2_meld wsX2_meld ({ frames := 3, cells := 0, slots := 0, locals := 60 } : Room) (va_Pc [.ref y, .int p0, .int p1, .int p2] (fun U => U.heap.size = sz ∧ va_P (dC, dI) vwCl [(y, .inr (2, [.int thr, .ref bH, .ref bS, .ref bL, .int mel, .ref bO, .ref bK, .ref bZ, .int sea, .int rnd, .int bas, .int lim, .ref bR, .ref bG, .ref bB, .ref bX])), (bH, .inl (cI, 34, .inl hM)), (bL, .inl (cI, 34, .inl lM)), (bO, .inl (cI, 4, .inl oM)), (bK, .inl (cI, 4, .inl kM)), (bZ, .inl (cZ, 4, .inl zM))] U.heap ∧ va_K (dC, dI) vwCl [(cI, .int), (cZ, .boolean)] U ∧ va_D (fun _ => True) [(y, .inr (2, [.int thr, .ref bH, .ref bS, .ref bL, .int mel, .ref bO, .ref bK, .ref bZ, .int sea, .int rnd, .int bas, .int lim, .ref bR, .ref bG, .ref bB, .ref bX])), (bH, .inl (cI, 34, .inl hM)), (bL, .inl (cI, 34, .inl lM)), (bO, .inl (cI, 4, .inl oM)), (bK, .inl (cI, 4, .inl kM)), (bZ, .inl (cZ, 4, .inl zM))])) (va_Qi (fun (r9 : Int32) (u9 : Int32 × Int32 × (Nat → Int32) × (Nat → Int32) × (Nat → Int32) × (Nat → Int32) × (Nat → Int32)) => post r9 u9.1 u9.2.1 u9.2.2.1 u9.2.2.2.1 u9.2.2.2.2.1 u9.2.2.2.2.2.1 u9.2.2.2.2.2.2) (fun (u9 : Int32 × Int32 × (Nat → Int32) × (Nat → Int32) × (Nat → Int32) × (Nat → Int32) × (Nat → Int32)) (t9 : State) => va_P (dC, dI) vwCl [(y, .inr (2, [.int u9.1, .ref bH, .ref bS, .ref bL, .int u9.2.1, .ref bO, .ref bK, .ref bZ, .int sea, .int rnd, .int bas, .int lim, .ref bR, .ref bG, .ref bB, .ref bX])), (bH, .inl (cI, 34, .inl u9.2.2.1)), (bL, .inl (cI, 34, .inl u9.2.2.2.1)), (bO, .inl (cI, 4, .inl u9.2.2.2.2.1)), (bK, .inl (cI, 4, .inl u9.2.2.2.2.2.1)), (bZ, .inl (cZ, 4, .inl u9.2.2.2.2.2.2))] t9.heap ∧ va_K (dC, dI) vwCl [(cI, .int), (cZ, .boolean)] t9 ∧ va_D (va_A [(y, .inr (2, [.int thr, .ref bH, .ref bS, .ref bL, .int mel, .ref bO, .ref bK, .ref bZ, .int sea, .int rnd, .int bas, .int lim, .ref bR, .ref bG, .ref bB, .ref bX])), (bH, .inl (cI, 34, .inl hM)), (bL, .inl (cI, 34, .inl lM)), (bO, .inl (cI, 4, .inl oM)), (bK, .inl (cI, 4, .inl kM)), (bZ, .inl (cZ, 4, .inl zM))] sz) [(y, .inr (2, [.int u9.1, .ref bH, .ref bS, .ref bL, .int u9.2.1, .ref bO, .ref bK, .ref bZ, .int sea, .int rnd, .int bas, .int lim, .ref bR, .ref bG, .ref bB, .ref bX])), (bH, .inl (cI, 34, .inl u9.2.2.1)), (bL, .inl (cI, 34, .inl u9.2.2.2.1)), (bO, .inl (cI, 4, .inl u9.2.2.2.2.1)), (bK, .inl (cI, 4, .inl u9.2.2.2.2.2.1)), (bZ, .inl (cZ, 4, .inl u9.2.2.2.2.2.2))]) (va_A [(y, .inr (2, [.int thr, .ref bH, .ref bS, .ref bL, .int mel, .ref bO, .ref bK, .ref bZ, .int sea, .int rnd, .int bas, .int lim, .ref bR, .ref bG, .ref bB, .ref bX])), (bH, .inl (cI, 34, .inl hM)), (bL, .inl (cI, 34, .inl lM)), (bO, .inl (cI, 4, .inl oM)), (bK, .inl (cI, 4, .inl kM)), (bZ, .inl (cZ, 4, .inl zM))] sz)) 0 0 (va_A [(y, .inr (2, [.int thr, .ref bH, .ref bS, .ref bL, .int mel, .ref bO, .ref bK, .ref bZ, .int sea, .int rnd, .int bas, .int lim, .ref bR, .ref bG, .ref bB, .ref bX])), (bH, .inl (cI, 34, .inl hM)), (bL, .inl (cI, 34, .inl lM)), (bO, .inl (cI, 4, .inl oM)), (bK, .inl (cI, 4, .inl kM)), (bZ, .inl (cZ, 4, .inl zM))] sz) := by
  refine Met.ofW (cc := cX2_meld) (maxL := 6) (ret := (some .int)) (by decide) rfl ?_
  intro p e s m args below meth c s₁ B hml hv
  obtain ⟨rfl, hsz, hP, hK, hD0⟩ := hv
  have hx := B.exec
  have hb := B.bytes
  have hr := B.returns
  have hts := atoms_spec (ws := wsX2_meld) B.pre
  have hown : s.vm.findClass RX2 = some m.cls := findClass_of_methodNamed B.named
  have hlocks := B.notSynchronized
  have hinX2 : ∀ w ∈ u_ws RX2 TX2 16, w ∈ wsX2_meld := by decide +kernel
  subst hsz
  have hD := hD0.self (sz := s.heap.size)
  generalize hAe : va_A [(y, .inr (2, [.int thr, .ref bH, .ref bS, .ref bL, .int mel, .ref bO, .ref bK, .ref bZ, .int sea, .int rnd, .int bas, .int lim, .ref bR, .ref bG, .ref bB, .ref bX])), (bH, .inl (cI, 34, .inl hM)), (bL, .inl (cI, 34, .inl lM)), (bO, .inl (cI, 4, .inl oM)), (bK, .inl (cI, 4, .inl kM)), (bZ, .inl (cZ, 4, .inl zM))] s.heap.size = A at hD ⊢
  have hA : ∀ q : Nat, s.heap.size ≤ q → A q := fun q h => by rw [← hAe]; exact Or.inr h
  have hS : va_S A s.heap s.heap [] := va_S.rf
  have hl := lv_entry ([.ref y, .int p0, .int p1, .int p2]) (n := 6) (Nat.le_of_ble_eq_true rfl)
  rw [lg_entry_eq]
  generalize (lg_sl ([.ref y, .int p0, .int p1, .int p2]) ++ List.replicate (6 - (lg_sl ([.ref y, .int p0, .int p1, .int p2])).length) Slot.unset).toArray = ls at hl ⊢
  have hl : lv_has ls 6 [(0, .ref y), (1, .int p0), (2, .int p1), (3, .int p2)] := hl
  refine (?_ : ∀ Q9 : State → Prop, MQ below _ _ s _ _ _ = Q9 → W p l e ({ frames := 3, cells := 0, slots := 0, locals := 60 } : Room) s m _ below meth c s.heap [] 0 0 Q9 (F0 m 0 ls [])) _ rfl
  intro Q9 hQ9
  have hw : w_X2_isKind p1 (fun r1 => (((r1 = 0 → (w_X2_fail (0 : Int32) (1 : Int32) (fun r33 thr_34 => (post r33 thr_34 mel hM lM oM kM zM)))) ∧ (¬ r1 = 0 → (w_X2_isIn p0 (0 : Int32) (2 : Int32) (fun r3 => (((r3 = 0 → (w_X2_meld_b38 post p0 p1 p2 (0 : Int32) mel hM lM oM kM zM)) ∧ (¬ r3 = 0 → (((p0 = 0 → (w_X2_beginsRow p1 (fun r31 => (((r31 = 0 → (w_X2_meld_b38 post p0 p1 p2 (0 : Int32) mel hM lM oM kM zM)) ∧ (¬ r31 = 0 → (w_X2_meld_b44 post p0 p1 p2 (0 : Int32) mel hM lM oM kM zM))))))) ∧ (¬ p0 = 0 → (w_X2_meld_b44 post p0 p1 p2 (0 : Int32) mel hM lM oM kM zM))))))))))))) := hw
  have L38 : ∀ (thr : Int32) (mel : Int32) (hM : (Nat → Int32)) (lM : (Nat → Int32)) (oM : (Nat → Int32)) (kM : (Nat → Int32)) (zM : (Nat → Int32)) (H : Heap) (locs : List Loc) (ls : Array Slot), w_X2_meld_b38 post p0 p1 p2 thr mel hM lM oM kM zM → va_P (dC, dI) vwCl [(y, .inr (2, [.int thr, .ref bH, .ref bS, .ref bL, .int mel, .ref bO, .ref bK, .ref bZ, .int sea, .int rnd, .int bas, .int lim, .ref bR, .ref bG, .ref bB, .ref bX])), (bH, .inl (cI, 34, .inl hM)), (bL, .inl (cI, 34, .inl lM)), (bO, .inl (cI, 4, .inl oM)), (bK, .inl (cI, 4, .inl kM)), (bZ, .inl (cZ, 4, .inl zM))] H → va_D A [(y, .inr (2, [.int thr, .ref bH, .ref bS, .ref bL, .int mel, .ref bO, .ref bK, .ref bZ, .int sea, .int rnd, .int bas, .int lim, .ref bR, .ref bG, .ref bB, .ref bX])), (bH, .inl (cI, 34, .inl hM)), (bL, .inl (cI, 34, .inl lM)), (bO, .inl (cI, 4, .inl oM)), (bK, .inl (cI, 4, .inl kM)), (bZ, .inl (cZ, 4, .inl zM))] → va_S A s.heap H locs → lv_has ls 6 [(0, .ref y)] → W p l e ({ frames := 3, cells := 0, slots := 0, locals := 60 } : Room) s m ([.ref y, .int p0, .int p1, .int p2] : List Value).toArray below meth c H locs 0 0 Q9 (F0 m 38 ls []) := by
    intro thr mel hM lM oM kM zM H locs ls hw hP hD hS hl
    refine lv_aload_n hx hb dX2_meld_38 rfl (lv_at hl 0 rfl) ?_
    refine lv_iconst (v := 2) hx hb dX2_meld_39 (by decide) ?_
    have hPc := hP.sub (ws' := [(y, .inr (2, [.int thr, .ref bH, .ref bS, .ref bL, .int mel, .ref bO, .ref bK, .ref bZ, .int sea, .int rnd, .int bas, .int lim, .ref bR, .ref bG, .ref bB, .ref bX]))]) [0] rfl
    have hDc := hD.sub (ws' := [(y, .inr (2, [.int thr, .ref bH, .ref bS, .ref bL, .int mel, .ref bO, .ref bK, .ref bZ, .int sea, .int rnd, .int bas, .int lim, .ref bR, .ref bG, .ref bB, .ref bX]))]) [0] (by decide) rfl
    have hFc := va_free (wc := [(y, .inr (2, [.int thr, .ref bH, .ref bS, .ref bL, .int mel, .ref bO, .ref bK, .ref bZ, .int sea, .int rnd, .int bas, .int lim, .ref bR, .ref bG, .ref bB, .ref bX]))]) hD hS hA [0] rfl
    refine va_calli (va_runV (As := [.int (2 : Int32)]) (rest := []) ⟨hx, hb, hml, hown, hts⟩ (c_X2_fail l dC dI cI cZ y bH bS bL bO bK bZ bR bG bB bX H.size thr mel sea rnd bas lim (2 : Int32) _ hw) (cwV 1 hts gX2_meld_X2_fail rfl rfl rfl (by decide +kernel) ⟨Nat.le_of_ble_eq_true rfl, Nat.le_of_ble_eq_true rfl⟩) ⟨fun a U g mk q => by obtain ⟨q0, q1, qP, qK, qD⟩ := q; exact ⟨q0, q1, qP, va_K.moved (u := U) (U := U.calling g mk a) (Vm.Alike.refl U.vm) qK, qD⟩, va_recv hK hPc (ci := 2) (q0 := 0) rfl rfl, fun U hU hW => ⟨rfl, by rw [hU], by rw [hU]; exact hPc, va_K.moved hW.alike hK, hDc.weaken (fun _ _ _ _ => trivial)⟩⟩ rfl rfl hl.1 rfl (lv_room (Nat.le_of_ble_eq_true rfl)) dX2_meld_40 ⟨Nat.le_of_ble_eq_true rfl, Nat.le_of_ble_eq_true rfl⟩) hS (fun q _ h => hFc q h) hFc (fun r5 u t H1 locs ht hvm hw hB hz1 hk1 hS => ?_)
    obtain ⟨thr_6, rfl⟩ : ∃ z, z = u := ⟨_, rfl⟩
    obtain ⟨hP1, -, hD1⟩ := hB
    have hw := And.intro hw trivial
    try dsimp only at hw
    have hw := hw.1
    rw [ht] at hP1
    obtain ⟨hP, hD⟩ := va_join (wr := [(bH, .inl (cI, 34, .inl hM)), (bL, .inl (cI, 34, .inl lM)), (bO, .inl (cI, 4, .inl oM)), (bK, .inl (cI, 4, .inl kM)), (bZ, .inl (cZ, 4, .inl zM))]) (w1 := [(y, .inr (2, [.int thr_6, .ref bH, .ref bS, .ref bL, .int mel, .ref bO, .ref bK, .ref bZ, .int sea, .int rnd, .int bas, .int lim, .ref bR, .ref bG, .ref bB, .ref bX]))]) hP hD [0] [1, 2, 3, 4, 5] rfl rfl (by decide) (by decide) hk1 hFc hP1 hD1
    generalize H1 = H at hP hS ⊢
    have hP : va_P (dC, dI) vwCl [(bH, .inl (cI, 34, .inl hM)), (bL, .inl (cI, 34, .inl lM)), (bO, .inl (cI, 4, .inl oM)), (bK, .inl (cI, 4, .inl kM)), (bZ, .inl (cZ, 4, .inl zM)), (y, .inr (2, [.int thr_6, .ref bH, .ref bS, .ref bL, .int mel, .ref bO, .ref bK, .ref bZ, .int sea, .int rnd, .int bas, .int lim, .ref bR, .ref bG, .ref bB, .ref bX]))] H := hP
    have hD : va_D A [(bH, .inl (cI, 34, .inl hM)), (bL, .inl (cI, 34, .inl lM)), (bO, .inl (cI, 4, .inl oM)), (bK, .inl (cI, 4, .inl kM)), (bZ, .inl (cZ, 4, .inl zM)), (y, .inr (2, [.int thr_6, .ref bH, .ref bS, .ref bL, .int mel, .ref bO, .ref bK, .ref bZ, .int sea, .int rnd, .int bas, .int lim, .ref bR, .ref bG, .ref bB, .ref bX]))] := hD
    have hP9 := hP.sub (ws' := [(y, .inr (2, [.int thr_6, .ref bH, .ref bS, .ref bL, .int mel, .ref bO, .ref bK, .ref bZ, .int sea, .int rnd, .int bas, .int lim, .ref bR, .ref bG, .ref bB, .ref bX])), (bH, .inl (cI, 34, .inl hM)), (bL, .inl (cI, 34, .inl lM)), (bO, .inl (cI, 4, .inl oM)), (bK, .inl (cI, 4, .inl kM)), (bZ, .inl (cZ, 4, .inl zM))]) [5, 0, 1, 2, 3, 4] rfl
    have hD9 := hD.sub (ws' := [(y, .inr (2, [.int thr_6, .ref bH, .ref bS, .ref bL, .int mel, .ref bO, .ref bK, .ref bZ, .int sea, .int rnd, .int bas, .int lim, .ref bR, .ref bG, .ref bB, .ref bX])), (bH, .inl (cI, 34, .inl hM)), (bL, .inl (cI, 34, .inl lM)), (bO, .inl (cI, 4, .inl oM)), (bK, .inl (cI, 4, .inl kM)), (bZ, .inl (cZ, 4, .inl zM))]) [5, 0, 1, 2, 3, 4] (by decide) rfl
    rw [← hQ9]
    exact W.iret (v := r5) hx hb hr (fun t ht hW => ⟨⟨r5, (thr_6, mel, hM, lM, oM, kM, zM), rfl, hw, by rw [ht]; exact hP9, va_K.moved hW.alike hK, hD9⟩, hS.F ht⟩) hS.2.2 dX2_meld_43
  have L119 : ∀ (thr : Int32) (mel : Int32) (hM : (Nat → Int32)) (lM : (Nat → Int32)) (oM : (Nat → Int32)) (kM : (Nat → Int32)) (zM : (Nat → Int32)) (H : Heap) (locs : List Loc) (ls : Array Slot), w_X2_meld_b119 post p0 p1 p2 thr mel hM lM oM kM zM → va_P (dC, dI) vwCl [(y, .inr (2, [.int thr, .ref bH, .ref bS, .ref bL, .int mel, .ref bO, .ref bK, .ref bZ, .int sea, .int rnd, .int bas, .int lim, .ref bR, .ref bG, .ref bB, .ref bX])), (bH, .inl (cI, 34, .inl hM)), (bL, .inl (cI, 34, .inl lM)), (bO, .inl (cI, 4, .inl oM)), (bK, .inl (cI, 4, .inl kM)), (bZ, .inl (cZ, 4, .inl zM))] H → va_D A [(y, .inr (2, [.int thr, .ref bH, .ref bS, .ref bL, .int mel, .ref bO, .ref bK, .ref bZ, .int sea, .int rnd, .int bas, .int lim, .ref bR, .ref bG, .ref bB, .ref bX])), (bH, .inl (cI, 34, .inl hM)), (bL, .inl (cI, 34, .inl lM)), (bO, .inl (cI, 4, .inl oM)), (bK, .inl (cI, 4, .inl kM)), (bZ, .inl (cZ, 4, .inl zM))] → va_S A s.heap H locs → lv_has ls 6 [(0, .ref y)] → W p l e ({ frames := 3, cells := 0, slots := 0, locals := 60 } : Room) s m ([.ref y, .int p0, .int p1, .int p2] : List Value).toArray below meth c H locs 0 0 Q9 (F0 m 119 ls []) := by
    intro thr mel hM lM oM kM zM H locs ls hw hP hD hS hl
    refine lv_aload_n hx hb dX2_meld_119 rfl (lv_at hl 0 rfl) ?_
    refine lv_iconst (v := 3) hx hb dX2_meld_120 (by decide) ?_
    have hPc := hP.sub (ws' := [(y, .inr (2, [.int thr, .ref bH, .ref bS, .ref bL, .int mel, .ref bO, .ref bK, .ref bZ, .int sea, .int rnd, .int bas, .int lim, .ref bR, .ref bG, .ref bB, .ref bX]))]) [0] rfl
    have hDc := hD.sub (ws' := [(y, .inr (2, [.int thr, .ref bH, .ref bS, .ref bL, .int mel, .ref bO, .ref bK, .ref bZ, .int sea, .int rnd, .int bas, .int lim, .ref bR, .ref bG, .ref bB, .ref bX]))]) [0] (by decide) rfl
    have hFc := va_free (wc := [(y, .inr (2, [.int thr, .ref bH, .ref bS, .ref bL, .int mel, .ref bO, .ref bK, .ref bZ, .int sea, .int rnd, .int bas, .int lim, .ref bR, .ref bG, .ref bB, .ref bX]))]) hD hS hA [0] rfl
    refine va_calli (va_runV (As := [.int (3 : Int32)]) (rest := []) ⟨hx, hb, hml, hown, hts⟩ (c_X2_fail l dC dI cI cZ y bH bS bL bO bK bZ bR bG bB bX H.size thr mel sea rnd bas lim (3 : Int32) _ hw) (cwV 1 hts gX2_meld_X2_fail rfl rfl rfl (by decide +kernel) ⟨Nat.le_of_ble_eq_true rfl, Nat.le_of_ble_eq_true rfl⟩) ⟨fun a U g mk q => by obtain ⟨q0, q1, qP, qK, qD⟩ := q; exact ⟨q0, q1, qP, va_K.moved (u := U) (U := U.calling g mk a) (Vm.Alike.refl U.vm) qK, qD⟩, va_recv hK hPc (ci := 2) (q0 := 0) rfl rfl, fun U hU hW => ⟨rfl, by rw [hU], by rw [hU]; exact hPc, va_K.moved hW.alike hK, hDc.weaken (fun _ _ _ _ => trivial)⟩⟩ rfl rfl hl.1 rfl (lv_room (Nat.le_of_ble_eq_true rfl)) dX2_meld_121 ⟨Nat.le_of_ble_eq_true rfl, Nat.le_of_ble_eq_true rfl⟩) hS (fun q _ h => hFc q h) hFc (fun r12 u t H1 locs ht hvm hw hB hz1 hk1 hS => ?_)
    obtain ⟨thr_13, rfl⟩ : ∃ z, z = u := ⟨_, rfl⟩
    obtain ⟨hP1, -, hD1⟩ := hB
    have hw := And.intro hw trivial
    try dsimp only at hw
    have hw := hw.1
    rw [ht] at hP1
    obtain ⟨hP, hD⟩ := va_join (wr := [(bH, .inl (cI, 34, .inl hM)), (bL, .inl (cI, 34, .inl lM)), (bO, .inl (cI, 4, .inl oM)), (bK, .inl (cI, 4, .inl kM)), (bZ, .inl (cZ, 4, .inl zM))]) (w1 := [(y, .inr (2, [.int thr_13, .ref bH, .ref bS, .ref bL, .int mel, .ref bO, .ref bK, .ref bZ, .int sea, .int rnd, .int bas, .int lim, .ref bR, .ref bG, .ref bB, .ref bX]))]) hP hD [0] [1, 2, 3, 4, 5] rfl rfl (by decide) (by decide) hk1 hFc hP1 hD1
    generalize H1 = H at hP hS ⊢
    have hP : va_P (dC, dI) vwCl [(bH, .inl (cI, 34, .inl hM)), (bL, .inl (cI, 34, .inl lM)), (bO, .inl (cI, 4, .inl oM)), (bK, .inl (cI, 4, .inl kM)), (bZ, .inl (cZ, 4, .inl zM)), (y, .inr (2, [.int thr_13, .ref bH, .ref bS, .ref bL, .int mel, .ref bO, .ref bK, .ref bZ, .int sea, .int rnd, .int bas, .int lim, .ref bR, .ref bG, .ref bB, .ref bX]))] H := hP
    have hD : va_D A [(bH, .inl (cI, 34, .inl hM)), (bL, .inl (cI, 34, .inl lM)), (bO, .inl (cI, 4, .inl oM)), (bK, .inl (cI, 4, .inl kM)), (bZ, .inl (cZ, 4, .inl zM)), (y, .inr (2, [.int thr_13, .ref bH, .ref bS, .ref bL, .int mel, .ref bO, .ref bK, .ref bZ, .int sea, .int rnd, .int bas, .int lim, .ref bR, .ref bG, .ref bB, .ref bX]))] := hD
    have hP9 := hP.sub (ws' := [(y, .inr (2, [.int thr_13, .ref bH, .ref bS, .ref bL, .int mel, .ref bO, .ref bK, .ref bZ, .int sea, .int rnd, .int bas, .int lim, .ref bR, .ref bG, .ref bB, .ref bX])), (bH, .inl (cI, 34, .inl hM)), (bL, .inl (cI, 34, .inl lM)), (bO, .inl (cI, 4, .inl oM)), (bK, .inl (cI, 4, .inl kM)), (bZ, .inl (cZ, 4, .inl zM))]) [5, 0, 1, 2, 3, 4] rfl
    have hD9 := hD.sub (ws' := [(y, .inr (2, [.int thr_13, .ref bH, .ref bS, .ref bL, .int mel, .ref bO, .ref bK, .ref bZ, .int sea, .int rnd, .int bas, .int lim, .ref bR, .ref bG, .ref bB, .ref bX])), (bH, .inl (cI, 34, .inl hM)), (bL, .inl (cI, 34, .inl lM)), (bO, .inl (cI, 4, .inl oM)), (bK, .inl (cI, 4, .inl kM)), (bZ, .inl (cZ, 4, .inl zM))]) [5, 0, 1, 2, 3, 4] (by decide) rfl
    rw [← hQ9]
    exact W.iret (v := r12) hx hb hr (fun t ht hW => ⟨⟨r12, (thr_13, mel, hM, lM, oM, kM, zM), rfl, hw, by rw [ht]; exact hP9, va_K.moved hW.alike hK, hD9⟩, hS.F ht⟩) hS.2.2 dX2_meld_124
  have L164 : ∀ (thr : Int32) (mel : Int32) (hM : (Nat → Int32)) (lM : (Nat → Int32)) (oM : (Nat → Int32)) (kM : (Nat → Int32)) (zM : (Nat → Int32)) (H : Heap) (locs : List Loc) (ls : Array Slot), w_X2_meld_b164 post p0 p1 p2 thr mel hM lM oM kM zM → va_P (dC, dI) vwCl [(y, .inr (2, [.int thr, .ref bH, .ref bS, .ref bL, .int mel, .ref bO, .ref bK, .ref bZ, .int sea, .int rnd, .int bas, .int lim, .ref bR, .ref bG, .ref bB, .ref bX])), (bH, .inl (cI, 34, .inl hM)), (bL, .inl (cI, 34, .inl lM)), (bO, .inl (cI, 4, .inl oM)), (bK, .inl (cI, 4, .inl kM)), (bZ, .inl (cZ, 4, .inl zM))] H → va_D A [(y, .inr (2, [.int thr, .ref bH, .ref bS, .ref bL, .int mel, .ref bO, .ref bK, .ref bZ, .int sea, .int rnd, .int bas, .int lim, .ref bR, .ref bG, .ref bB, .ref bX])), (bH, .inl (cI, 34, .inl hM)), (bL, .inl (cI, 34, .inl lM)), (bO, .inl (cI, 4, .inl oM)), (bK, .inl (cI, 4, .inl kM)), (bZ, .inl (cZ, 4, .inl zM))] → va_S A s.heap H locs → lv_has ls 6 [(0, .ref y), (1, .int p0), (2, .int p1), (3, .int p2)] → W p l e ({ frames := 3, cells := 0, slots := 0, locals := 60 } : Room) s m ([.ref y, .int p0, .int p1, .int p2] : List Value).toArray below meth c H locs 0 0 Q9 (F0 m 164 ls []) := by
    intro thr mel hM lM oM kM zM H locs ls hw hP hD hS hl
    refine lv_aload_n hx hb dX2_meld_164 rfl (lv_at hl 0 rfl) ?_
    refine va_get (D := (dC, dI)) (ci := 2) (v := .ref bO) (C := RX2) (T := TX2) (N := 16) hx hb hts hinX2 hown hK hP 0 rfl rfl 5 (by decide) (hts (.fieldLink RX2 19 "TileHandModel" "sorts" "[I") (by decide +kernel)) (fun _ h9 => h9) rfl dX2_meld_165 ?_
    refine lv_aload_n hx hb dX2_meld_168 rfl (lv_at hl 0 rfl) ?_
    refine va_get (D := (dC, dI)) (ci := 2) (v := .int mel) (C := RX2) (T := TX2) (N := 16) hx hb hts hinX2 hown hK hP 0 rfl rfl 4 (by decide) (hts (.fieldLink RX2 69 "TileHandModel" "melds" "I") (by decide +kernel)) (fun _ h9 => h9) rfl dX2_meld_169 ?_
    refine lv_iload_n hx hb dX2_meld_172 rfl (lv_at hl 1 rfl) ?_
    obtain ⟨h18, hw⟩ := hw
    refine va_iast hx hb hK hP hD hS 3 0 rfl rfl h18 dX2_meld_173 (fun H locs hP hD hS => ?_)
    have hP : va_P (dC, dI) vwCl [(y, .inr (2, [.int thr, .ref bH, .ref bS, .ref bL, .int mel, .ref bO, .ref bK, .ref bZ, .int sea, .int rnd, .int bas, .int lim, .ref bR, .ref bG, .ref bB, .ref bX])), (bH, .inl (cI, 34, .inl hM)), (bL, .inl (cI, 34, .inl lM)), (bO, .inl (cI, 4, .inl (upd oM mel.toNatClampNeg p0))), (bK, .inl (cI, 4, .inl kM)), (bZ, .inl (cZ, 4, .inl zM))] H := hP
    have hD : va_D A [(y, .inr (2, [.int thr, .ref bH, .ref bS, .ref bL, .int mel, .ref bO, .ref bK, .ref bZ, .int sea, .int rnd, .int bas, .int lim, .ref bR, .ref bG, .ref bB, .ref bX])), (bH, .inl (cI, 34, .inl hM)), (bL, .inl (cI, 34, .inl lM)), (bO, .inl (cI, 4, .inl (upd oM mel.toNatClampNeg p0))), (bK, .inl (cI, 4, .inl kM)), (bZ, .inl (cZ, 4, .inl zM))] := hD
    refine lv_aload_n hx hb dX2_meld_174 rfl (lv_at hl 0 rfl) ?_
    refine va_get (D := (dC, dI)) (ci := 2) (v := .ref bK) (C := RX2) (T := TX2) (N := 16) hx hb hts hinX2 hown hK hP 0 rfl rfl 6 (by decide) (hts (.fieldLink RX2 22 "TileHandModel" "kinds" "[I") (by decide +kernel)) (fun _ h9 => h9) rfl dX2_meld_175 ?_
    refine lv_aload_n hx hb dX2_meld_178 rfl (lv_at hl 0 rfl) ?_
    refine va_get (D := (dC, dI)) (ci := 2) (v := .int mel) (C := RX2) (T := TX2) (N := 16) hx hb hts hinX2 hown hK hP 0 rfl rfl 4 (by decide) (hts (.fieldLink RX2 69 "TileHandModel" "melds" "I") (by decide +kernel)) (fun _ h9 => h9) rfl dX2_meld_179 ?_
    refine lv_iload_n hx hb dX2_meld_182 rfl (lv_at hl 2 rfl) ?_
    obtain ⟨h19, hw⟩ := hw
    refine va_iast hx hb hK hP hD hS 4 0 rfl rfl h19 dX2_meld_183 (fun H locs hP hD hS => ?_)
    have hP : va_P (dC, dI) vwCl [(y, .inr (2, [.int thr, .ref bH, .ref bS, .ref bL, .int mel, .ref bO, .ref bK, .ref bZ, .int sea, .int rnd, .int bas, .int lim, .ref bR, .ref bG, .ref bB, .ref bX])), (bH, .inl (cI, 34, .inl hM)), (bL, .inl (cI, 34, .inl lM)), (bO, .inl (cI, 4, .inl (upd oM mel.toNatClampNeg p0))), (bK, .inl (cI, 4, .inl (upd kM mel.toNatClampNeg p1))), (bZ, .inl (cZ, 4, .inl zM))] H := hP
    have hD : va_D A [(y, .inr (2, [.int thr, .ref bH, .ref bS, .ref bL, .int mel, .ref bO, .ref bK, .ref bZ, .int sea, .int rnd, .int bas, .int lim, .ref bR, .ref bG, .ref bB, .ref bX])), (bH, .inl (cI, 34, .inl hM)), (bL, .inl (cI, 34, .inl lM)), (bO, .inl (cI, 4, .inl (upd oM mel.toNatClampNeg p0))), (bK, .inl (cI, 4, .inl (upd kM mel.toNatClampNeg p1))), (bZ, .inl (cZ, 4, .inl zM))] := hD
    refine lv_aload_n hx hb dX2_meld_184 rfl (lv_at hl 0 rfl) ?_
    refine va_get (D := (dC, dI)) (ci := 2) (v := .ref bZ) (C := RX2) (T := TX2) (N := 16) hx hb hts hinX2 hown hK hP 0 rfl rfl 7 (by decide) (hts (.fieldLink RX2 25 "TileHandModel" "areOpen" "[Z") (by decide +kernel)) (fun _ h9 => h9) rfl dX2_meld_185 ?_
    refine lv_aload_n hx hb dX2_meld_188 rfl (lv_at hl 0 rfl) ?_
    refine va_get (D := (dC, dI)) (ci := 2) (v := .int mel) (C := RX2) (T := TX2) (N := 16) hx hb hts hinX2 hown hK hP 0 rfl rfl 4 (by decide) (hts (.fieldLink RX2 69 "TileHandModel" "melds" "I") (by decide +kernel)) (fun _ h9 => h9) rfl dX2_meld_189 ?_
    refine lv_iload_n hx hb dX2_meld_192 rfl (lv_at hl 3 rfl) ?_
    obtain ⟨h20, hw⟩ := hw
    refine va_zast hx hb hK hP hD hS 5 1 rfl rfl h20 dX2_meld_193 (fun H locs hP hD hS => ?_)
    have hP : va_P (dC, dI) vwCl [(y, .inr (2, [.int thr, .ref bH, .ref bS, .ref bL, .int mel, .ref bO, .ref bK, .ref bZ, .int sea, .int rnd, .int bas, .int lim, .ref bR, .ref bG, .ref bB, .ref bX])), (bH, .inl (cI, 34, .inl hM)), (bL, .inl (cI, 34, .inl lM)), (bO, .inl (cI, 4, .inl (upd oM mel.toNatClampNeg p0))), (bK, .inl (cI, 4, .inl (upd kM mel.toNatClampNeg p1))), (bZ, .inl (cZ, 4, .inl (upd zM mel.toNatClampNeg (vp_nar .boolean p2))))] H := hP
    have hD : va_D A [(y, .inr (2, [.int thr, .ref bH, .ref bS, .ref bL, .int mel, .ref bO, .ref bK, .ref bZ, .int sea, .int rnd, .int bas, .int lim, .ref bR, .ref bG, .ref bB, .ref bX])), (bH, .inl (cI, 34, .inl hM)), (bL, .inl (cI, 34, .inl lM)), (bO, .inl (cI, 4, .inl (upd oM mel.toNatClampNeg p0))), (bK, .inl (cI, 4, .inl (upd kM mel.toNatClampNeg p1))), (bZ, .inl (cZ, 4, .inl (upd zM mel.toNatClampNeg (vp_nar .boolean p2))))] := hD
    refine lv_aload_n hx hb dX2_meld_194 rfl (lv_at hl 0 rfl) ?_
    refine lv_dup hx hb dX2_meld_195 rfl ?_
    refine va_get (D := (dC, dI)) (ci := 2) (v := .int mel) (C := RX2) (T := TX2) (N := 16) hx hb hts hinX2 hown hK hP 0 rfl rfl 4 (by decide) (hts (.fieldLink RX2 69 "TileHandModel" "melds" "I") (by decide +kernel)) (fun _ h9 => h9) rfl dX2_meld_196 ?_
    refine lv_iconst (v := 1) hx hb dX2_meld_199 (by decide) ?_
    refine lv_iadd hx hb dX2_meld_200 ?_
    refine va_put (D := (dC, dI)) (ci := 2) (v := .int (mel + (1 : Int32))) (ty := .int) (C := RX2) (T := TX2) (N := 16) hx hb hts hinX2 tyX2 tyX2_ok nmX2 hown hK hP hD hS 0 rfl rfl 4 (by decide) (hts (.fieldLink RX2 69 "TileHandModel" "melds" "I") (by decide +kernel)) (fun _ h9 => h9) rfl (by decide +kernel) rfl rfl (Nat.le_of_ble_eq_true rfl) dX2_meld_201 (fun H locs hP hD hS => ?_)
    have hP : va_P (dC, dI) vwCl [(y, .inr (2, [.int thr, .ref bH, .ref bS, .ref bL, .int (mel + (1 : Int32)), .ref bO, .ref bK, .ref bZ, .int sea, .int rnd, .int bas, .int lim, .ref bR, .ref bG, .ref bB, .ref bX])), (bH, .inl (cI, 34, .inl hM)), (bL, .inl (cI, 34, .inl lM)), (bO, .inl (cI, 4, .inl (upd oM mel.toNatClampNeg p0))), (bK, .inl (cI, 4, .inl (upd kM mel.toNatClampNeg p1))), (bZ, .inl (cZ, 4, .inl (upd zM mel.toNatClampNeg (vp_nar .boolean p2))))] H := hP
    have hD : va_D A [(y, .inr (2, [.int thr, .ref bH, .ref bS, .ref bL, .int (mel + (1 : Int32)), .ref bO, .ref bK, .ref bZ, .int sea, .int rnd, .int bas, .int lim, .ref bR, .ref bG, .ref bB, .ref bX])), (bH, .inl (cI, 34, .inl hM)), (bL, .inl (cI, 34, .inl lM)), (bO, .inl (cI, 4, .inl (upd oM mel.toNatClampNeg p0))), (bK, .inl (cI, 4, .inl (upd kM mel.toNatClampNeg p1))), (bZ, .inl (cZ, 4, .inl (upd zM mel.toNatClampNeg (vp_nar .boolean p2))))] := hD
    refine lv_aload_n hx hb dX2_meld_204 rfl (lv_at hl 0 rfl) ?_
    have hPc := hP.sub (ws' := [(y, .inr (2, [.int thr, .ref bH, .ref bS, .ref bL, .int (mel + (1 : Int32)), .ref bO, .ref bK, .ref bZ, .int sea, .int rnd, .int bas, .int lim, .ref bR, .ref bG, .ref bB, .ref bX])), (bH, .inl (cI, 34, .inl hM))]) [0, 1] rfl
    have hDc := hD.sub (ws' := [(y, .inr (2, [.int thr, .ref bH, .ref bS, .ref bL, .int (mel + (1 : Int32)), .ref bO, .ref bK, .ref bZ, .int sea, .int rnd, .int bas, .int lim, .ref bR, .ref bG, .ref bB, .ref bX])), (bH, .inl (cI, 34, .inl hM))]) [0, 1] (by decide) rfl
    have hFc := va_free (wc := [(y, .inr (2, [.int thr, .ref bH, .ref bS, .ref bL, .int (mel + (1 : Int32)), .ref bO, .ref bK, .ref bZ, .int sea, .int rnd, .int bas, .int lim, .ref bR, .ref bG, .ref bB, .ref bX])), (bH, .inl (cI, 34, .inl hM))]) hD hS hA [0, 1] rfl
    refine va_calli (va_runV (As := []) (rest := []) ⟨hx, hb, hml, hown, hts⟩ (c_X2_sizeOf l dC dI cI cZ y bH bS bL bO bK bZ bR bG bB bX H.size thr (mel + (1 : Int32)) sea rnd bas lim hM _ hw) (cwV 0 hts gX2_meld_X2_sizeOf rfl rfl rfl (by decide +kernel) ⟨Nat.le_of_ble_eq_true rfl, Nat.le_of_ble_eq_true rfl⟩) ⟨fun a U g mk q => by obtain ⟨q0, q1, qP, qK, qD⟩ := q; exact ⟨q0, q1, qP, va_K.moved (u := U) (U := U.calling g mk a) (Vm.Alike.refl U.vm) qK, qD⟩, va_recv hK hPc (ci := 2) (q0 := 0) rfl rfl, fun U hU hW => ⟨rfl, by rw [hU], by rw [hU]; exact hPc, va_K.moved hW.alike hK, hDc.weaken (fun _ _ _ _ => trivial)⟩⟩ rfl rfl hl.1 rfl (lv_room (Nat.le_of_ble_eq_true rfl)) dX2_meld_205 ⟨Nat.le_of_ble_eq_true rfl, Nat.le_of_ble_eq_true rfl⟩) hS (fun q _ h => hFc q h) hFc (fun r21 u t H1 locs ht hvm hw hB hz1 hk1 hS => ?_)
    obtain ⟨hP1, -, hD1⟩ := hB
    have hw := And.intro hw trivial
    try dsimp only at hw
    have hw := hw.1
    rw [ht] at hP1
    obtain ⟨hP, hD⟩ := va_join (wr := [(bL, .inl (cI, 34, .inl lM)), (bO, .inl (cI, 4, .inl (upd oM mel.toNatClampNeg p0))), (bK, .inl (cI, 4, .inl (upd kM mel.toNatClampNeg p1))), (bZ, .inl (cZ, 4, .inl (upd zM mel.toNatClampNeg (vp_nar .boolean p2))))]) (w1 := [(y, .inr (2, [.int thr, .ref bH, .ref bS, .ref bL, .int (mel + (1 : Int32)), .ref bO, .ref bK, .ref bZ, .int sea, .int rnd, .int bas, .int lim, .ref bR, .ref bG, .ref bB, .ref bX])), (bH, .inl (cI, 34, .inl hM))]) hP hD [0, 1] [2, 3, 4, 5] rfl rfl (by decide) (by decide) hk1 hFc hP1 hD1
    generalize H1 = H at hP hS ⊢
    have hP : va_P (dC, dI) vwCl [(bL, .inl (cI, 34, .inl lM)), (bO, .inl (cI, 4, .inl (upd oM mel.toNatClampNeg p0))), (bK, .inl (cI, 4, .inl (upd kM mel.toNatClampNeg p1))), (bZ, .inl (cZ, 4, .inl (upd zM mel.toNatClampNeg (vp_nar .boolean p2)))), (y, .inr (2, [.int thr, .ref bH, .ref bS, .ref bL, .int (mel + (1 : Int32)), .ref bO, .ref bK, .ref bZ, .int sea, .int rnd, .int bas, .int lim, .ref bR, .ref bG, .ref bB, .ref bX])), (bH, .inl (cI, 34, .inl hM))] H := hP
    have hD : va_D A [(bL, .inl (cI, 34, .inl lM)), (bO, .inl (cI, 4, .inl (upd oM mel.toNatClampNeg p0))), (bK, .inl (cI, 4, .inl (upd kM mel.toNatClampNeg p1))), (bZ, .inl (cZ, 4, .inl (upd zM mel.toNatClampNeg (vp_nar .boolean p2)))), (y, .inr (2, [.int thr, .ref bH, .ref bS, .ref bL, .int (mel + (1 : Int32)), .ref bO, .ref bK, .ref bZ, .int sea, .int rnd, .int bas, .int lim, .ref bR, .ref bG, .ref bB, .ref bX])), (bH, .inl (cI, 34, .inl hM))] := hD
    have hP9 := hP.sub (ws' := [(y, .inr (2, [.int thr, .ref bH, .ref bS, .ref bL, .int (mel + (1 : Int32)), .ref bO, .ref bK, .ref bZ, .int sea, .int rnd, .int bas, .int lim, .ref bR, .ref bG, .ref bB, .ref bX])), (bH, .inl (cI, 34, .inl hM)), (bL, .inl (cI, 34, .inl lM)), (bO, .inl (cI, 4, .inl (upd oM mel.toNatClampNeg p0))), (bK, .inl (cI, 4, .inl (upd kM mel.toNatClampNeg p1))), (bZ, .inl (cZ, 4, .inl (upd zM mel.toNatClampNeg (vp_nar .boolean p2))))]) [4, 5, 0, 1, 2, 3] rfl
    have hD9 := hD.sub (ws' := [(y, .inr (2, [.int thr, .ref bH, .ref bS, .ref bL, .int (mel + (1 : Int32)), .ref bO, .ref bK, .ref bZ, .int sea, .int rnd, .int bas, .int lim, .ref bR, .ref bG, .ref bB, .ref bX])), (bH, .inl (cI, 34, .inl hM)), (bL, .inl (cI, 34, .inl lM)), (bO, .inl (cI, 4, .inl (upd oM mel.toNatClampNeg p0))), (bK, .inl (cI, 4, .inl (upd kM mel.toNatClampNeg p1))), (bZ, .inl (cZ, 4, .inl (upd zM mel.toNatClampNeg (vp_nar .boolean p2))))]) [4, 5, 0, 1, 2, 3] (by decide) rfl
    rw [← hQ9]
    exact W.iret (v := r21) hx hb hr (fun t ht hW => ⟨⟨r21, (thr, mel + (1 : Int32), hM, lM, upd oM mel.toNatClampNeg p0, upd kM mel.toNatClampNeg p1, upd zM mel.toNatClampNeg (vp_nar .boolean p2)), rfl, hw, by rw [ht]; exact hP9, va_K.moved hW.alike hK, hD9⟩, hS.F ht⟩) hS.2.2 dX2_meld_208
  have L153 : ∀ (thr : Int32) (mel : Int32) (hM : (Nat → Int32)) (lM : (Nat → Int32)) (oM : (Nat → Int32)) (kM : (Nat → Int32)) (zM : (Nat → Int32)) (H : Heap) (locs : List Loc) (ls : Array Slot), w_X2_meld_b153 post p0 p1 p2 thr mel hM lM oM kM zM → va_P (dC, dI) vwCl [(y, .inr (2, [.int thr, .ref bH, .ref bS, .ref bL, .int mel, .ref bO, .ref bK, .ref bZ, .int sea, .int rnd, .int bas, .int lim, .ref bR, .ref bG, .ref bB, .ref bX])), (bH, .inl (cI, 34, .inl hM)), (bL, .inl (cI, 34, .inl lM)), (bO, .inl (cI, 4, .inl oM)), (bK, .inl (cI, 4, .inl kM)), (bZ, .inl (cZ, 4, .inl zM))] H → va_D A [(y, .inr (2, [.int thr, .ref bH, .ref bS, .ref bL, .int mel, .ref bO, .ref bK, .ref bZ, .int sea, .int rnd, .int bas, .int lim, .ref bR, .ref bG, .ref bB, .ref bX])), (bH, .inl (cI, 34, .inl hM)), (bL, .inl (cI, 34, .inl lM)), (bO, .inl (cI, 4, .inl oM)), (bK, .inl (cI, 4, .inl kM)), (bZ, .inl (cZ, 4, .inl zM))] → va_S A s.heap H locs → lv_has ls 6 [(0, .ref y), (1, .int p0), (2, .int p1), (3, .int p2)] → W p l e ({ frames := 3, cells := 0, slots := 0, locals := 60 } : Room) s m ([.ref y, .int p0, .int p1, .int p2] : List Value).toArray below meth c H locs 0 0 Q9 (F0 m 153 ls []) := by
    intro thr mel hM lM oM kM zM H locs ls hw hP hD hS hl
    refine lv_goto (tgt := 164) hx hb dX2_meld_153 (by decide) ?_
    exact L164 thr mel hM lM oM kM zM _ _ _ hw hP hD hS (lv_sub hl [0, 1, 2, 3] rfl)
  have L132 : ∀ (n : Nat), ∀ (v5 : Int32) (thr : Int32) (mel : Int32) (hM : (Nat → Int32)) (lM : (Nat → Int32)) (oM : (Nat → Int32)) (kM : (Nat → Int32)) (zM : (Nat → Int32)) (H : Heap) (locs : List Loc) (ls : Array Slot), w_X2_meld_b132 post p0 p1 p2 n v5 thr mel hM lM oM kM zM → va_P (dC, dI) vwCl [(y, .inr (2, [.int thr, .ref bH, .ref bS, .ref bL, .int mel, .ref bO, .ref bK, .ref bZ, .int sea, .int rnd, .int bas, .int lim, .ref bR, .ref bG, .ref bB, .ref bX])), (bH, .inl (cI, 34, .inl hM)), (bL, .inl (cI, 34, .inl lM)), (bO, .inl (cI, 4, .inl oM)), (bK, .inl (cI, 4, .inl kM)), (bZ, .inl (cZ, 4, .inl zM))] H → va_D A [(y, .inr (2, [.int thr, .ref bH, .ref bS, .ref bL, .int mel, .ref bO, .ref bK, .ref bZ, .int sea, .int rnd, .int bas, .int lim, .ref bR, .ref bG, .ref bB, .ref bX])), (bH, .inl (cI, 34, .inl hM)), (bL, .inl (cI, 34, .inl lM)), (bO, .inl (cI, 4, .inl oM)), (bK, .inl (cI, 4, .inl kM)), (bZ, .inl (cZ, 4, .inl zM))] → va_S A s.heap H locs → lv_has ls 6 [(0, .ref y), (1, .int p0), (2, .int p1), (3, .int p2), (5, .int v5)] → W p l e ({ frames := 3, cells := 0, slots := 0, locals := 60 } : Room) s m ([.ref y, .int p0, .int p1, .int p2] : List Value).toArray below meth c H locs 0 0 Q9 (F0 m 132 ls []) := by
    intro n
    induction n with
    | zero => intro v5 thr mel hM lM oM kM zM H locs ls hw _ _ _ _; exact False.elim hw
    | succ n ih =>
      intro v5 thr mel hM lM oM kM zM H locs ls hw hP hD hS hl
      refine lv_iload hx hb dX2_meld_132 (lv_at hl 4 rfl) ?_
      refine lv_iload_n hx hb dX2_meld_134 rfl (lv_at hl 2 rfl) ?_
      refine lv_iconst (v := 3) hx hb dX2_meld_135 (by decide) ?_
      refine lv_iadd hx hb dX2_meld_136 ?_
      refine lv_icmp_ge (tgt := 153) hx hb dX2_meld_137 (by decide) (fun c22 => ?_) (fun c22 => ?_)
      · have hw := hw.1 c22
        exact L153 thr mel hM lM oM kM zM _ _ _ hw hP hD hS (lv_sub hl [0, 1, 2, 3] rfl)
      · have hw := hw.2 c22
        refine lv_aload_n hx hb dX2_meld_140 rfl (lv_at hl 0 rfl) ?_
        refine lv_iload hx hb dX2_meld_141 (lv_at hl 4 rfl) ?_
        refine lv_iconst (v := 1) hx hb dX2_meld_143 (by decide) ?_
        have hPc := hP.sub (ws' := [(y, .inr (2, [.int thr, .ref bH, .ref bS, .ref bL, .int mel, .ref bO, .ref bK, .ref bZ, .int sea, .int rnd, .int bas, .int lim, .ref bR, .ref bG, .ref bB, .ref bX])), (bH, .inl (cI, 34, .inl hM)), (bL, .inl (cI, 34, .inl lM))]) [0, 1, 2] rfl
        have hDc := hD.sub (ws' := [(y, .inr (2, [.int thr, .ref bH, .ref bS, .ref bL, .int mel, .ref bO, .ref bK, .ref bZ, .int sea, .int rnd, .int bas, .int lim, .ref bR, .ref bG, .ref bB, .ref bX])), (bH, .inl (cI, 34, .inl hM)), (bL, .inl (cI, 34, .inl lM))]) [0, 1, 2] (by decide) rfl
        have hFc := va_free (wc := [(y, .inr (2, [.int thr, .ref bH, .ref bS, .ref bL, .int mel, .ref bO, .ref bK, .ref bZ, .int sea, .int rnd, .int bas, .int lim, .ref bR, .ref bG, .ref bB, .ref bX])), (bH, .inl (cI, 34, .inl hM)), (bL, .inl (cI, 34, .inl lM))]) hD hS hA [0, 1, 2] rfl
        refine va_callv (va_runV (As := [.int v5, .int (1 : Int32)]) (rest := []) ⟨hx, hb, hml, hown, hts⟩ (c_X2_lay l dC dI cI cZ y bH bS bL bO bK bZ bR bG bB bX H.size thr mel sea rnd bas lim hM lM v5 (1 : Int32) _ hw) (cwV 2 hts gX2_meld_X2_lay rfl rfl rfl (by decide +kernel) ⟨Nat.le_of_ble_eq_true rfl, Nat.le_of_ble_eq_true rfl⟩) ⟨fun a U g mk q => by obtain ⟨q0, q1, qP, qK, qD⟩ := q; exact ⟨q0, q1, qP, va_K.moved (u := U) (U := U.calling g mk a) (Vm.Alike.refl U.vm) qK, qD⟩, va_recv hK hPc (ci := 2) (q0 := 0) rfl rfl, fun U hU hW => ⟨rfl, by rw [hU], by rw [hU]; exact hPc, va_K.moved hW.alike hK, hDc.weaken (fun _ _ _ _ => trivial)⟩⟩ rfl rfl hl.1 rfl (lv_room (Nat.le_of_ble_eq_true rfl)) dX2_meld_144 ⟨Nat.le_of_ble_eq_true rfl, Nat.le_of_ble_eq_true rfl⟩) hS (fun q _ h => hFc q h) hFc (fun u t H1 locs ht hvm hw hB hz1 hk1 hS => ?_)
        obtain ⟨hM_23, lM_24⟩ := u
        obtain ⟨hP1, -, hD1⟩ := hB
        have hw := And.intro hw trivial
        try dsimp only at hw
        have hw := hw.1
        rw [ht] at hP1
        obtain ⟨hP, hD⟩ := va_join (wr := [(bO, .inl (cI, 4, .inl oM)), (bK, .inl (cI, 4, .inl kM)), (bZ, .inl (cZ, 4, .inl zM))]) (w1 := [(y, .inr (2, [.int thr, .ref bH, .ref bS, .ref bL, .int mel, .ref bO, .ref bK, .ref bZ, .int sea, .int rnd, .int bas, .int lim, .ref bR, .ref bG, .ref bB, .ref bX])), (bH, .inl (cI, 34, .inl hM_23)), (bL, .inl (cI, 34, .inl lM_24))]) hP hD [0, 1, 2] [3, 4, 5] rfl rfl (by decide) (by decide) hk1 hFc hP1 hD1
        generalize H1 = H at hP hS ⊢
        have hP : va_P (dC, dI) vwCl [(bO, .inl (cI, 4, .inl oM)), (bK, .inl (cI, 4, .inl kM)), (bZ, .inl (cZ, 4, .inl zM)), (y, .inr (2, [.int thr, .ref bH, .ref bS, .ref bL, .int mel, .ref bO, .ref bK, .ref bZ, .int sea, .int rnd, .int bas, .int lim, .ref bR, .ref bG, .ref bB, .ref bX])), (bH, .inl (cI, 34, .inl hM_23)), (bL, .inl (cI, 34, .inl lM_24))] H := hP
        have hD : va_D A [(bO, .inl (cI, 4, .inl oM)), (bK, .inl (cI, 4, .inl kM)), (bZ, .inl (cZ, 4, .inl zM)), (y, .inr (2, [.int thr, .ref bH, .ref bS, .ref bL, .int mel, .ref bO, .ref bK, .ref bZ, .int sea, .int rnd, .int bas, .int lim, .ref bR, .ref bG, .ref bB, .ref bX])), (bH, .inl (cI, 34, .inl hM_23)), (bL, .inl (cI, 34, .inl lM_24))] := hD
        refine lv_iinc (v := v5 + 1) (lv' := [(5, .int (v5 + 1)), (0, .ref y), (1, .int p0), (2, .int p1), (3, .int p2)]) hx hb dX2_meld_147 hl (k := 4) rfl rfl (by decide) rfl (fun ls hl => ?_)
        refine lv_goto (tgt := 132) hx hb dX2_meld_150 (by decide) ?_
        have hP9 := hP.sub (ws' := [(y, .inr (2, [.int thr, .ref bH, .ref bS, .ref bL, .int mel, .ref bO, .ref bK, .ref bZ, .int sea, .int rnd, .int bas, .int lim, .ref bR, .ref bG, .ref bB, .ref bX])), (bH, .inl (cI, 34, .inl hM_23)), (bL, .inl (cI, 34, .inl lM_24)), (bO, .inl (cI, 4, .inl oM)), (bK, .inl (cI, 4, .inl kM)), (bZ, .inl (cZ, 4, .inl zM))]) [3, 4, 5, 0, 1, 2] rfl
        have hD9 := hD.sub (ws' := [(y, .inr (2, [.int thr, .ref bH, .ref bS, .ref bL, .int mel, .ref bO, .ref bK, .ref bZ, .int sea, .int rnd, .int bas, .int lim, .ref bR, .ref bG, .ref bB, .ref bX])), (bH, .inl (cI, 34, .inl hM_23)), (bL, .inl (cI, 34, .inl lM_24)), (bO, .inl (cI, 4, .inl oM)), (bK, .inl (cI, 4, .inl kM)), (bZ, .inl (cZ, 4, .inl zM))]) [3, 4, 5, 0, 1, 2] (by decide) rfl
        exact ih (v5 + 1) thr mel hM_23 lM_24 oM kM zM _ _ _ hw hP9 hD9 hS (lv_sub hl [1, 2, 3, 4, 0] rfl)
  have L104 : ∀ (s1 : Int32) (thr : Int32) (mel : Int32) (hM : (Nat → Int32)) (lM : (Nat → Int32)) (oM : (Nat → Int32)) (kM : (Nat → Int32)) (zM : (Nat → Int32)) (H : Heap) (locs : List Loc) (ls : Array Slot), w_X2_meld_b104 post p0 p1 p2 s1 thr mel hM lM oM kM zM → va_P (dC, dI) vwCl [(y, .inr (2, [.int thr, .ref bH, .ref bS, .ref bL, .int mel, .ref bO, .ref bK, .ref bZ, .int sea, .int rnd, .int bas, .int lim, .ref bR, .ref bG, .ref bB, .ref bX])), (bH, .inl (cI, 34, .inl hM)), (bL, .inl (cI, 34, .inl lM)), (bO, .inl (cI, 4, .inl oM)), (bK, .inl (cI, 4, .inl kM)), (bZ, .inl (cZ, 4, .inl zM))] H → va_D A [(y, .inr (2, [.int thr, .ref bH, .ref bS, .ref bL, .int mel, .ref bO, .ref bK, .ref bZ, .int sea, .int rnd, .int bas, .int lim, .ref bR, .ref bG, .ref bB, .ref bX])), (bH, .inl (cI, 34, .inl hM)), (bL, .inl (cI, 34, .inl lM)), (bO, .inl (cI, 4, .inl oM)), (bK, .inl (cI, 4, .inl kM)), (bZ, .inl (cZ, 4, .inl zM))] → va_S A s.heap H locs → lv_has ls 6 [(0, .ref y), (1, .int p0), (2, .int p1), (3, .int p2)] → W p l e ({ frames := 3, cells := 0, slots := 0, locals := 60 } : Room) s m ([.ref y, .int p0, .int p1, .int p2] : List Value).toArray below meth c H locs 0 0 Q9 (F0 m 104 ls [.int s1]) := by
    intro s1 thr mel hM lM oM kM zM H locs ls hw hP hD hS hl
    refine lv_istore (lv' := [(4, .int s1), (0, .ref y), (1, .int p0), (2, .int p1), (3, .int p2)]) hx hb dX2_meld_104 hl (by decide) rfl (fun ls hl => ?_)
    refine lv_iload hx hb dX2_meld_106 (lv_at hl 0 rfl) ?_
    refine lv_if_eq (tgt := 119) hx hb dX2_meld_108 (by decide) (fun c11 => ?_) (fun c11 => ?_)
    · have hw := hw.1 c11
      exact L119 thr mel hM lM oM kM zM _ _ _ hw hP hD hS (lv_sub hl [1] rfl)
    · have hw := hw.2 c11
      refine lv_aload_n hx hb dX2_meld_111 rfl (lv_at hl 1 rfl) ?_
      refine va_get (D := (dC, dI)) (ci := 2) (v := .int mel) (C := RX2) (T := TX2) (N := 16) hx hb hts hinX2 hown hK hP 0 rfl rfl 4 (by decide) (hts (.fieldLink RX2 69 "TileHandModel" "melds" "I") (by decide +kernel)) (fun _ h9 => h9) rfl dX2_meld_112 ?_
      refine lv_iconst (v := 4) hx hb dX2_meld_115 (by decide) ?_
      refine lv_icmp_ne (tgt := 125) hx hb dX2_meld_116 (by decide) (fun c14 => ?_) (fun c14 => ?_)
      · have hw := hw.2 c14
        refine lv_iload_n hx hb dX2_meld_125 rfl (lv_at hl 2 rfl) ?_
        refine lv_if_ne (tgt := 156) hx hb dX2_meld_126 (by decide) (fun c15 => ?_) (fun c15 => ?_)
        · have hw := hw.2 c15
          refine lv_aload_n hx hb dX2_meld_156 rfl (lv_at hl 1 rfl) ?_
          refine lv_iload_n hx hb dX2_meld_157 rfl (lv_at hl 3 rfl) ?_
          refine lv_iload_n hx hb dX2_meld_158 rfl (lv_at hl 2 rfl) ?_
          refine lv_iconst (v := 2) hx hb dX2_meld_159 (by decide) ?_
          refine lv_iadd hx hb dX2_meld_160 ?_
          have hPc := hP.sub (ws' := [(y, .inr (2, [.int thr, .ref bH, .ref bS, .ref bL, .int mel, .ref bO, .ref bK, .ref bZ, .int sea, .int rnd, .int bas, .int lim, .ref bR, .ref bG, .ref bB, .ref bX])), (bH, .inl (cI, 34, .inl hM)), (bL, .inl (cI, 34, .inl lM))]) [0, 1, 2] rfl
          have hDc := hD.sub (ws' := [(y, .inr (2, [.int thr, .ref bH, .ref bS, .ref bL, .int mel, .ref bO, .ref bK, .ref bZ, .int sea, .int rnd, .int bas, .int lim, .ref bR, .ref bG, .ref bB, .ref bX])), (bH, .inl (cI, 34, .inl hM)), (bL, .inl (cI, 34, .inl lM))]) [0, 1, 2] (by decide) rfl
          have hFc := va_free (wc := [(y, .inr (2, [.int thr, .ref bH, .ref bS, .ref bL, .int mel, .ref bO, .ref bK, .ref bZ, .int sea, .int rnd, .int bas, .int lim, .ref bR, .ref bG, .ref bB, .ref bX])), (bH, .inl (cI, 34, .inl hM)), (bL, .inl (cI, 34, .inl lM))]) hD hS hA [0, 1, 2] rfl
          refine va_callv (va_runV (As := [.int p1, .int (p0 + (2 : Int32))]) (rest := []) ⟨hx, hb, hml, hown, hts⟩ (c_X2_lay l dC dI cI cZ y bH bS bL bO bK bZ bR bG bB bX H.size thr mel sea rnd bas lim hM lM p1 (p0 + (2 : Int32)) _ hw) (cwV 2 hts gX2_meld_X2_lay rfl rfl rfl (by decide +kernel) ⟨Nat.le_of_ble_eq_true rfl, Nat.le_of_ble_eq_true rfl⟩) ⟨fun a U g mk q => by obtain ⟨q0, q1, qP, qK, qD⟩ := q; exact ⟨q0, q1, qP, va_K.moved (u := U) (U := U.calling g mk a) (Vm.Alike.refl U.vm) qK, qD⟩, va_recv hK hPc (ci := 2) (q0 := 0) rfl rfl, fun U hU hW => ⟨rfl, by rw [hU], by rw [hU]; exact hPc, va_K.moved hW.alike hK, hDc.weaken (fun _ _ _ _ => trivial)⟩⟩ rfl rfl hl.1 rfl (lv_room (Nat.le_of_ble_eq_true rfl)) dX2_meld_161 ⟨Nat.le_of_ble_eq_true rfl, Nat.le_of_ble_eq_true rfl⟩) hS (fun q _ h => hFc q h) hFc (fun u t H1 locs ht hvm hw hB hz1 hk1 hS => ?_)
          obtain ⟨hM_16, lM_17⟩ := u
          obtain ⟨hP1, -, hD1⟩ := hB
          have hw := And.intro hw trivial
          try dsimp only at hw
          have hw := hw.1
          rw [ht] at hP1
          obtain ⟨hP, hD⟩ := va_join (wr := [(bO, .inl (cI, 4, .inl oM)), (bK, .inl (cI, 4, .inl kM)), (bZ, .inl (cZ, 4, .inl zM))]) (w1 := [(y, .inr (2, [.int thr, .ref bH, .ref bS, .ref bL, .int mel, .ref bO, .ref bK, .ref bZ, .int sea, .int rnd, .int bas, .int lim, .ref bR, .ref bG, .ref bB, .ref bX])), (bH, .inl (cI, 34, .inl hM_16)), (bL, .inl (cI, 34, .inl lM_17))]) hP hD [0, 1, 2] [3, 4, 5] rfl rfl (by decide) (by decide) hk1 hFc hP1 hD1
          generalize H1 = H at hP hS ⊢
          have hP : va_P (dC, dI) vwCl [(bO, .inl (cI, 4, .inl oM)), (bK, .inl (cI, 4, .inl kM)), (bZ, .inl (cZ, 4, .inl zM)), (y, .inr (2, [.int thr, .ref bH, .ref bS, .ref bL, .int mel, .ref bO, .ref bK, .ref bZ, .int sea, .int rnd, .int bas, .int lim, .ref bR, .ref bG, .ref bB, .ref bX])), (bH, .inl (cI, 34, .inl hM_16)), (bL, .inl (cI, 34, .inl lM_17))] H := hP
          have hD : va_D A [(bO, .inl (cI, 4, .inl oM)), (bK, .inl (cI, 4, .inl kM)), (bZ, .inl (cZ, 4, .inl zM)), (y, .inr (2, [.int thr, .ref bH, .ref bS, .ref bL, .int mel, .ref bO, .ref bK, .ref bZ, .int sea, .int rnd, .int bas, .int lim, .ref bR, .ref bG, .ref bB, .ref bX])), (bH, .inl (cI, 34, .inl hM_16)), (bL, .inl (cI, 34, .inl lM_17))] := hD
          have hP9 := hP.sub (ws' := [(y, .inr (2, [.int thr, .ref bH, .ref bS, .ref bL, .int mel, .ref bO, .ref bK, .ref bZ, .int sea, .int rnd, .int bas, .int lim, .ref bR, .ref bG, .ref bB, .ref bX])), (bH, .inl (cI, 34, .inl hM_16)), (bL, .inl (cI, 34, .inl lM_17)), (bO, .inl (cI, 4, .inl oM)), (bK, .inl (cI, 4, .inl kM)), (bZ, .inl (cZ, 4, .inl zM))]) [3, 4, 5, 0, 1, 2] rfl
          have hD9 := hD.sub (ws' := [(y, .inr (2, [.int thr, .ref bH, .ref bS, .ref bL, .int mel, .ref bO, .ref bK, .ref bZ, .int sea, .int rnd, .int bas, .int lim, .ref bR, .ref bG, .ref bB, .ref bX])), (bH, .inl (cI, 34, .inl hM_16)), (bL, .inl (cI, 34, .inl lM_17)), (bO, .inl (cI, 4, .inl oM)), (bK, .inl (cI, 4, .inl kM)), (bZ, .inl (cZ, 4, .inl zM))]) [3, 4, 5, 0, 1, 2] (by decide) rfl
          exact L164 thr mel hM_16 lM_17 oM kM zM _ _ _ hw hP9 hD9 hS (lv_sub hl [1, 2, 3, 4] rfl)
        · have hw := hw.1 c15
          refine lv_iload_n hx hb dX2_meld_129 rfl (lv_at hl 3 rfl) ?_
          refine lv_istore (lv' := [(5, .int p1), (4, .int s1), (0, .ref y), (1, .int p0), (2, .int p1), (3, .int p2)]) hx hb dX2_meld_130 hl (by decide) rfl (fun ls hl => ?_)
          obtain ⟨n9, hw⟩ := hw
          exact L132 n9 p1 thr mel hM lM oM kM zM _ _ _ hw hP hD hS (lv_sub hl [2, 3, 4, 5, 0] rfl)
      · have hw := hw.1 c14
        exact L119 thr mel hM lM oM kM zM _ _ _ hw hP hD hS (lv_sub hl [1] rfl)
  have L83 : ∀ (thr : Int32) (mel : Int32) (hM : (Nat → Int32)) (lM : (Nat → Int32)) (oM : (Nat → Int32)) (kM : (Nat → Int32)) (zM : (Nat → Int32)) (H : Heap) (locs : List Loc) (ls : Array Slot), w_X2_meld_b83 post p0 p1 p2 thr mel hM lM oM kM zM → va_P (dC, dI) vwCl [(y, .inr (2, [.int thr, .ref bH, .ref bS, .ref bL, .int mel, .ref bO, .ref bK, .ref bZ, .int sea, .int rnd, .int bas, .int lim, .ref bR, .ref bG, .ref bB, .ref bX])), (bH, .inl (cI, 34, .inl hM)), (bL, .inl (cI, 34, .inl lM)), (bO, .inl (cI, 4, .inl oM)), (bK, .inl (cI, 4, .inl kM)), (bZ, .inl (cZ, 4, .inl zM))] H → va_D A [(y, .inr (2, [.int thr, .ref bH, .ref bS, .ref bL, .int mel, .ref bO, .ref bK, .ref bZ, .int sea, .int rnd, .int bas, .int lim, .ref bR, .ref bG, .ref bB, .ref bX])), (bH, .inl (cI, 34, .inl hM)), (bL, .inl (cI, 34, .inl lM)), (bO, .inl (cI, 4, .inl oM)), (bK, .inl (cI, 4, .inl kM)), (bZ, .inl (cZ, 4, .inl zM))] → va_S A s.heap H locs → lv_has ls 6 [(0, .ref y), (1, .int p0), (2, .int p1), (3, .int p2)] → W p l e ({ frames := 3, cells := 0, slots := 0, locals := 60 } : Room) s m ([.ref y, .int p0, .int p1, .int p2] : List Value).toArray below meth c H locs 0 0 Q9 (F0 m 83 ls []) := by
    intro thr mel hM lM oM kM zM H locs ls hw hP hD hS hl
    refine lv_iconst (v := 0) hx hb dX2_meld_83 (by decide) ?_
    refine lv_goto (tgt := 104) hx hb dX2_meld_84 (by decide) ?_
    exact L104 (0 : Int32) thr mel hM lM oM kM zM _ _ _ hw hP hD hS (lv_sub hl [0, 1, 2, 3] rfl)
  have L44 : ∀ (thr : Int32) (mel : Int32) (hM : (Nat → Int32)) (lM : (Nat → Int32)) (oM : (Nat → Int32)) (kM : (Nat → Int32)) (zM : (Nat → Int32)) (H : Heap) (locs : List Loc) (ls : Array Slot), w_X2_meld_b44 post p0 p1 p2 thr mel hM lM oM kM zM → va_P (dC, dI) vwCl [(y, .inr (2, [.int thr, .ref bH, .ref bS, .ref bL, .int mel, .ref bO, .ref bK, .ref bZ, .int sea, .int rnd, .int bas, .int lim, .ref bR, .ref bG, .ref bB, .ref bX])), (bH, .inl (cI, 34, .inl hM)), (bL, .inl (cI, 34, .inl lM)), (bO, .inl (cI, 4, .inl oM)), (bK, .inl (cI, 4, .inl kM)), (bZ, .inl (cZ, 4, .inl zM))] H → va_D A [(y, .inr (2, [.int thr, .ref bH, .ref bS, .ref bL, .int mel, .ref bO, .ref bK, .ref bZ, .int sea, .int rnd, .int bas, .int lim, .ref bR, .ref bG, .ref bB, .ref bX])), (bH, .inl (cI, 34, .inl hM)), (bL, .inl (cI, 34, .inl lM)), (bO, .inl (cI, 4, .inl oM)), (bK, .inl (cI, 4, .inl kM)), (bZ, .inl (cZ, 4, .inl zM))] → va_S A s.heap H locs → lv_has ls 6 [(0, .ref y), (1, .int p0), (2, .int p1), (3, .int p2)] → W p l e ({ frames := 3, cells := 0, slots := 0, locals := 60 } : Room) s m ([.ref y, .int p0, .int p1, .int p2] : List Value).toArray below meth c H locs 0 0 Q9 (F0 m 44 ls []) := by
    intro thr mel hM lM oM kM zM H locs ls hw hP hD hS hl
    refine lv_iload_n hx hb dX2_meld_44 rfl (lv_at hl 1 rfl) ?_
    refine lv_if_ne (tgt := 87) hx hb dX2_meld_45 (by decide) (fun c8 => ?_) (fun c8 => ?_)
    · have hw := hw.2 c8
      refine lv_aload_n hx hb dX2_meld_87 rfl (lv_at hl 0 rfl) ?_
      refine va_get (D := (dC, dI)) (ci := 2) (v := .ref bH) (C := RX2) (T := TX2) (N := 16) hx hb hts hinX2 hown hK hP 0 rfl rfl 1 (by decide) (hts (.fieldLink RX2 9 "TileHandModel" "hand" "[I") (by decide +kernel)) (fun _ h9 => h9) rfl dX2_meld_88 ?_
      refine lv_iload_n hx hb dX2_meld_91 rfl (lv_at hl 2 rfl) ?_
      obtain ⟨h9, hw⟩ := hw
      refine va_iald hx hb hK hP 1 0 rfl rfl h9 dX2_meld_92 ?_
      refine lv_iload_n hx hb dX2_meld_93 rfl (lv_at hl 1 rfl) ?_
      refine lv_iconst (v := 2) hx hb dX2_meld_94 (by decide) ?_
      refine lv_iadd hx hb dX2_meld_95 ?_
      refine lv_icmp_lt (tgt := 103) hx hb dX2_meld_96 (by decide) (fun c10 => ?_) (fun c10 => ?_)
      · have hw := hw.1 c10
        refine lv_iconst (v := 0) hx hb dX2_meld_103 (by decide) ?_
        exact L104 (0 : Int32) thr mel hM lM oM kM zM _ _ _ hw hP hD hS (lv_sub hl [0, 1, 2, 3] rfl)
      · have hw := hw.2 c10
        refine lv_iconst (v := 1) hx hb dX2_meld_99 (by decide) ?_
        refine lv_goto (tgt := 104) hx hb dX2_meld_100 (by decide) ?_
        exact L104 (1 : Int32) thr mel hM lM oM kM zM _ _ _ hw hP hD hS (lv_sub hl [0, 1, 2, 3] rfl)
    · have hw := hw.1 c8
      refine lv_aload_n hx hb dX2_meld_48 rfl (lv_at hl 0 rfl) ?_
      refine va_get (D := (dC, dI)) (ci := 2) (v := .ref bH) (C := RX2) (T := TX2) (N := 16) hx hb hts hinX2 hown hK hP 0 rfl rfl 1 (by decide) (hts (.fieldLink RX2 9 "TileHandModel" "hand" "[I") (by decide +kernel)) (fun _ h9 => h9) rfl dX2_meld_49 ?_
      refine lv_iload_n hx hb dX2_meld_52 rfl (lv_at hl 2 rfl) ?_
      obtain ⟨h25, hw⟩ := hw
      refine va_iald hx hb hK hP 1 0 rfl rfl h25 dX2_meld_53 ?_
      refine lv_if_le (tgt := 83) hx hb dX2_meld_54 (by decide) (fun c26 => ?_) (fun c26 => ?_)
      · have hw := hw.1 c26
        exact L83 thr mel hM lM oM kM zM _ _ _ hw hP hD hS (lv_sub hl [0, 1, 2, 3] rfl)
      · have hw := hw.2 c26
        refine lv_aload_n hx hb dX2_meld_57 rfl (lv_at hl 0 rfl) ?_
        refine va_get (D := (dC, dI)) (ci := 2) (v := .ref bH) (C := RX2) (T := TX2) (N := 16) hx hb hts hinX2 hown hK hP 0 rfl rfl 1 (by decide) (hts (.fieldLink RX2 9 "TileHandModel" "hand" "[I") (by decide +kernel)) (fun _ h9 => h9) rfl dX2_meld_58 ?_
        refine lv_iload_n hx hb dX2_meld_61 rfl (lv_at hl 2 rfl) ?_
        refine lv_iconst (v := 1) hx hb dX2_meld_62 (by decide) ?_
        refine lv_iadd hx hb dX2_meld_63 ?_
        obtain ⟨h27, hw⟩ := hw
        refine va_iald hx hb hK hP 1 0 rfl rfl h27 dX2_meld_64 ?_
        refine lv_if_le (tgt := 83) hx hb dX2_meld_65 (by decide) (fun c28 => ?_) (fun c28 => ?_)
        · have hw := hw.1 c28
          exact L83 thr mel hM lM oM kM zM _ _ _ hw hP hD hS (lv_sub hl [0, 1, 2, 3] rfl)
        · have hw := hw.2 c28
          refine lv_aload_n hx hb dX2_meld_68 rfl (lv_at hl 0 rfl) ?_
          refine va_get (D := (dC, dI)) (ci := 2) (v := .ref bH) (C := RX2) (T := TX2) (N := 16) hx hb hts hinX2 hown hK hP 0 rfl rfl 1 (by decide) (hts (.fieldLink RX2 9 "TileHandModel" "hand" "[I") (by decide +kernel)) (fun _ h9 => h9) rfl dX2_meld_69 ?_
          refine lv_iload_n hx hb dX2_meld_72 rfl (lv_at hl 2 rfl) ?_
          refine lv_iconst (v := 2) hx hb dX2_meld_73 (by decide) ?_
          refine lv_iadd hx hb dX2_meld_74 ?_
          obtain ⟨h29, hw⟩ := hw
          refine va_iald hx hb hK hP 1 0 rfl rfl h29 dX2_meld_75 ?_
          refine lv_if_le (tgt := 83) hx hb dX2_meld_76 (by decide) (fun c30 => ?_) (fun c30 => ?_)
          · have hw := hw.1 c30
            exact L83 thr mel hM lM oM kM zM _ _ _ hw hP hD hS (lv_sub hl [0, 1, 2, 3] rfl)
          · have hw := hw.2 c30
            refine lv_iconst (v := 1) hx hb dX2_meld_79 (by decide) ?_
            refine lv_goto (tgt := 104) hx hb dX2_meld_80 (by decide) ?_
            exact L104 (1 : Int32) thr mel hM lM oM kM zM _ _ _ hw hP hD hS (lv_sub hl [0, 1, 2, 3] rfl)
  refine lv_aload_n hx hb dX2_meld_0 rfl (lv_at hl 0 rfl) ?_
  refine lv_iconst (v := 0) hx hb dX2_meld_1 (by decide) ?_
  refine va_put (D := (dC, dI)) (ci := 2) (v := .int (0 : Int32)) (ty := .int) (C := RX2) (T := TX2) (N := 16) hx hb hts hinX2 tyX2 tyX2_ok nmX2 hown hK hP hD hS 0 rfl rfl 0 (by decide) (hts (.fieldLink RX2 54 "TileHandModel" "thrown" "I") (by decide +kernel)) (fun _ h9 => h9) rfl (by decide +kernel) rfl rfl (Nat.le_of_ble_eq_true rfl) dX2_meld_2 (fun H locs hP hD hS => ?_)
  have hP : va_P (dC, dI) vwCl [(y, .inr (2, [.int (0 : Int32), .ref bH, .ref bS, .ref bL, .int mel, .ref bO, .ref bK, .ref bZ, .int sea, .int rnd, .int bas, .int lim, .ref bR, .ref bG, .ref bB, .ref bX])), (bH, .inl (cI, 34, .inl hM)), (bL, .inl (cI, 34, .inl lM)), (bO, .inl (cI, 4, .inl oM)), (bK, .inl (cI, 4, .inl kM)), (bZ, .inl (cZ, 4, .inl zM))] H := hP
  have hD : va_D A [(y, .inr (2, [.int (0 : Int32), .ref bH, .ref bS, .ref bL, .int mel, .ref bO, .ref bK, .ref bZ, .int sea, .int rnd, .int bas, .int lim, .ref bR, .ref bG, .ref bB, .ref bX])), (bH, .inl (cI, 34, .inl hM)), (bL, .inl (cI, 34, .inl lM)), (bO, .inl (cI, 4, .inl oM)), (bK, .inl (cI, 4, .inl kM)), (bZ, .inl (cZ, 4, .inl zM))] := hD
  refine lv_iload_n hx hb dX2_meld_5 rfl (lv_at hl 2 rfl) ?_
  have hPc := hP.sub (ws' := []) [] rfl
  have hDc := hD.sub (ws' := []) [] (by decide) rfl
  have hFc := va_free (wc := []) hD hS hA [] rfl
  refine va_calli (va_runS (As := [.int p1]) (rest := []) ⟨hx, hb, hml, hown, hts⟩ (c_X2_isKind l dC dI cI cZ H.size p1 _ hw) (va_cwS 1 hts gX2_meld_X2_isKind rfl rfl rfl (by decide +kernel) ⟨Nat.le_of_ble_eq_true rfl, Nat.le_of_ble_eq_true rfl⟩) ⟨fun a U g mk q => by obtain ⟨q0, q1, qP, qK, qD⟩ := q; exact ⟨q0, q1, qP, va_K.moved (u := U) (U := U.calling g mk a) (Vm.Alike.refl U.vm) qK, qD⟩, fun U hU hW => ⟨rfl, by rw [hU], by rw [hU]; exact hPc, va_K.moved hW.alike hK, hDc.weaken (fun _ _ _ _ => trivial)⟩⟩ rfl rfl hl.1 rfl (lv_room (Nat.le_of_ble_eq_true rfl)) dX2_meld_6 ⟨Nat.le_of_ble_eq_true rfl, Nat.le_of_ble_eq_true rfl⟩) hS (fun q _ h => hFc q h) hFc (fun r1 u t H1 locs ht hvm hw hB hz1 hk1 hS => ?_)
  obtain ⟨hP1, -, hD1⟩ := hB
  have hw := And.intro hw trivial
  try dsimp only at hw
  have hw := hw.1
  rw [ht] at hP1
  obtain ⟨hP, hD⟩ := va_join (wr := [(y, .inr (2, [.int (0 : Int32), .ref bH, .ref bS, .ref bL, .int mel, .ref bO, .ref bK, .ref bZ, .int sea, .int rnd, .int bas, .int lim, .ref bR, .ref bG, .ref bB, .ref bX])), (bH, .inl (cI, 34, .inl hM)), (bL, .inl (cI, 34, .inl lM)), (bO, .inl (cI, 4, .inl oM)), (bK, .inl (cI, 4, .inl kM)), (bZ, .inl (cZ, 4, .inl zM))]) (w1 := []) hP hD [] [0, 1, 2, 3, 4, 5] rfl rfl (by decide) (by decide) hk1 hFc hP1 hD1
  generalize H1 = H at hP hS ⊢
  have hP : va_P (dC, dI) vwCl [(y, .inr (2, [.int (0 : Int32), .ref bH, .ref bS, .ref bL, .int mel, .ref bO, .ref bK, .ref bZ, .int sea, .int rnd, .int bas, .int lim, .ref bR, .ref bG, .ref bB, .ref bX])), (bH, .inl (cI, 34, .inl hM)), (bL, .inl (cI, 34, .inl lM)), (bO, .inl (cI, 4, .inl oM)), (bK, .inl (cI, 4, .inl kM)), (bZ, .inl (cZ, 4, .inl zM))] H := hP
  have hD : va_D A [(y, .inr (2, [.int (0 : Int32), .ref bH, .ref bS, .ref bL, .int mel, .ref bO, .ref bK, .ref bZ, .int sea, .int rnd, .int bas, .int lim, .ref bR, .ref bG, .ref bB, .ref bX])), (bH, .inl (cI, 34, .inl hM)), (bL, .inl (cI, 34, .inl lM)), (bO, .inl (cI, 4, .inl oM)), (bK, .inl (cI, 4, .inl kM)), (bZ, .inl (cZ, 4, .inl zM))] := hD
  refine lv_if_ne (tgt := 18) hx hb dX2_meld_9 (by decide) (fun c2 => ?_) (fun c2 => ?_)
  · have hw := hw.2 c2
    refine lv_iload_n hx hb dX2_meld_18 rfl (lv_at hl 1 rfl) ?_
    refine lv_iconst (v := 0) hx hb dX2_meld_19 (by decide) ?_
    refine lv_iconst (v := 2) hx hb dX2_meld_20 (by decide) ?_
    have hPc := hP.sub (ws' := []) [] rfl
    have hDc := hD.sub (ws' := []) [] (by decide) rfl
    have hFc := va_free (wc := []) hD hS hA [] rfl
    refine va_calli (va_runS (As := [.int p0, .int (0 : Int32), .int (2 : Int32)]) (rest := []) ⟨hx, hb, hml, hown, hts⟩ (c_X2_isIn l dC dI cI cZ H.size p0 (0 : Int32) (2 : Int32) _ hw) (va_cwS 3 hts gX2_meld_X2_isIn rfl rfl rfl (by decide +kernel) ⟨Nat.le_of_ble_eq_true rfl, Nat.le_of_ble_eq_true rfl⟩) ⟨fun a U g mk q => by obtain ⟨q0, q1, qP, qK, qD⟩ := q; exact ⟨q0, q1, qP, va_K.moved (u := U) (U := U.calling g mk a) (Vm.Alike.refl U.vm) qK, qD⟩, fun U hU hW => ⟨rfl, by rw [hU], by rw [hU]; exact hPc, va_K.moved hW.alike hK, hDc.weaken (fun _ _ _ _ => trivial)⟩⟩ rfl rfl hl.1 rfl (lv_room (Nat.le_of_ble_eq_true rfl)) dX2_meld_21 ⟨Nat.le_of_ble_eq_true rfl, Nat.le_of_ble_eq_true rfl⟩) hS (fun q _ h => hFc q h) hFc (fun r3 u t H1 locs ht hvm hw hB hz1 hk1 hS => ?_)
    obtain ⟨hP1, -, hD1⟩ := hB
    have hw := And.intro hw trivial
    try dsimp only at hw
    have hw := hw.1
    rw [ht] at hP1
    obtain ⟨hP, hD⟩ := va_join (wr := [(y, .inr (2, [.int (0 : Int32), .ref bH, .ref bS, .ref bL, .int mel, .ref bO, .ref bK, .ref bZ, .int sea, .int rnd, .int bas, .int lim, .ref bR, .ref bG, .ref bB, .ref bX])), (bH, .inl (cI, 34, .inl hM)), (bL, .inl (cI, 34, .inl lM)), (bO, .inl (cI, 4, .inl oM)), (bK, .inl (cI, 4, .inl kM)), (bZ, .inl (cZ, 4, .inl zM))]) (w1 := []) hP hD [] [0, 1, 2, 3, 4, 5] rfl rfl (by decide) (by decide) hk1 hFc hP1 hD1
    generalize H1 = H at hP hS ⊢
    have hP : va_P (dC, dI) vwCl [(y, .inr (2, [.int (0 : Int32), .ref bH, .ref bS, .ref bL, .int mel, .ref bO, .ref bK, .ref bZ, .int sea, .int rnd, .int bas, .int lim, .ref bR, .ref bG, .ref bB, .ref bX])), (bH, .inl (cI, 34, .inl hM)), (bL, .inl (cI, 34, .inl lM)), (bO, .inl (cI, 4, .inl oM)), (bK, .inl (cI, 4, .inl kM)), (bZ, .inl (cZ, 4, .inl zM))] H := hP
    have hD : va_D A [(y, .inr (2, [.int (0 : Int32), .ref bH, .ref bS, .ref bL, .int mel, .ref bO, .ref bK, .ref bZ, .int sea, .int rnd, .int bas, .int lim, .ref bR, .ref bG, .ref bB, .ref bX])), (bH, .inl (cI, 34, .inl hM)), (bL, .inl (cI, 34, .inl lM)), (bO, .inl (cI, 4, .inl oM)), (bK, .inl (cI, 4, .inl kM)), (bZ, .inl (cZ, 4, .inl zM))] := hD
    refine lv_if_eq (tgt := 38) hx hb dX2_meld_24 (by decide) (fun c4 => ?_) (fun c4 => ?_)
    · have hw := hw.1 c4
      exact L38 (0 : Int32) mel hM lM oM kM zM _ _ _ hw hP hD hS (lv_sub hl [0] rfl)
    · have hw := hw.2 c4
      refine lv_iload_n hx hb dX2_meld_27 rfl (lv_at hl 1 rfl) ?_
      refine lv_if_ne (tgt := 44) hx hb dX2_meld_28 (by decide) (fun c7 => ?_) (fun c7 => ?_)
      · have hw := hw.2 c7
        exact L44 (0 : Int32) mel hM lM oM kM zM _ _ _ hw hP hD hS (lv_sub hl [0, 1, 2, 3] rfl)
      · have hw := hw.1 c7
        refine lv_iload_n hx hb dX2_meld_31 rfl (lv_at hl 2 rfl) ?_
        have hPc := hP.sub (ws' := []) [] rfl
        have hDc := hD.sub (ws' := []) [] (by decide) rfl
        have hFc := va_free (wc := []) hD hS hA [] rfl
        refine va_calli (va_runS (As := [.int p1]) (rest := []) ⟨hx, hb, hml, hown, hts⟩ (c_X2_beginsRow l dC dI cI cZ H.size p1 _ hw) (va_cwS 1 hts gX2_meld_X2_beginsRow rfl rfl rfl (by decide +kernel) ⟨Nat.le_of_ble_eq_true rfl, Nat.le_of_ble_eq_true rfl⟩) ⟨fun a U g mk q => by obtain ⟨q0, q1, qP, qK, qD⟩ := q; exact ⟨q0, q1, qP, va_K.moved (u := U) (U := U.calling g mk a) (Vm.Alike.refl U.vm) qK, qD⟩, fun U hU hW => ⟨rfl, by rw [hU], by rw [hU]; exact hPc, va_K.moved hW.alike hK, hDc.weaken (fun _ _ _ _ => trivial)⟩⟩ rfl rfl hl.1 rfl (lv_room (Nat.le_of_ble_eq_true rfl)) dX2_meld_32 ⟨Nat.le_of_ble_eq_true rfl, Nat.le_of_ble_eq_true rfl⟩) hS (fun q _ h => hFc q h) hFc (fun r31 u t H1 locs ht hvm hw hB hz1 hk1 hS => ?_)
        obtain ⟨hP1, -, hD1⟩ := hB
        have hw := And.intro hw trivial
        try dsimp only at hw
        have hw := hw.1
        rw [ht] at hP1
        obtain ⟨hP, hD⟩ := va_join (wr := [(y, .inr (2, [.int (0 : Int32), .ref bH, .ref bS, .ref bL, .int mel, .ref bO, .ref bK, .ref bZ, .int sea, .int rnd, .int bas, .int lim, .ref bR, .ref bG, .ref bB, .ref bX])), (bH, .inl (cI, 34, .inl hM)), (bL, .inl (cI, 34, .inl lM)), (bO, .inl (cI, 4, .inl oM)), (bK, .inl (cI, 4, .inl kM)), (bZ, .inl (cZ, 4, .inl zM))]) (w1 := []) hP hD [] [0, 1, 2, 3, 4, 5] rfl rfl (by decide) (by decide) hk1 hFc hP1 hD1
        generalize H1 = H at hP hS ⊢
        have hP : va_P (dC, dI) vwCl [(y, .inr (2, [.int (0 : Int32), .ref bH, .ref bS, .ref bL, .int mel, .ref bO, .ref bK, .ref bZ, .int sea, .int rnd, .int bas, .int lim, .ref bR, .ref bG, .ref bB, .ref bX])), (bH, .inl (cI, 34, .inl hM)), (bL, .inl (cI, 34, .inl lM)), (bO, .inl (cI, 4, .inl oM)), (bK, .inl (cI, 4, .inl kM)), (bZ, .inl (cZ, 4, .inl zM))] H := hP
        have hD : va_D A [(y, .inr (2, [.int (0 : Int32), .ref bH, .ref bS, .ref bL, .int mel, .ref bO, .ref bK, .ref bZ, .int sea, .int rnd, .int bas, .int lim, .ref bR, .ref bG, .ref bB, .ref bX])), (bH, .inl (cI, 34, .inl hM)), (bL, .inl (cI, 34, .inl lM)), (bO, .inl (cI, 4, .inl oM)), (bK, .inl (cI, 4, .inl kM)), (bZ, .inl (cZ, 4, .inl zM))] := hD
        refine lv_if_ne (tgt := 44) hx hb dX2_meld_35 (by decide) (fun c32 => ?_) (fun c32 => ?_)
        · have hw := hw.2 c32
          exact L44 (0 : Int32) mel hM lM oM kM zM _ _ _ hw hP hD hS (lv_sub hl [0, 1, 2, 3] rfl)
        · have hw := hw.1 c32
          exact L38 (0 : Int32) mel hM lM oM kM zM _ _ _ hw hP hD hS (lv_sub hl [0] rfl)
  · have hw := hw.1 c2
    refine lv_aload_n hx hb dX2_meld_12 rfl (lv_at hl 0 rfl) ?_
    refine lv_iconst (v := 1) hx hb dX2_meld_13 (by decide) ?_
    have hPc := hP.sub (ws' := [(y, .inr (2, [.int (0 : Int32), .ref bH, .ref bS, .ref bL, .int mel, .ref bO, .ref bK, .ref bZ, .int sea, .int rnd, .int bas, .int lim, .ref bR, .ref bG, .ref bB, .ref bX]))]) [0] rfl
    have hDc := hD.sub (ws' := [(y, .inr (2, [.int (0 : Int32), .ref bH, .ref bS, .ref bL, .int mel, .ref bO, .ref bK, .ref bZ, .int sea, .int rnd, .int bas, .int lim, .ref bR, .ref bG, .ref bB, .ref bX]))]) [0] (by decide) rfl
    have hFc := va_free (wc := [(y, .inr (2, [.int (0 : Int32), .ref bH, .ref bS, .ref bL, .int mel, .ref bO, .ref bK, .ref bZ, .int sea, .int rnd, .int bas, .int lim, .ref bR, .ref bG, .ref bB, .ref bX]))]) hD hS hA [0] rfl
    refine va_calli (va_runV (As := [.int (1 : Int32)]) (rest := []) ⟨hx, hb, hml, hown, hts⟩ (c_X2_fail l dC dI cI cZ y bH bS bL bO bK bZ bR bG bB bX H.size (0 : Int32) mel sea rnd bas lim (1 : Int32) _ hw) (cwV 1 hts gX2_meld_X2_fail rfl rfl rfl (by decide +kernel) ⟨Nat.le_of_ble_eq_true rfl, Nat.le_of_ble_eq_true rfl⟩) ⟨fun a U g mk q => by obtain ⟨q0, q1, qP, qK, qD⟩ := q; exact ⟨q0, q1, qP, va_K.moved (u := U) (U := U.calling g mk a) (Vm.Alike.refl U.vm) qK, qD⟩, va_recv hK hPc (ci := 2) (q0 := 0) rfl rfl, fun U hU hW => ⟨rfl, by rw [hU], by rw [hU]; exact hPc, va_K.moved hW.alike hK, hDc.weaken (fun _ _ _ _ => trivial)⟩⟩ rfl rfl hl.1 rfl (lv_room (Nat.le_of_ble_eq_true rfl)) dX2_meld_14 ⟨Nat.le_of_ble_eq_true rfl, Nat.le_of_ble_eq_true rfl⟩) hS (fun q _ h => hFc q h) hFc (fun r33 u t H1 locs ht hvm hw hB hz1 hk1 hS => ?_)
    obtain ⟨thr_34, rfl⟩ : ∃ z, z = u := ⟨_, rfl⟩
    obtain ⟨hP1, -, hD1⟩ := hB
    have hw := And.intro hw trivial
    try dsimp only at hw
    have hw := hw.1
    rw [ht] at hP1
    obtain ⟨hP, hD⟩ := va_join (wr := [(bH, .inl (cI, 34, .inl hM)), (bL, .inl (cI, 34, .inl lM)), (bO, .inl (cI, 4, .inl oM)), (bK, .inl (cI, 4, .inl kM)), (bZ, .inl (cZ, 4, .inl zM))]) (w1 := [(y, .inr (2, [.int thr_34, .ref bH, .ref bS, .ref bL, .int mel, .ref bO, .ref bK, .ref bZ, .int sea, .int rnd, .int bas, .int lim, .ref bR, .ref bG, .ref bB, .ref bX]))]) hP hD [0] [1, 2, 3, 4, 5] rfl rfl (by decide) (by decide) hk1 hFc hP1 hD1
    generalize H1 = H at hP hS ⊢
    have hP : va_P (dC, dI) vwCl [(bH, .inl (cI, 34, .inl hM)), (bL, .inl (cI, 34, .inl lM)), (bO, .inl (cI, 4, .inl oM)), (bK, .inl (cI, 4, .inl kM)), (bZ, .inl (cZ, 4, .inl zM)), (y, .inr (2, [.int thr_34, .ref bH, .ref bS, .ref bL, .int mel, .ref bO, .ref bK, .ref bZ, .int sea, .int rnd, .int bas, .int lim, .ref bR, .ref bG, .ref bB, .ref bX]))] H := hP
    have hD : va_D A [(bH, .inl (cI, 34, .inl hM)), (bL, .inl (cI, 34, .inl lM)), (bO, .inl (cI, 4, .inl oM)), (bK, .inl (cI, 4, .inl kM)), (bZ, .inl (cZ, 4, .inl zM)), (y, .inr (2, [.int thr_34, .ref bH, .ref bS, .ref bL, .int mel, .ref bO, .ref bK, .ref bZ, .int sea, .int rnd, .int bas, .int lim, .ref bR, .ref bG, .ref bB, .ref bX]))] := hD
    have hP9 := hP.sub (ws' := [(y, .inr (2, [.int thr_34, .ref bH, .ref bS, .ref bL, .int mel, .ref bO, .ref bK, .ref bZ, .int sea, .int rnd, .int bas, .int lim, .ref bR, .ref bG, .ref bB, .ref bX])), (bH, .inl (cI, 34, .inl hM)), (bL, .inl (cI, 34, .inl lM)), (bO, .inl (cI, 4, .inl oM)), (bK, .inl (cI, 4, .inl kM)), (bZ, .inl (cZ, 4, .inl zM))]) [5, 0, 1, 2, 3, 4] rfl
    have hD9 := hD.sub (ws' := [(y, .inr (2, [.int thr_34, .ref bH, .ref bS, .ref bL, .int mel, .ref bO, .ref bK, .ref bZ, .int sea, .int rnd, .int bas, .int lim, .ref bR, .ref bG, .ref bB, .ref bX])), (bH, .inl (cI, 34, .inl hM)), (bL, .inl (cI, 34, .inl lM)), (bO, .inl (cI, 4, .inl oM)), (bK, .inl (cI, 4, .inl kM)), (bZ, .inl (cZ, 4, .inl zM))]) [5, 0, 1, 2, 3, 4] (by decide) rfl
    rw [← hQ9]
    exact W.iret (v := r33) hx hb hr (fun t ht hW => ⟨⟨r33, (thr_34, mel, hM, lM, oM, kM, zM), rfl, hw, by rw [ht]; exact hP9, va_K.moved hW.alike hK, hD9⟩, hS.F ht⟩) hS.2.2 dX2_meld_17
