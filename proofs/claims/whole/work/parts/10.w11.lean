def w_X2_lay (hM : (Nat → Int32)) (lM : (Nat → Int32)) (p0 : Int32) (p1 : Int32) (post : (Nat → Int32) → (Nat → Int32) → Prop) : Prop := vp_in p0 34 ∧ (vp_in p0 34 ∧ (vp_in p0 34 ∧ (vp_in p0 34 ∧ (post (upd hM p0.toNatClampNeg ((hM p0.toNatClampNeg) - p1)) (upd lM p0.toNatClampNeg ((lM p0.toNatClampNeg) + p1))))))

set_option maxHeartbeats 4000000 in
set_option maxRecDepth 100000 in
theorem c_X2_lay (l : Launch) (dC : Nat → ClassId) (dI : Nat → Nat → Nat) (cI cZ : ClassId) (y : Nat) (bH : Nat) (bS : Nat) (bL : Nat) (bO : Nat) (bK : Nat) (bZ : Nat) (bR : Nat) (bG : Nat) (bB : Nat) (bX : Nat) (sz : Nat) (thr : Int32) (mel : Int32) (sea : Int32) (rnd : Int32) (bas : Int32) (lim : Int32) (hM : (Nat → Int32)) (lM : (Nat → Int32)) (p0 : Int32) (p1 : Int32) (post : (Nat → Int32) → (Nat → Int32) → Prop) (hw : w_X2_lay hM lM p0 p1 post) : Met l yX2_lay wsX2_lay ({ frames := 0, cells := 0, slots := 0, locals := 0 } : Room) (va_Pc [.ref y, .int p0, .int p1] (fun U => U.heap.size = sz ∧ va_P (dC, dI) vwCl [(y, .inr (2, [.int thr, .ref bH, .ref bS, .ref bL, .int mel, .ref bO, .ref bK, .ref bZ, .int sea, .int rnd, .int bas, .int lim, .ref bR, .ref bG, .ref bB, .ref bX])), (bH, .inl (cI, 34, .inl hM)), (bL, .inl (cI, 34, .inl lM))] U.heap ∧ va_K (dC, dI) vwCl [(cI, .int), (cZ, .boolean)] U ∧ va_D (fun _ => True) [(y, .inr (2, [.int thr, .ref bH, .ref bS, .ref bL, .int mel, .ref bO, .ref bK, .ref bZ, .int sea, .int rnd, .int bas, .int lim, .ref bR, .ref bG, .ref bB, .ref bX])), (bH, .inl (cI, 34, .inl hM)), (bL, .inl (cI, 34, .inl lM))])) (va_Qv (fun (u9 : (Nat → Int32) × (Nat → Int32)) => post u9.1 u9.2) (fun (u9 : (Nat → Int32) × (Nat → Int32)) (t9 : State) => va_P (dC, dI) vwCl [(y, .inr (2, [.int thr, .ref bH, .ref bS, .ref bL, .int mel, .ref bO, .ref bK, .ref bZ, .int sea, .int rnd, .int bas, .int lim, .ref bR, .ref bG, .ref bB, .ref bX])), (bH, .inl (cI, 34, .inl u9.1)), (bL, .inl (cI, 34, .inl u9.2))] t9.heap ∧ va_K (dC, dI) vwCl [(cI, .int), (cZ, .boolean)] t9 ∧ va_D (va_A [(y, .inr (2, [.int thr, .ref bH, .ref bS, .ref bL, .int mel, .ref bO, .ref bK, .ref bZ, .int sea, .int rnd, .int bas, .int lim, .ref bR, .ref bG, .ref bB, .ref bX])), (bH, .inl (cI, 34, .inl hM)), (bL, .inl (cI, 34, .inl lM))] sz) [(y, .inr (2, [.int thr, .ref bH, .ref bS, .ref bL, .int mel, .ref bO, .ref bK, .ref bZ, .int sea, .int rnd, .int bas, .int lim, .ref bR, .ref bG, .ref bB, .ref bX])), (bH, .inl (cI, 34, .inl u9.1)), (bL, .inl (cI, 34, .inl u9.2))]) (va_A [(y, .inr (2, [.int thr, .ref bH, .ref bS, .ref bL, .int mel, .ref bO, .ref bK, .ref bZ, .int sea, .int rnd, .int bas, .int lim, .ref bR, .ref bG, .ref bB, .ref bX])), (bH, .inl (cI, 34, .inl hM)), (bL, .inl (cI, 34, .inl lM))] sz)) 0 0 (va_A [(y, .inr (2, [.int thr, .ref bH, .ref bS, .ref bL, .int mel, .ref bO, .ref bK, .ref bZ, .int sea, .int rnd, .int bas, .int lim, .ref bR, .ref bG, .ref bB, .ref bX])), (bH, .inl (cI, 34, .inl hM)), (bL, .inl (cI, 34, .inl lM))] sz) := by
  refine Met.ofW (cc := cX2_lay) (maxL := 3) (ret := none) (by decide) rfl ?_
  intro p e s m args below meth c s₁ B hml hv
  obtain ⟨rfl, hsz, hP, hK, hD0⟩ := hv
  have hx := B.exec
  have hb := B.bytes
  have hr := B.returns
  have hts := atoms_spec (ws := wsX2_lay) B.pre
  have hown : s.vm.findClass RX2 = some m.cls := findClass_of_methodNamed B.named
  have hlocks := B.notSynchronized
  have hinX2 : ∀ w ∈ u_ws RX2 TX2 16, w ∈ wsX2_lay := by decide +kernel
  subst hsz
  have hD := hD0.self (sz := s.heap.size)
  generalize hAe : va_A [(y, .inr (2, [.int thr, .ref bH, .ref bS, .ref bL, .int mel, .ref bO, .ref bK, .ref bZ, .int sea, .int rnd, .int bas, .int lim, .ref bR, .ref bG, .ref bB, .ref bX])), (bH, .inl (cI, 34, .inl hM)), (bL, .inl (cI, 34, .inl lM))] s.heap.size = A at hD ⊢
  have hA : ∀ q : Nat, s.heap.size ≤ q → A q := fun q h => by rw [← hAe]; exact Or.inr h
  have hS : va_S A s.heap s.heap [] := va_S.rf
  have hl := lv_entry ([.ref y, .int p0, .int p1]) (n := 3) (Nat.le_of_ble_eq_true rfl)
  rw [lg_entry_eq]
  generalize (lg_sl ([.ref y, .int p0, .int p1]) ++ List.replicate (3 - (lg_sl ([.ref y, .int p0, .int p1])).length) Slot.unset).toArray = ls at hl ⊢
  have hl : lv_has ls 3 [(0, .ref y), (1, .int p0), (2, .int p1)] := hl
  refine (?_ : ∀ Q9 : State → Prop, MQ below _ _ s _ _ _ = Q9 → W p l e ({ frames := 0, cells := 0, slots := 0, locals := 0 } : Room) s m _ below meth c s.heap [] 0 0 Q9 (F0 m 0 ls [])) _ rfl
  intro Q9 hQ9
  have hw : vp_in p0 34 ∧ (vp_in p0 34 ∧ (vp_in p0 34 ∧ (vp_in p0 34 ∧ (post (upd hM p0.toNatClampNeg ((hM p0.toNatClampNeg) - p1)) (upd lM p0.toNatClampNeg ((lM p0.toNatClampNeg) + p1)))))) := hw
  refine lv_aload_n hx hb dX2_lay_0 rfl (lv_at hl 0 rfl) ?_
  refine va_get (D := (dC, dI)) (ci := 2) (v := .ref bH) (C := RX2) (T := TX2) (N := 16) hx hb hts hinX2 hown hK hP 0 rfl rfl 1 (by decide) (hts (.fieldLink RX2 9 "TileHandModel" "hand" "[I") (by decide +kernel)) (fun _ h9 => h9) rfl dX2_lay_1 ?_
  refine lv_iload_n hx hb dX2_lay_4 rfl (lv_at hl 1 rfl) ?_
  refine lv_dup2_11 hx hb dX2_lay_5 rfl rfl ?_
  obtain ⟨h1, hw⟩ := hw
  refine va_iald hx hb hK hP 1 0 rfl rfl h1 dX2_lay_6 ?_
  refine lv_iload_n hx hb dX2_lay_7 rfl (lv_at hl 2 rfl) ?_
  refine lv_isub hx hb dX2_lay_8 ?_
  obtain ⟨h2, hw⟩ := hw
  refine va_iast hx hb hK hP hD hS 1 0 rfl rfl h2 dX2_lay_9 (fun H locs hP hD hS => ?_)
  have hP : va_P (dC, dI) vwCl [(y, .inr (2, [.int thr, .ref bH, .ref bS, .ref bL, .int mel, .ref bO, .ref bK, .ref bZ, .int sea, .int rnd, .int bas, .int lim, .ref bR, .ref bG, .ref bB, .ref bX])), (bH, .inl (cI, 34, .inl (upd hM p0.toNatClampNeg ((hM p0.toNatClampNeg) - p1)))), (bL, .inl (cI, 34, .inl lM))] H := hP
  have hD : va_D A [(y, .inr (2, [.int thr, .ref bH, .ref bS, .ref bL, .int mel, .ref bO, .ref bK, .ref bZ, .int sea, .int rnd, .int bas, .int lim, .ref bR, .ref bG, .ref bB, .ref bX])), (bH, .inl (cI, 34, .inl (upd hM p0.toNatClampNeg ((hM p0.toNatClampNeg) - p1)))), (bL, .inl (cI, 34, .inl lM))] := hD
  refine lv_aload_n hx hb dX2_lay_10 rfl (lv_at hl 0 rfl) ?_
  refine va_get (D := (dC, dI)) (ci := 2) (v := .ref bL) (C := RX2) (T := TX2) (N := 16) hx hb hts hinX2 hown hK hP 0 rfl rfl 3 (by decide) (hts (.fieldLink RX2 16 "TileHandModel" "laid" "[I") (by decide +kernel)) (fun _ h9 => h9) rfl dX2_lay_11 ?_
  refine lv_iload_n hx hb dX2_lay_14 rfl (lv_at hl 1 rfl) ?_
  refine lv_dup2_11 hx hb dX2_lay_15 rfl rfl ?_
  obtain ⟨h3, hw⟩ := hw
  refine va_iald hx hb hK hP 2 0 rfl rfl h3 dX2_lay_16 ?_
  refine lv_iload_n hx hb dX2_lay_17 rfl (lv_at hl 2 rfl) ?_
  refine lv_iadd hx hb dX2_lay_18 ?_
  obtain ⟨h4, hw⟩ := hw
  refine va_iast hx hb hK hP hD hS 2 0 rfl rfl h4 dX2_lay_19 (fun H locs hP hD hS => ?_)
  have hP : va_P (dC, dI) vwCl [(y, .inr (2, [.int thr, .ref bH, .ref bS, .ref bL, .int mel, .ref bO, .ref bK, .ref bZ, .int sea, .int rnd, .int bas, .int lim, .ref bR, .ref bG, .ref bB, .ref bX])), (bH, .inl (cI, 34, .inl (upd hM p0.toNatClampNeg ((hM p0.toNatClampNeg) - p1)))), (bL, .inl (cI, 34, .inl (upd lM p0.toNatClampNeg ((lM p0.toNatClampNeg) + p1))))] H := hP
  have hD : va_D A [(y, .inr (2, [.int thr, .ref bH, .ref bS, .ref bL, .int mel, .ref bO, .ref bK, .ref bZ, .int sea, .int rnd, .int bas, .int lim, .ref bR, .ref bG, .ref bB, .ref bX])), (bH, .inl (cI, 34, .inl (upd hM p0.toNatClampNeg ((hM p0.toNatClampNeg) - p1)))), (bL, .inl (cI, 34, .inl (upd lM p0.toNatClampNeg ((lM p0.toNatClampNeg) + p1))))] := hD
  rw [← hQ9]
  exact W.vret hx hb hr (fun t ht hW => ⟨⟨(upd hM p0.toNatClampNeg ((hM p0.toNatClampNeg) - p1), upd lM p0.toNatClampNeg ((lM p0.toNatClampNeg) + p1)), rfl, hw, by rw [ht]; exact hP, va_K.moved hW.alike hK, hD⟩, hS.F ht⟩) hS.2.2 dX2_lay_20

def w_X2_meld_b38 (post : Int32 → Int32 → Int32 → (Nat → Int32) → (Nat → Int32) → (Nat → Int32) → (Nat → Int32) → (Nat → Int32) → Prop) (p0 : Int32) (p1 : Int32) (p2 : Int32) (thr : Int32) (mel : Int32) (hM : (Nat → Int32)) (lM : (Nat → Int32)) (oM : (Nat → Int32)) (kM : (Nat → Int32)) (zM : (Nat → Int32)) : Prop := w_X2_fail thr (2 : Int32) (fun r5 thr_6 => (post r5 thr_6 mel hM lM oM kM zM))

def w_X2_meld_b119 (post : Int32 → Int32 → Int32 → (Nat → Int32) → (Nat → Int32) → (Nat → Int32) → (Nat → Int32) → (Nat → Int32) → Prop) (p0 : Int32) (p1 : Int32) (p2 : Int32) (thr : Int32) (mel : Int32) (hM : (Nat → Int32)) (lM : (Nat → Int32)) (oM : (Nat → Int32)) (kM : (Nat → Int32)) (zM : (Nat → Int32)) : Prop := w_X2_fail thr (3 : Int32) (fun r12 thr_13 => (post r12 thr_13 mel hM lM oM kM zM))

def w_X2_meld_b164 (post : Int32 → Int32 → Int32 → (Nat → Int32) → (Nat → Int32) → (Nat → Int32) → (Nat → Int32) → (Nat → Int32) → Prop) (p0 : Int32) (p1 : Int32) (p2 : Int32) (thr : Int32) (mel : Int32) (hM : (Nat → Int32)) (lM : (Nat → Int32)) (oM : (Nat → Int32)) (kM : (Nat → Int32)) (zM : (Nat → Int32)) : Prop := vp_in mel 4 ∧ (vp_in mel 4 ∧ (vp_in mel 4 ∧ (w_X2_sizeOf (mel + (1 : Int32)) hM (fun r21 => (post r21 thr (mel + (1 : Int32)) hM lM (upd oM mel.toNatClampNeg p0) (upd kM mel.toNatClampNeg p1) (upd zM mel.toNatClampNeg (vp_nar .boolean p2)))))))

def w_X2_meld_b153 (post : Int32 → Int32 → Int32 → (Nat → Int32) → (Nat → Int32) → (Nat → Int32) → (Nat → Int32) → (Nat → Int32) → Prop) (p0 : Int32) (p1 : Int32) (p2 : Int32) (thr : Int32) (mel : Int32) (hM : (Nat → Int32)) (lM : (Nat → Int32)) (oM : (Nat → Int32)) (kM : (Nat → Int32)) (zM : (Nat → Int32)) : Prop := w_X2_meld_b164 post p0 p1 p2 thr mel hM lM oM kM zM

def w_X2_meld_b132 (post : Int32 → Int32 → Int32 → (Nat → Int32) → (Nat → Int32) → (Nat → Int32) → (Nat → Int32) → (Nat → Int32) → Prop) (p0 : Int32) (p1 : Int32) (p2 : Int32) : Nat → Int32 → Int32 → Int32 → (Nat → Int32) → (Nat → Int32) → (Nat → Int32) → (Nat → Int32) → (Nat → Int32) → Prop
  | 0, _, _, _, _, _, _, _, _ => False
  | n + 1, v5, thr, mel, hM, lM, oM, kM, zM => (((p1 + (3 : Int32)) ≤ v5 → (w_X2_meld_b153 post p0 p1 p2 thr mel hM lM oM kM zM)) ∧ (¬ (p1 + (3 : Int32)) ≤ v5 → (w_X2_lay hM lM v5 (1 : Int32) (fun hM_23 lM_24 => (w_X2_meld_b132 post p0 p1 p2 n (v5 + 1) thr mel hM_23 lM_24 oM kM zM)))))

def w_X2_meld_b104 (post : Int32 → Int32 → Int32 → (Nat → Int32) → (Nat → Int32) → (Nat → Int32) → (Nat → Int32) → (Nat → Int32) → Prop) (p0 : Int32) (p1 : Int32) (p2 : Int32) (s1 : Int32) (thr : Int32) (mel : Int32) (hM : (Nat → Int32)) (lM : (Nat → Int32)) (oM : (Nat → Int32)) (kM : (Nat → Int32)) (zM : (Nat → Int32)) : Prop := ((s1 = 0 → (w_X2_meld_b119 post p0 p1 p2 thr mel hM lM oM kM zM)) ∧ (¬ s1 = 0 → (((mel = (4 : Int32) → (w_X2_meld_b119 post p0 p1 p2 thr mel hM lM oM kM zM)) ∧ (¬ mel = (4 : Int32) → (((p0 = 0 → (∃ n9, w_X2_meld_b132 post p0 p1 p2 n9 p1 thr mel hM lM oM kM zM)) ∧ (¬ p0 = 0 → (w_X2_lay hM lM p1 (p0 + (2 : Int32)) (fun hM_16 lM_17 => (w_X2_meld_b164 post p0 p1 p2 thr mel hM_16 lM_17 oM kM zM)))))))))))

def w_X2_meld_b83 (post : Int32 → Int32 → Int32 → (Nat → Int32) → (Nat → Int32) → (Nat → Int32) → (Nat → Int32) → (Nat → Int32) → Prop) (p0 : Int32) (p1 : Int32) (p2 : Int32) (thr : Int32) (mel : Int32) (hM : (Nat → Int32)) (lM : (Nat → Int32)) (oM : (Nat → Int32)) (kM : (Nat → Int32)) (zM : (Nat → Int32)) : Prop := w_X2_meld_b104 post p0 p1 p2 (0 : Int32) thr mel hM lM oM kM zM

def w_X2_meld_b44 (post : Int32 → Int32 → Int32 → (Nat → Int32) → (Nat → Int32) → (Nat → Int32) → (Nat → Int32) → (Nat → Int32) → Prop) (p0 : Int32) (p1 : Int32) (p2 : Int32) (thr : Int32) (mel : Int32) (hM : (Nat → Int32)) (lM : (Nat → Int32)) (oM : (Nat → Int32)) (kM : (Nat → Int32)) (zM : (Nat → Int32)) : Prop := ((p0 = 0 → (vp_in p1 34 ∧ ((((hM p1.toNatClampNeg) ≤ 0 → (w_X2_meld_b83 post p0 p1 p2 thr mel hM lM oM kM zM)) ∧ (¬ (hM p1.toNatClampNeg) ≤ 0 → (vp_in (p1 + (1 : Int32)) 34 ∧ ((((hM (p1 + (1 : Int32)).toNatClampNeg) ≤ 0 → (w_X2_meld_b83 post p0 p1 p2 thr mel hM lM oM kM zM)) ∧ (¬ (hM (p1 + (1 : Int32)).toNatClampNeg) ≤ 0 → (vp_in (p1 + (2 : Int32)) 34 ∧ ((((hM (p1 + (2 : Int32)).toNatClampNeg) ≤ 0 → (w_X2_meld_b83 post p0 p1 p2 thr mel hM lM oM kM zM)) ∧ (¬ (hM (p1 + (2 : Int32)).toNatClampNeg) ≤ 0 → (w_X2_meld_b104 post p0 p1 p2 (1 : Int32) thr mel hM lM oM kM zM)))))))))))))) ∧ (¬ p0 = 0 → (vp_in p1 34 ∧ ((((hM p1.toNatClampNeg) < (p0 + (2 : Int32)) → (w_X2_meld_b104 post p0 p1 p2 (0 : Int32) thr mel hM lM oM kM zM)) ∧ (¬ (hM p1.toNatClampNeg) < (p0 + (2 : Int32)) → (w_X2_meld_b104 post p0 p1 p2 (1 : Int32) thr mel hM lM oM kM zM)))))))

def w_X2_meld (thr : Int32) (mel : Int32) (hM : (Nat → Int32)) (lM : (Nat → Int32)) (oM : (Nat → Int32)) (kM : (Nat → Int32)) (zM : (Nat → Int32)) (p0 : Int32) (p1 : Int32) (p2 : Int32) (post : Int32 → Int32 → Int32 → (Nat → Int32) → (Nat → Int32) → (Nat → Int32) → (Nat → Int32) → (Nat → Int32) → Prop) : Prop := w_X2_isKind p1 (fun r1 => (((r1 = 0 → (w_X2_fail (0 : Int32) (1 : Int32) (fun r33 thr_34 => (post r33 thr_34 mel hM lM oM kM zM)))) ∧ (¬ r1 = 0 → (w_X2_isIn p0 (0 : Int32) (2 : Int32) (fun r3 => (((r3 = 0 → (w_X2_meld_b38 post p0 p1 p2 (0 : Int32) mel hM lM oM kM zM)) ∧ (¬ r3 = 0 → (((p0 = 0 → (w_X2_beginsRow p1 (fun r31 => (((r31 = 0 → (w_X2_meld_b38 post p0 p1 p2 (0 : Int32) mel hM lM oM kM zM)) ∧ (¬ r31 = 0 → (w_X2_meld_b44 post p0 p1 p2 (0 : Int32) mel hM lM oM kM zM))))))) ∧ (¬ p0 = 0 → (w_X2_meld_b44 post p0 p1 p2 (0 : Int32) mel hM lM oM kM zM)))))))))))))

set_option maxHeartbeats 4000000 in
set_option maxRecDepth 100000 in
theorem c_X2_meld (l : Launch) (dC : Nat → ClassId) (dI : Nat → Nat → Nat) (cI cZ : ClassId) (y : Nat) (bH : Nat) (bS : Nat) (bL : Nat) (bO : Nat) (bK : Nat) (bZ : Nat) (bR : Nat) (bG : Nat) (bB : Nat) (bX : Nat) (sz : Nat) (thr : Int32) (mel : Int32) (sea : Int32) (rnd : Int32) (bas : Int32) (lim : Int32) (hM : (Nat → Int32)) (lM : (Nat → Int32)) (oM : (Nat → Int32)) (kM : (Nat → Int32)) (zM : (Nat → Int32)) (p0 : Int32) (p1 : Int32) (p2 : Int32) (post : Int32 → Int32 → Int32 → (Nat → Int32) → (Nat → Int32) → (Nat → Int32) → (Nat → Int32) → (Nat → Int32) → Prop) (hw : w_X2_meld thr mel hM lM oM kM zM p0 p1 p2 post) : Met l yX2_meld wsX2_meld ({ frames := 3, cells := 0, slots := 0, locals := 60 } : Room) (va_Pc [.ref y, .int p0, .int p1, .int p2] (fun U => U.heap.size = sz ∧ va_P (dC, dI) vwCl [(y, .inr (2, [.int thr, .ref bH, .ref bS, .ref bL, .int mel, .ref bO, .ref bK, .ref bZ, .int sea, .int rnd, .int bas, .int lim, .ref bR, .ref bG, .ref bB, .ref bX])), (bH, .inl (cI, 34, .inl hM)), (bL, .inl (cI, 34, .inl lM)), (bO, .inl (cI, 4, .inl oM)), (bK, .inl (cI, 4, .inl kM)), (bZ, .inl (cZ, 4, .inl zM))] U.heap ∧ va_K (dC, dI) vwCl [(cI, .int), (cZ, .boolean)] U ∧ va_D (fun _ => True) [(y, .inr (2, [.int thr, .ref bH, .ref bS, .ref bL, .int mel, .ref bO, .ref bK, .ref bZ, .int sea, .int rnd, .int bas, .int lim, .ref bR, .ref bG, .ref bB, .ref bX])), (bH, .inl (cI, 34, .inl hM)), (bL, .inl (cI, 34, .inl lM)), (bO, .inl (cI, 4, .inl oM)), (bK, .inl (cI, 4, .inl kM)), (bZ, .inl (cZ, 4, .inl zM))])) (va_Qi (fun (r9 : Int32) (u9 : Int32 × Int32 × (Nat → Int32) × (Nat → Int32) × (Nat → Int32) × (Nat → Int32) × (Nat → Int32)) => post r9 u9.1 u9.2.1 u9.2.2.1 u9.2.2.2.1 u9.2.2.2.2.1 u9.2.2.2.2.2.1 u9.2.2.2.2.2.2) (fun (u9 : Int32 × Int32 × (Nat → Int32) × (Nat → Int32) × (Nat → Int32) × (Nat → Int32) × (Nat → Int32)) (t9 : State) => va_P (dC, dI) vwCl [(y, .inr (2, [.int u9.1, .ref bH, .ref bS, .ref bL, .int u9.2.1, .ref bO, .ref bK, .ref bZ, .int sea, .int rnd, .int bas, .int lim, .ref bR, .ref bG, .ref bB, .ref bX])), (bH, .inl (cI, 34, .inl u9.2.2.1)), (bL, .inl (cI, 34, .inl u9.2.2.2.1)), (bO, .inl (cI, 4, .inl u9.2.2.2.2.1)), (bK, .inl (cI, 4, .inl u9.2.2.2.2.2.1)), (bZ, .inl (cZ, 4, .inl u9.2.2.2.2.2.2))] t9.heap ∧ va_K (dC, dI) vwCl [(cI, .int), (cZ, .boolean)] t9 ∧ va_D (va_A [(y, .inr (2, [.int thr, .ref bH, .ref bS, .ref bL, .int mel, .ref bO, .ref bK, .ref bZ, .int sea, .int rnd, .int bas, .int lim, .ref bR, .ref bG, .ref bB, .ref bX])), (bH, .inl (cI, 34, .inl hM)), (bL, .inl (cI, 34, .inl lM)), (bO, .inl (cI, 4, .inl oM)), (bK, .inl (cI, 4, .inl kM)), (bZ, .inl (cZ, 4, .inl zM))] sz) [(y, .inr (2, [.int u9.1, .ref bH, .ref bS, .ref bL, .int u9.2.1, .ref bO, .ref bK, .ref bZ, .int sea, .int rnd, .int bas, .int lim, .ref bR, .ref bG, .ref bB, .ref bX])), (bH, .inl (cI, 34, .inl u9.2.2.1)), (bL, .inl (cI, 34, .inl u9.2.2.2.1)), (bO, .inl (cI, 4, .inl u9.2.2.2.2.1)), (bK, .inl (cI, 4, .inl u9.2.2.2.2.2.1)), (bZ, .inl (cZ, 4, .inl u9.2.2.2.2.2.2))]) (va_A [(y, .inr (2, [.int thr, .ref bH, .ref bS, .ref bL, .int mel, .ref bO, .ref bK, .ref bZ, .int sea, .int rnd, .int bas, .int lim, .ref bR, .ref bG, .ref bB, .ref bX])), (bH, .inl (cI, 34, .inl hM)), (bL, .inl (cI, 34, .inl lM)), (bO, .inl (cI, 4, .inl oM)), (bK, .inl (cI, 4, .inl kM)), (bZ, .inl (cZ, 4, .inl zM))] sz)) 0 0 (va_A [(y, .inr (2, [.int thr, .ref bH, .ref bS, .ref bL, .int mel, .ref bO, .ref bK, .ref bZ, .int sea, .int rnd, .int bas, .int lim, .ref bR, .ref bG, .ref bB, .ref bX])), (bH, .inl (cI, 34, .inl hM)), (bL, .inl (cI, 34, .inl lM)), (bO, .inl (cI, 4, .inl oM)), (bK, .inl (cI, 4, .inl kM)), (bZ, .inl (cZ, 4, .inl zM))] sz) := by
  refine Met.ofW (cc := cX2_meld) (maxL := 6) (ret := (some .int)) (by decide) rfl ?_
  intro p e s m args below meth c s₁ B hml hv
  obtain ⟨rfl, hsz, hP, hK, hD0⟩ := hv
  have hx := B.exec
  have hb := B.bytes
  have hr := B.returns
  have hts := atoms_spec (ws := wsX2_meld) B.pre
  have hown : s.vm.findClass RX2 = some m.cls := findClass_of_methodNamed B.named
  have hlocks := B.notSynchronized
  have hinX2 : ∀ w ∈ u_ws RX2 TX2 16, w ∈ wsX2_meld := by decide +kernel
  subst hsz
  have hD := hD0.self (sz := s.heap.size)
  generalize hAe : va_A [(y, .inr (2, [.int thr, .ref bH, .ref bS, .ref bL, .int mel, .ref bO, .ref bK, .ref bZ, .int sea, .int rnd, .int bas, .int lim, .ref bR, .ref bG, .ref bB, .ref bX])), (bH, .inl (cI, 34, .inl hM)), (bL, .inl (cI, 34, .inl lM)), (bO, .inl (cI, 4, .inl oM)), (bK, .inl (cI, 4, .inl kM)), (bZ, .inl (cZ, 4, .inl zM))] s.heap.size = A at hD ⊢
  have hA : ∀ q : Nat, s.heap.size ≤ q → A q := fun q h => by rw [← hAe]; exact Or.inr h
  have hS : va_S A s.heap s.heap [] := va_S.rf
  have hl := lv_entry ([.ref y, .int p0, .int p1, .int p2]) (n := 6) (Nat.le_of_ble_eq_true rfl)
  rw [lg_entry_eq]
  generalize (lg_sl ([.ref y, .int p0, .int p1, .int p2]) ++ List.replicate (6 - (lg_sl ([.ref y, .int p0, .int p1, .int p2])).length) Slot.unset).toArray = ls at hl ⊢
  have hl : lv_has ls 6 [(0, .ref y), (1, .int p0), (2, .int p1), (3, .int p2)] := hl
  refine (?_ : ∀ Q9 : State → Prop, MQ below _ _ s _ _ _ = Q9 → W p l e ({ frames := 3, cells := 0, slots := 0, locals := 60 } : Room) s m _ below meth c s.heap [] 0 0 Q9 (F0 m 0 ls [])) _ rfl
  intro Q9 hQ9
  have hw : w_X2_isKind p1 (fun r1 => (((r1 = 0 → (w_X2_fail (0 : Int32) (1 : Int32) (fun r33 thr_34 => (post r33 thr_34 mel hM lM oM kM zM)))) ∧ (¬ r1 = 0 → (w_X2_isIn p0 (0 : Int32) (2 : Int32) (fun r3 => (((r3 = 0 → (w_X2_meld_b38 post p0 p1 p2 (0 : Int32) mel hM lM oM kM zM)) ∧ (¬ r3 = 0 → (((p0 = 0 → (w_X2_beginsRow p1 (fun r31 => (((r31 = 0 → (w_X2_meld_b38 post p0 p1 p2 (0 : Int32) mel hM lM oM kM zM)) ∧ (¬ r31 = 0 → (w_X2_meld_b44 post p0 p1 p2 (0 : Int32) mel hM lM oM kM zM))))))) ∧ (¬ p0 = 0 → (w_X2_meld_b44 post p0 p1 p2 (0 : Int32) mel hM lM oM kM zM))))))))))))) := hw
  have L38 : ∀ (thr : Int32) (mel : Int32) (hM : (Nat → Int32)) (lM : (Nat → Int32)) (oM : (Nat → Int32)) (kM : (Nat → Int32)) (zM : (Nat → Int32)) (H : Heap) (locs : List Loc) (ls : Array Slot), w_X2_meld_b38 post p0 p1 p2 thr mel hM lM oM kM zM → va_P (dC, dI) vwCl [(y, .inr (2, [.int thr, .ref bH, .ref bS, .ref bL, .int mel, .ref bO, .ref bK, .ref bZ, .int sea, .int rnd, .int bas, .int lim, .ref bR, .ref bG, .ref bB, .ref bX])), (bH, .inl (cI, 34, .inl hM)), (bL, .inl (cI, 34, .inl lM)), (bO, .inl (cI, 4, .inl oM)), (bK, .inl (cI, 4, .inl kM)), (bZ, .inl (cZ, 4, .inl zM))] H → va_D A [(y, .inr (2, [.int thr, .ref bH, .ref bS, .ref bL, .int mel, .ref bO, .ref bK, .ref bZ, .int sea, .int rnd, .int bas, .int lim, .ref bR, .ref bG, .ref bB, .ref bX])), (bH, .inl (cI, 34, .inl hM)), (bL, .inl (cI, 34, .inl lM)), (bO, .inl (cI, 4, .inl oM)), (bK, .inl (cI, 4, .inl kM)), (bZ, .inl (cZ, 4, .inl zM))] → va_S A s.heap H locs → lv_has ls 6 [(0, .ref y)] → W p l e ({ frames := 3, cells := 0, slots := 0, locals := 60 } : Room) s m ([.ref y, .int p0, .int p1, .int p2] : List Value).toArray below meth c H locs 0 0 Q9 (F0 m 38 ls []) := by
    intro thr mel hM lM oM kM zM H locs ls hw hP hD hS hl
    refine lv_aload_n hx hb dX2_meld_38 rfl (lv_at hl 0 rfl) ?_
    refine lv_iconst (v := 2) hx hb dX2_meld_39 (by decide) ?_
    have hPc := hP.sub (ws' := [(y, .inr (2, [.int thr, .ref bH, .ref bS, .ref bL, .int mel, .ref bO, .ref bK, .ref bZ, .int sea, .int rnd, .int bas, .int lim, .ref bR, .ref bG, .ref bB, .ref bX]))]) [0] rfl
    have hDc := hD.sub (ws' := [(y, .inr (2, [.int thr, .ref bH, .ref bS, .ref bL, .int mel, .ref bO, .ref bK, .ref bZ, .int sea, .int rnd, .int bas, .int lim, .ref bR, .ref bG, .ref bB, .ref bX]))]) [0] (by decide) rfl
    have hFc := va_free (wc := [(y, .inr (2, [.int thr, .ref bH, .ref bS, .ref bL, .int mel, .ref bO, .ref bK, .ref bZ, .int sea, .int rnd, .int bas, .int lim, .ref bR, .ref bG, .ref bB, .ref bX]))]) hD hS hA [0] rfl
    refine va_calli (va_runV (As := [.int (2 : Int32)]) (rest := []) ⟨hx, hb, hml, hown, hts⟩ (c_X2_fail l dC dI cI cZ y bH bS bL bO bK bZ bR bG bB bX H.size thr mel sea rnd bas lim (2 : Int32) _ hw) (cwV 1 hts gX2_meld_X2_fail rfl rfl rfl (by decide +kernel) ⟨Nat.le_of_ble_eq_true rfl, Nat.le_of_ble_eq_true rfl⟩) ⟨fun a U g mk q => by obtain ⟨q0, q1, qP, qK, qD⟩ := q; exact ⟨q0, q1, qP, va_K.moved (u := U) (U := U.calling g mk a) (Vm.Alike.refl U.vm) qK, qD⟩, va_recv hK hPc (ci := 2) (q0 := 0) rfl rfl, fun U hU hW => ⟨rfl, by rw [hU], by rw [hU]; exact hPc, va_K.moved hW.alike hK, hDc.weaken (fun _ _ _ _ => trivial)⟩⟩ rfl rfl hl.1 rfl (lv_room (Nat.le_of_ble_eq_true rfl)) dX2_meld_40 ⟨Nat.le_of_ble_eq_true rfl, Nat.le_of_ble_eq_true rfl⟩) hS (fun q _ h => hFc q h) hFc (fun r5 u t H1 locs ht hvm hw hB hz1 hk1 hS => ?_)
    obtain ⟨thr_6, rfl⟩ : ∃ z, z = u := ⟨_, rfl⟩
    obtain ⟨hP1, -, hD1⟩ := hB
    have hw := And.intro hw trivial
    try dsimp only at hw
    have hw := hw.1
    rw [ht] at hP1
    obtain ⟨hP, hD⟩ := va_join (wr := [(bH, .inl (cI, 34, .inl hM)), (bL, .inl (cI, 34, .inl lM)), (bO, .inl (cI, 4, .inl oM)), (bK, .inl (cI, 4, .inl kM)), (bZ, .inl (cZ, 4, .inl zM))]) (w1 := [(y, .inr (2, [.int thr_6, .ref bH, .ref bS, .ref bL, .int mel, .ref bO, .ref bK, .ref bZ, .int sea, .int rnd, .int bas, .int lim, .ref bR, .ref bG, .ref bB, .ref bX]))]) hP hD [0] [1, 2, 3, 4, 5] rfl rfl (by decide) (by decide) hk1 hFc hP1 hD1
    generalize H1 = H at hP hS ⊢
    have hP : va_P (dC, dI) vwCl [(bH, .inl (cI, 34, .inl hM)), (bL, .inl (cI, 34, .inl lM)), (bO, .inl (cI, 4, .inl oM)), (bK, .inl (cI, 4, .inl kM)), (bZ, .inl (cZ, 4, .inl zM)), (y, .inr (2, [.int thr_6, .ref bH, .ref bS, .ref bL, .int mel, .ref bO, .ref bK, .ref bZ, .int sea, .int rnd, .int bas, .int lim, .ref bR, .ref bG, .ref bB, .ref bX]))] H := hP
    have hD : va_D A [(bH, .inl (cI, 34, .inl hM)), (bL, .inl (cI, 34, .inl lM)), (bO, .inl (cI, 4, .inl oM)), (bK, .inl (cI, 4, .inl kM)), (bZ, .inl (cZ, 4, .inl zM)), (y, .inr (2, [.int thr_6, .ref bH, .ref bS, .ref bL, .int mel, .ref bO, .ref bK, .ref bZ, .int sea, .int rnd, .int bas, .int lim, .ref bR, .ref bG, .ref bB, .ref bX]))] := hD
    have hP9 := hP.sub (ws' := [(y, .inr (2, [.int thr_6, .ref bH, .ref bS, .ref bL, .int mel, .ref bO, .ref bK, .ref bZ, .int sea, .int rnd, .int bas, .int lim, .ref bR, .ref bG, .ref bB, .ref bX])), (bH, .inl (cI, 34, .inl hM)), (bL, .inl (cI, 34, .inl lM)), (bO, .inl (cI, 4, .inl oM)), (bK, .inl (cI, 4, .inl kM)), (bZ, .inl (cZ, 4, .inl zM))]) [5, 0, 1, 2, 3, 4] rfl
    have hD9 := hD.sub (ws' := [(y, .inr (2, [.int thr_6, .ref bH, .ref bS, .ref bL, .int mel, .ref bO, .ref bK, .ref bZ, .int sea, .int rnd, .int bas, .int lim, .ref bR, .ref bG, .ref bB, .ref bX])), (bH, .inl (cI, 34, .inl hM)), (bL, .inl (cI, 34, .inl lM)), (bO, .inl (cI, 4, .inl oM)), (bK, .inl (cI, 4, .inl kM)), (bZ, .inl (cZ, 4, .inl zM))]) [5, 0, 1, 2, 3, 4] (by decide) rfl
    rw [← hQ9]
    exact W.iret (v := r5) hx hb hr (fun t ht hW => ⟨⟨r5, (thr_6, mel, hM, lM, oM, kM, zM), rfl, hw, by rw [ht]; exact hP9, va_K.moved hW.alike hK, hD9⟩, hS.F ht⟩) hS.2.2 dX2_meld_43
  have L119 : ∀ (thr : Int32) (mel : Int32) (hM : (Nat → Int32)) (lM : (Nat → Int32)) (oM : (Nat → Int32)) (kM : (Nat → Int32)) (zM : (Nat → Int32)) (H : Heap) (locs : List Loc) (ls : Array Slot), w_X2_meld_b119 post p0 p1 p2 thr mel hM lM oM kM zM → va_P (dC, dI) vwCl [(y, .inr (2, [.int thr, .ref bH, .ref bS, .ref bL, .int mel, .ref bO, .ref bK, .ref bZ, .int sea, .int rnd, .int bas, .int lim, .ref bR, .ref bG, .ref bB, .ref bX])), (bH, .inl (cI, 34, .inl hM)), (bL, .inl (cI, 34, .inl lM)), (bO, .inl (cI, 4, .inl oM)), (bK, .inl (cI, 4, .inl kM)), (bZ, .inl (cZ, 4, .inl zM))] H → va_D A [(y, .inr (2, [.int thr, .ref bH, .ref bS, .ref bL, .int mel, .ref bO, .ref bK, .ref bZ, .int sea, .int rnd, .int bas, .int lim, .ref bR, .ref bG, .ref bB, .ref bX])), (bH, .inl (cI, 34, .inl hM)), (bL, .inl (cI, 34, .inl lM)), (bO, .inl (cI, 4, .inl oM)), (bK, .inl (cI, 4, .inl kM)), (bZ, .inl (cZ, 4, .inl zM))] → va_S A s.heap H locs → lv_has ls 6 [(0, .ref y)] → W p l e ({ frames := 3, cells := 0, slots := 0, locals := 60 } : Room) s m ([.ref y, .int p0, .int p1, .int p2] : List Value).toArray below meth c H locs 0 0 Q9 (F0 m 119 ls []) := by
    intro thr mel hM lM oM kM zM H locs ls hw hP hD hS hl
    refine lv_aload_n hx hb dX2_meld_119 rfl (lv_at hl 0 rfl) ?_
    refine lv_iconst (v := 3) hx hb dX2_meld_120 (by decide) ?_
    have hPc := hP.sub (ws' := [(y, .inr (2, [.int thr, .ref bH, .ref bS, .ref bL, .int mel, .ref bO, .ref bK, .ref bZ, .int sea, .int rnd, .int bas, .int lim, .ref bR, .ref bG, .ref bB, .ref bX]))]) [0] rfl
    have hDc := hD.sub (ws' := [(y, .inr (2, [.int thr, .ref bH, .ref bS, .ref bL, .int mel, .ref bO, .ref bK, .ref bZ, .int sea, .int rnd, .int bas, .int lim, .ref bR, .ref bG, .ref bB, .ref bX]))]) [0] (by decide) rfl
    have hFc := va_free (wc := [(y, .inr (2, [.int thr, .ref bH, .ref bS, .ref bL, .int mel, .ref bO, .ref bK, .ref bZ, .int sea, .int rnd, .int bas, .int lim, .ref bR, .ref bG, .ref bB, .ref bX]))]) hD hS hA [0] rfl
    refine va_calli (va_runV (As := [.int (3 : Int32)]) (rest := []) ⟨hx, hb, hml, hown, hts⟩ (c_X2_fail l dC dI cI cZ y bH bS bL bO bK bZ bR bG bB bX H.size thr mel sea rnd bas lim (3 : Int32) _ hw) (cwV 1 hts gX2_meld_X2_fail rfl rfl rfl (by decide +kernel) ⟨Nat.le_of_ble_eq_true rfl, Nat.le_of_ble_eq_true rfl⟩) ⟨fun a U g mk q => by obtain ⟨q0, q1, qP, qK, qD⟩ := q; exact ⟨q0, q1, qP, va_K.moved (u := U) (U := U.calling g mk a) (Vm.Alike.refl U.vm) qK, qD⟩, va_recv hK hPc (ci := 2) (q0 := 0) rfl rfl, fun U hU hW => ⟨rfl, by rw [hU], by rw [hU]; exact hPc, va_K.moved hW.alike hK, hDc.weaken (fun _ _ _ _ => trivial)⟩⟩ rfl rfl hl.1 rfl (lv_room (Nat.le_of_ble_eq_true rfl)) dX2_meld_121 ⟨Nat.le_of_ble_eq_true rfl, Nat.le_of_ble_eq_true rfl⟩) hS (fun q _ h => hFc q h) hFc (fun r12 u t H1 locs ht hvm hw hB hz1 hk1 hS => ?_)
    obtain ⟨thr_13, rfl⟩ : ∃ z, z = u := ⟨_, rfl⟩
    obtain ⟨hP1, -, hD1⟩ := hB
    have hw := And.intro hw trivial
    try dsimp only at hw
    have hw := hw.1
    rw [ht] at hP1
    obtain ⟨hP, hD⟩ := va_join (wr := [(bH, .inl (cI, 34, .inl hM)), (bL, .inl (cI, 34, .inl lM)), (bO, .inl (cI, 4, .inl oM)), (bK, .inl (cI, 4, .inl kM)), (bZ, .inl (cZ, 4, .inl zM))]) (w1 := [(y, .inr (2, [.int thr_13, .ref bH, .ref bS, .ref bL, .int mel, .ref bO, .ref bK, .ref bZ, .int sea, .int rnd, .int bas, .int lim, .ref bR, .ref bG, .ref bB, .ref bX]))]) hP hD [0] [1, 2, 3, 4, 5] rfl rfl (by decide) (by decide) hk1 hFc hP1 hD1
    generalize H1 = H at hP hS ⊢
    have hP : va_P (dC, dI) vwCl [(bH, .inl (cI, 34, .inl hM)), (bL, .inl (cI, 34, .inl lM)), (bO, .inl (cI, 4, .inl oM)), (bK, .inl (cI, 4, .inl kM)), (bZ, .inl (cZ, 4, .inl zM)), (y, .inr (2, [.int thr_13, .ref bH, .ref bS, .ref bL, .int mel, .ref bO, .ref bK, .ref bZ, .int sea, .int rnd, .int bas, .int lim, .ref bR, .ref bG, .ref bB, .ref bX]))] H := hP
    have hD : va_D A [(bH, .inl (cI, 34, .inl hM)), (bL, .inl (cI, 34, .inl lM)), (bO, .inl (cI, 4, .inl oM)), (bK, .inl (cI, 4, .inl kM)), (bZ, .inl (cZ, 4, .inl zM)), (y, .inr (2, [.int thr_13, .ref bH, .ref bS, .ref bL, .int mel, .ref bO, .ref bK, .ref bZ, .int sea, .int rnd, .int bas, .int lim, .ref bR, .ref bG, .ref bB, .ref bX]))] := hD
    have hP9 := hP.sub (ws' := [(y, .inr (2, [.int thr_13, .ref bH, .ref bS, .ref bL, .int mel, .ref bO, .ref bK, .ref bZ, .int sea, .int rnd, .int bas, .int lim, .ref bR, .ref bG, .ref bB, .ref bX])), (bH, .inl (cI, 34, .inl hM)), (bL, .inl (cI, 34, .inl lM)), (bO, .inl (cI, 4, .inl oM)), (bK, .inl (cI, 4, .inl kM)), (bZ, .inl (cZ, 4, .inl zM))]) [5, 0, 1, 2, 3, 4] rfl
    have hD9 := hD.sub (ws' := [(y, .inr (2, [.int thr_13, .ref bH, .ref bS, .ref bL, .int mel, .ref bO, .ref bK, .ref bZ, .int sea, .int rnd, .int bas, .int lim, .ref bR, .ref bG, .ref bB, .ref bX])), (bH, .inl (cI, 34, .inl hM)), (bL, .inl (cI, 34, .inl lM)), (bO, .inl (cI, 4, .inl oM)), (bK, .inl (cI, 4, .inl kM)), (bZ, .inl (cZ, 4, .inl zM))]) [5, 0, 1, 2, 3, 4] (by decide) rfl
    rw [← hQ9]
    exact W.iret (v := r12) hx hb hr (fun t ht hW => ⟨⟨r12, (thr_13, mel, hM, lM, oM, kM, zM), rfl, hw, by rw [ht]; exact hP9, va_K.moved hW.alike hK, hD9⟩, hS.F ht⟩) hS.2.2 dX2_meld_124
  have L164 : ∀ (thr : Int32) (mel : Int32) (hM : (Nat → Int32)) (lM : (Nat → Int32)) (oM : (Nat → Int32)) (kM : (Nat → Int32)) (zM : (Nat → Int32)) (H : Heap) (locs : List Loc) (ls : Array Slot), w_X2_meld_b164 post p0 p1 p2 thr mel hM lM oM kM zM → va_P (dC, dI) vwCl [(y, .inr (2, [.int thr, .ref bH, .ref bS, .ref bL, .int mel, .ref bO, .ref bK, .ref bZ, .int sea, .int rnd, .int bas, .int lim, .ref bR, .ref bG, .ref bB, .ref bX])), (bH, .inl (cI, 34, .inl hM)), (bL, .inl (cI, 34, .inl lM)), (bO, .inl (cI, 4, .inl oM)), (bK, .inl (cI, 4, .inl kM)), (bZ, .inl (cZ, 4, .inl zM))] H → va_D A [(y, .inr (2, [.int thr, .ref bH, .ref bS, .ref bL, .int mel, .ref bO, .ref bK, .ref bZ, .int sea, .int rnd, .int bas, .int lim, .ref bR, .ref bG, .ref bB, .ref bX])), (bH, .inl (cI, 34, .inl hM)), (bL, .inl (cI, 34, .inl lM)), (bO, .inl (cI, 4, .inl oM)), (bK, .inl (cI, 4, .inl kM)), (bZ, .inl (cZ, 4, .inl zM))] → va_S A s.heap H locs → lv_has ls 6 [(0, .ref y), (1, .int p0), (2, .int p1), (3, .int p2)] → W p l e ({ frames := 3, cells := 0, slots := 0, locals := 60 } : Room) s m ([.ref y, .int p0, .int p1, .int p2] : List Value).toArray below meth c H locs 0 0 Q9 (F0 m 164 ls []) := by
    intro thr mel hM lM oM kM zM H locs ls hw hP hD hS hl
    refine lv_aload_n hx hb dX2_meld_164 rfl (lv_at hl 0 rfl) ?_
    refine va_get (D := (dC, dI)) (ci := 2) (v := .ref bO) (C := RX2) (T := TX2) (N := 16) hx hb hts hinX2 hown hK hP 0 rfl rfl 5 (by decide) (hts (.fieldLink RX2 19 "TileHandModel" "sorts" "[I") (by decide +kernel)) (fun _ h9 => h9) rfl dX2_meld_165 ?_
    refine lv_aload_n hx hb dX2_meld_168 rfl (lv_at hl 0 rfl) ?_
    refine va_get (D := (dC, dI)) (ci := 2) (v := .int mel) (C := RX2) (T := TX2) (N := 16) hx hb hts hinX2 hown hK hP 0 rfl rfl 4 (by decide) (hts (.fieldLink RX2 69 "TileHandModel" "melds" "I") (by decide +kernel)) (fun _ h9 => h9) rfl dX2_meld_169 ?_
    refine lv_iload_n hx hb dX2_meld_172 rfl (lv_at hl 1 rfl) ?_
    obtain ⟨h18, hw⟩ := hw
    refine va_iast hx hb hK hP hD hS 3 0 rfl rfl h18 dX2_meld_173 (fun H locs hP hD hS => ?_)
    have hP : va_P (dC, dI) vwCl [(y, .inr (2, [.int thr, .ref bH, .ref bS, .ref bL, .int mel, .ref bO, .ref bK, .ref bZ, .int sea, .int rnd, .int bas, .int lim, .ref bR, .ref bG, .ref bB, .ref bX])), (bH, .inl (cI, 34, .inl hM)), (bL, .inl (cI, 34, .inl lM)), (bO, .inl (cI, 4, .inl (upd oM mel.toNatClampNeg p0))), (bK, .inl (cI, 4, .inl kM)), (bZ, .inl (cZ, 4, .inl zM))] H := hP
    have hD : va_D A [(y, .inr (2, [.int thr, .ref bH, .ref bS, .ref bL, .int mel, .ref bO, .ref bK, .ref bZ, .int sea, .int rnd, .int bas, .int lim, .ref bR, .ref bG, .ref bB, .ref bX])), (bH, .inl (cI, 34, .inl hM)), (bL, .inl (cI, 34, .inl lM)), (bO, .inl (cI, 4, .inl (upd oM mel.toNatClampNeg p0))), (bK, .inl (cI, 4, .inl kM)), (bZ, .inl (cZ, 4, .inl zM))] := hD
    refine lv_aload_n hx hb dX2_meld_174 rfl (lv_at hl 0 rfl) ?_
    refine va_get (D := (dC, dI)) (ci := 2) (v := .ref bK) (C := RX2) (T := TX2) (N := 16) hx hb hts hinX2 hown hK hP 0 rfl rfl 6 (by decide) (hts (.fieldLink RX2 22 "TileHandModel" "kinds" "[I") (by decide +kernel)) (fun _ h9 => h9) rfl dX2_meld_175 ?_
    refine lv_aload_n hx hb dX2_meld_178 rfl (lv_at hl 0 rfl) ?_
    refine va_get (D := (dC, dI)) (ci := 2) (v := .int mel) (C := RX2) (T := TX2) (N := 16) hx hb hts hinX2 hown hK hP 0 rfl rfl 4 (by decide) (hts (.fieldLink RX2 69 "TileHandModel" "melds" "I") (by decide +kernel)) (fun _ h9 => h9) rfl dX2_meld_179 ?_
    refine lv_iload_n hx hb dX2_meld_182 rfl (lv_at hl 2 rfl) ?_
    obtain ⟨h19, hw⟩ := hw
    refine va_iast hx hb hK hP hD hS 4 0 rfl rfl h19 dX2_meld_183 (fun H locs hP hD hS => ?_)
    have hP : va_P (dC, dI) vwCl [(y, .inr (2, [.int thr, .ref bH, .ref bS, .ref bL, .int mel, .ref bO, .ref bK, .ref bZ, .int sea, .int rnd, .int bas, .int lim, .ref bR, .ref bG, .ref bB, .ref bX])), (bH, .inl (cI, 34, .inl hM)), (bL, .inl (cI, 34, .inl lM)), (bO, .inl (cI, 4, .inl (upd oM mel.toNatClampNeg p0))), (bK, .inl (cI, 4, .inl (upd kM mel.toNatClampNeg p1))), (bZ, .inl (cZ, 4, .inl zM))] H := hP
    have hD : va_D A [(y, .inr (2, [.int thr, .ref bH, .ref bS, .ref bL, .int mel, .ref bO, .ref bK, .ref bZ, .int sea, .int rnd, .int bas, .int lim, .ref bR, .ref bG, .ref bB, .ref bX])), (bH, .inl (cI, 34, .inl hM)), (bL, .inl (cI, 34, .inl lM)), (bO, .inl (cI, 4, .inl (upd oM mel.toNatClampNeg p0))), (bK, .inl (cI, 4, .inl (upd kM mel.toNatClampNeg p1))), (bZ, .inl (cZ, 4, .inl zM))] := hD
    refine lv_aload_n hx hb dX2_meld_184 rfl (lv_at hl 0 rfl) ?_
    refine va_get (D := (dC, dI)) (ci := 2) (v := .ref bZ) (C := RX2) (T := TX2) (N := 16) hx hb hts hinX2 hown hK hP 0 rfl rfl 7 (by decide) (hts (.fieldLink RX2 25 "TileHandModel" "areOpen" "[Z") (by decide +kernel)) (fun _ h9 => h9) rfl dX2_meld_185 ?_
    refine lv_aload_n hx hb dX2_meld_188 rfl (lv_at hl 0 rfl) ?_
    refine va_get (D := (dC, dI)) (ci := 2) (v := .int mel) (C := RX2) (T := TX2) (N := 16) hx hb hts hinX2 hown hK hP 0 rfl rfl 4 (by decide) (hts (.fieldLink RX2 69 "TileHandModel" "melds" "I") (by decide +kernel)) (fun _ h9 => h9) rfl dX2_meld_189 ?_
    refine lv_iload_n hx hb dX2_meld_192 rfl (lv_at hl 3 rfl) ?_
    obtain ⟨h20, hw⟩ := hw
    refine va_zast hx hb hK hP hD hS 5 1 rfl rfl h20 dX2_meld_193 (fun H locs hP hD hS => ?_)
    have hP : va_P (dC, dI) vwCl [(y, .inr (2, [.int thr, .ref bH, .ref bS, .ref bL, .int mel, .ref bO, .ref bK, .ref bZ, .int sea, .int rnd, .int bas, .int lim, .ref bR, .ref bG, .ref bB, .ref bX])), (bH, .inl (cI, 34, .inl hM)), (bL, .inl (cI, 34, .inl lM)), (bO, .inl (cI, 4, .inl (upd oM mel.toNatClampNeg p0))), (bK, .inl (cI, 4, .inl (upd kM mel.toNatClampNeg p1))), (bZ, .inl (cZ, 4, .inl (upd zM mel.toNatClampNeg (vp_nar .boolean p2))))] H := hP
    have hD : va_D A [(y, .inr (2, [.int thr, .ref bH, .ref bS, .ref bL, .int mel, .ref bO, .ref bK, .ref bZ, .int sea, .int rnd, .int bas, .int lim, .ref bR, .ref bG, .ref bB, .ref bX])), (bH, .inl (cI, 34, .inl hM)), (bL, .inl (cI, 34, .inl lM)), (bO, .inl (cI, 4, .inl (upd oM mel.toNatClampNeg p0))), (bK, .inl (cI, 4, .inl (upd kM mel.toNatClampNeg p1))), (bZ, .inl (cZ, 4, .inl (upd zM mel.toNatClampNeg (vp_nar .boolean p2))))] := hD
    refine lv_aload_n hx hb dX2_meld_194 rfl (lv_at hl 0 rfl) ?_
    refine lv_dup hx hb dX2_meld_195 rfl ?_
    refine va_get (D := (dC, dI)) (ci := 2) (v := .int mel) (C := RX2) (T := TX2) (N := 16) hx hb hts hinX2 hown hK hP 0 rfl rfl 4 (by decide) (hts (.fieldLink RX2 69 "TileHandModel" "melds" "I") (by decide +kernel)) (fun _ h9 => h9) rfl dX2_meld_196 ?_
    refine lv_iconst (v := 1) hx hb dX2_meld_199 (by decide) ?_
    refine lv_iadd hx hb dX2_meld_200 ?_
    refine va_put (D := (dC, dI)) (ci := 2) (v := .int (mel + (1 : Int32))) (ty := .int) (C := RX2) (T := TX2) (N := 16) hx hb hts hinX2 tyX2 tyX2_ok nmX2 hown hK hP hD hS 0 rfl rfl 4 (by decide) (hts (.fieldLink RX2 69 "TileHandModel" "melds" "I") (by decide +kernel)) (fun _ h9 => h9) rfl (by decide +kernel) rfl rfl (Nat.le_of_ble_eq_true rfl) dX2_meld_201 (fun H locs hP hD hS => ?_)
    have hP : va_P (dC, dI) vwCl [(y, .inr (2, [.int thr, .ref bH, .ref bS, .ref bL, .int (mel + (1 : Int32)), .ref bO, .ref bK, .ref bZ, .int sea, .int rnd, .int bas, .int lim, .ref bR, .ref bG, .ref bB, .ref bX])), (bH, .inl (cI, 34, .inl hM)), (bL, .inl (cI, 34, .inl lM)), (bO, .inl (cI, 4, .inl (upd oM mel.toNatClampNeg p0))), (bK, .inl (cI, 4, .inl (upd kM mel.toNatClampNeg p1))), (bZ, .inl (cZ, 4, .inl (upd zM mel.toNatClampNeg (vp_nar .boolean p2))))] H := hP
    have hD : va_D A [(y, .inr (2, [.int thr, .ref bH, .ref bS, .ref bL, .int (mel + (1 : Int32)), .ref bO, .ref bK, .ref bZ, .int sea, .int rnd, .int bas, .int lim, .ref bR, .ref bG, .ref bB, .ref bX])), (bH, .inl (cI, 34, .inl hM)), (bL, .inl (cI, 34, .inl lM)), (bO, .inl (cI, 4, .inl (upd oM mel.toNatClampNeg p0))), (bK, .inl (cI, 4, .inl (upd kM mel.toNatClampNeg p1))), (bZ, .inl (cZ, 4, .inl (upd zM mel.toNatClampNeg (vp_nar .boolean p2))))] := hD
    refine lv_aload_n hx hb dX2_meld_204 rfl (lv_at hl 0 rfl) ?_
    have hPc := hP.sub (ws' := [(y, .inr (2, [.int thr, .ref bH, .ref bS, .ref bL, .int (mel + (1 : Int32)), .ref bO, .ref bK, .ref bZ, .int sea, .int rnd, .int bas, .int lim, .ref bR, .ref bG, .ref bB, .ref bX])), (bH, .inl (cI, 34, .inl hM))]) [0, 1] rfl
    have hDc := hD.sub (ws' := [(y, .inr (2, [.int thr, .ref bH, .ref bS, .ref bL, .int (mel + (1 : Int32)), .ref bO, .ref bK, .ref bZ, .int sea, .int rnd, .int bas, .int lim, .ref bR, .ref bG, .ref bB, .ref bX])), (bH, .inl (cI, 34, .inl hM))]) [0, 1] (by decide) rfl
    have hFc := va_free (wc := [(y, .inr (2, [.int thr, .ref bH, .ref bS, .ref bL, .int (mel + (1 : Int32)), .ref bO, .ref bK, .ref bZ, .int sea, .int rnd, .int bas, .int lim, .ref bR, .ref bG, .ref bB, .ref bX])), (bH, .inl (cI, 34, .inl hM))]) hD hS hA [0, 1] rfl
    refine va_calli (va_runV (As := []) (rest := []) ⟨hx, hb, hml, hown, hts⟩ (c_X2_sizeOf l dC dI cI cZ y bH bS bL bO bK bZ bR bG bB bX H.size thr (mel + (1 : Int32)) sea rnd bas lim hM _ hw) (cwV 0 hts gX2_meld_X2_sizeOf rfl rfl rfl (by decide +kernel) ⟨Nat.le_of_ble_eq_true rfl, Nat.le_of_ble_eq_true rfl⟩) ⟨fun a U g mk q => by obtain ⟨q0, q1, qP, qK, qD⟩ := q; exact ⟨q0, q1, qP, va_K.moved (u := U) (U := U.calling g mk a) (Vm.Alike.refl U.vm) qK, qD⟩, va_recv hK hPc (ci := 2) (q0 := 0) rfl rfl, fun U hU hW => ⟨rfl, by rw [hU], by rw [hU]; exact hPc, va_K.moved hW.alike hK, hDc.weaken (fun _ _ _ _ => trivial)⟩⟩ rfl rfl hl.1 rfl (lv_room (Nat.le_of_ble_eq_true rfl)) dX2_meld_205 ⟨Nat.le_of_ble_eq_true rfl, Nat.le_of_ble_eq_true rfl⟩) hS (fun q _ h => hFc q h) hFc (fun r21 u t H1 locs ht hvm hw hB hz1 hk1 hS => ?_)
    obtain ⟨hP1, -, hD1⟩ := hB
    have hw := And.intro hw trivial
    try dsimp only at hw
    have hw := hw.1
    rw [ht] at hP1
    obtain ⟨hP, hD⟩ := va_join (wr := [(bL, .inl (cI, 34, .inl lM)), (bO, .inl (cI, 4, .inl (upd oM mel.toNatClampNeg p0))), (bK, .inl (cI, 4, .inl (upd kM mel.toNatClampNeg p1))), (bZ, .inl (cZ, 4, .inl (upd zM mel.toNatClampNeg (vp_nar .boolean p2))))]) (w1 := [(y, .inr (2, [.int thr, .ref bH, .ref bS, .ref bL, .int (mel + (1 : Int32)), .ref bO, .ref bK, .ref bZ, .int sea, .int rnd, .int bas, .int lim, .ref bR, .ref bG, .ref bB, .ref bX])), (bH, .inl (cI, 34, .inl hM))]) hP hD [0, 1] [2, 3, 4, 5] rfl rfl (by decide) (by decide) hk1 hFc hP1 hD1
    generalize H1 = H at hP hS ⊢
    have hP : va_P (dC, dI) vwCl [(bL, .inl (cI, 34, .inl lM)), (bO, .inl (cI, 4, .inl (upd oM mel.toNatClampNeg p0))), (bK, .inl (cI, 4, .inl (upd kM mel.toNatClampNeg p1))), (bZ, .inl (cZ, 4, .inl (upd zM mel.toNatClampNeg (vp_nar .boolean p2)))), (y, .inr (2, [.int thr, .ref bH, .ref bS, .ref bL, .int (mel + (1 : Int32)), .ref bO, .ref bK, .ref bZ, .int sea, .int rnd, .int bas, .int lim, .ref bR, .ref bG, .ref bB, .ref bX])), (bH, .inl (cI, 34, .inl hM))] H := hP
    have hD : va_D A [(bL, .inl (cI, 34, .inl lM)), (bO, .inl (cI, 4, .inl (upd oM mel.toNatClampNeg p0))), (bK, .inl (cI, 4, .inl (upd kM mel.toNatClampNeg p1))), (bZ, .inl (cZ, 4, .inl (upd zM mel.toNatClampNeg (vp_nar .boolean p2)))), (y, .inr (2, [.int thr, .ref bH, .ref bS, .ref bL, .int (mel + (1 : Int32)), .ref bO, .ref bK, .ref bZ, .int sea, .int rnd, .int bas, .int lim, .ref bR, .ref bG, .ref bB, .ref bX])), (bH, .inl (cI, 34, .inl hM))] := hD
    have hP9 := hP.sub (ws' := [(y, .inr (2, [.int thr, .ref bH, .ref bS, .ref bL, .int (mel + (1 : Int32)), .ref bO, .ref bK, .ref bZ, .int sea, .int rnd, .int bas, .int lim, .ref bR, .ref bG, .ref bB, .ref bX])), (bH, .inl (cI, 34, .inl hM)), (bL, .inl (cI, 34, .inl lM)), (bO, .inl (cI, 4, .inl (upd oM mel.toNatClampNeg p0))), (bK, .inl (cI, 4, .inl (upd kM mel.toNatClampNeg p1))), (bZ, .inl (cZ, 4, .inl (upd zM mel.toNatClampNeg (vp_nar .boolean p2))))]) [4, 5, 0, 1, 2, 3] rfl
    have hD9 := hD.sub (ws' := [(y, .inr (2, [.int thr, .ref bH, .ref bS, .ref bL, .int (mel + (1 : Int32)), .ref bO, .ref bK, .ref bZ, .int sea, .int rnd, .int bas, .int lim, .ref bR, .ref bG, .ref bB, .ref bX])), (bH, .inl (cI, 34, .inl hM)), (bL, .inl (cI, 34, .inl lM)), (bO, .inl (cI, 4, .inl (upd oM mel.toNatClampNeg p0))), (bK, .inl (cI, 4, .inl (upd kM mel.toNatClampNeg p1))), (bZ, .inl (cZ, 4, .inl (upd zM mel.toNatClampNeg (vp_nar .boolean p2))))]) [4, 5, 0, 1, 2, 3] (by decide) rfl
    rw [← hQ9]
    exact W.iret (v := r21) hx hb hr (fun t ht hW => ⟨⟨r21, (thr, mel + (1 : Int32), hM, lM, upd oM mel.toNatClampNeg p0, upd kM mel.toNatClampNeg p1, upd zM mel.toNatClampNeg (vp_nar .boolean p2)), rfl, hw, by rw [ht]; exact hP9, va_K.moved hW.alike hK, hD9⟩, hS.F ht⟩) hS.2.2 dX2_meld_208
  have L153 : ∀ (thr : Int32) (mel : Int32) (hM : (Nat → Int32)) (lM : (Nat → Int32)) (oM : (Nat → Int32)) (kM : (Nat → Int32)) (zM : (Nat → Int32)) (H : Heap) (locs : List Loc) (ls : Array Slot), w_X2_meld_b153 post p0 p1 p2 thr mel hM lM oM kM zM → va_P (dC, dI) vwCl [(y, .inr (2, [.int thr, .ref bH, .ref bS, .ref bL, .int mel, .ref bO, .ref bK, .ref bZ, .int sea, .int rnd, .int bas, .int lim, .ref bR, .ref bG, .ref bB, .ref bX])), (bH, .inl (cI, 34, .inl hM)), (bL, .inl (cI, 34, .inl lM)), (bO, .inl (cI, 4, .inl oM)), (bK, .inl (cI, 4, .inl kM)), (bZ, .inl (cZ, 4, .inl zM))] H → va_D A [(y, .inr (2, [.int thr, .ref bH, .ref bS, .ref bL, .int mel, .ref bO, .ref bK, .ref bZ, .int sea, .int rnd, .int bas, .int lim, .ref bR, .ref bG, .ref bB, .ref bX])), (bH, .inl (cI, 34, .inl hM)), (bL, .inl (cI, 34, .inl lM)), (bO, .inl (cI, 4, .inl oM)), (bK, .inl (cI, 4, .inl kM)), (bZ, .inl (cZ, 4, .inl zM))] → va_S A s.heap H locs → lv_has ls 6 [(0, .ref y), (1, .int p0), (2, .int p1), (3, .int p2)] → W p l e ({ frames := 3, cells := 0, slots := 0, locals := 60 } : Room) s m ([.ref y, .int p0, .int p1, .int p2] : List Value).toArray below meth c H locs 0 0 Q9 (F0 m 153 ls []) := by
    intro thr mel hM lM oM kM zM H locs ls hw hP hD hS hl
    refine lv_goto (tgt := 164) hx hb dX2_meld_153 (by decide) ?_
    exact L164 thr mel hM lM oM kM zM _ _ _ hw hP hD hS (lv_sub hl [0, 1, 2, 3] rfl)
  have L132 : ∀ (n : Nat), ∀ (v5 : Int32) (thr : Int32) (mel : Int32) (hM : (Nat → Int32)) (lM : (Nat → Int32)) (oM : (Nat → Int32)) (kM : (Nat → Int32)) (zM : (Nat → Int32)) (H : Heap) (locs : List Loc) (ls : Array Slot), w_X2_meld_b132 post p0 p1 p2 n v5 thr mel hM lM oM kM zM → va_P (dC, dI) vwCl [(y, .inr (2, [.int thr, .ref bH, .ref bS, .ref bL, .int mel, .ref bO, .ref bK, .ref bZ, .int sea, .int rnd, .int bas, .int lim, .ref bR, .ref bG, .ref bB, .ref bX])), (bH, .inl (cI, 34, .inl hM)), (bL, .inl (cI, 34, .inl lM)), (bO, .inl (cI, 4, .inl oM)), (bK, .inl (cI, 4, .inl kM)), (bZ, .inl (cZ, 4, .inl zM))] H → va_D A [(y, .inr (2, [.int thr, .ref bH, .ref bS, .ref bL, .int mel, .ref bO, .ref bK, .ref bZ, .int sea, .int rnd, .int bas, .int lim, .ref bR, .ref bG, .ref bB, .ref bX])), (bH, .inl (cI, 34, .inl hM)), (bL, .inl (cI, 34, .inl lM)), (bO, .inl (cI, 4, .inl oM)), (bK, .inl (cI, 4, .inl kM)), (bZ, .inl (cZ, 4, .inl zM))] → va_S A s.heap H locs → lv_has ls 6 [(0, .ref y), (1, .int p0), (2, .int p1), (3, .int p2), (5, .int v5)] → W p l e ({ frames := 3, cells := 0, slots := 0, locals := 60 } : Room) s m ([.ref y, .int p0, .int p1, .int p2] : List Value).toArray below meth c H locs 0 0 Q9 (F0 m 132 ls []) := by
    intro n
    induction n with
    | zero => intro v5 thr mel hM lM oM kM zM H locs ls hw _ _ _ _; exact False.elim hw
    | succ n ih =>
      intro v5 thr mel hM lM oM kM zM H locs ls hw hP hD hS hl
      refine lv_iload hx hb dX2_meld_132 (lv_at hl 4 rfl) ?_
      refine lv_iload_n hx hb dX2_meld_134 rfl (lv_at hl 2 rfl) ?_
      refine lv_iconst (v := 3) hx hb dX2_meld_135 (by decide) ?_
      refine lv_iadd hx hb dX2_meld_136 ?_
      refine lv_icmp_ge (tgt := 153) hx hb dX2_meld_137 (by decide) (fun c22 => ?_) (fun c22 => ?_)
      · have hw := hw.1 c22
        exact L153 thr mel hM lM oM kM zM _ _ _ hw hP hD hS (lv_sub hl [0, 1, 2, 3] rfl)
      · have hw := hw.2 c22
        refine lv_aload_n hx hb dX2_meld_140 rfl (lv_at hl 0 rfl) ?_
        refine lv_iload hx hb dX2_meld_141 (lv_at hl 4 rfl) ?_
        refine lv_iconst (v := 1) hx hb dX2_meld_143 (by decide) ?_
        have hPc := hP.sub (ws' := [(y, .inr (2, [.int thr, .ref bH, .ref bS, .ref bL, .int mel, .ref bO, .ref bK, .ref bZ, .int sea, .int rnd, .int bas, .int lim, .ref bR, .ref bG, .ref bB, .ref bX])), (bH, .inl (cI, 34, .inl hM)), (bL, .inl (cI, 34, .inl lM))]) [0, 1, 2] rfl
        have hDc := hD.sub (ws' := [(y, .inr (2, [.int thr, .ref bH, .ref bS, .ref bL, .int mel, .ref bO, .ref bK, .ref bZ, .int sea, .int rnd, .int bas, .int lim, .ref bR, .ref bG, .ref bB, .ref bX])), (bH, .inl (cI, 34, .inl hM)), (bL, .inl (cI, 34, .inl lM))]) [0, 1, 2] (by decide) rfl
        have hFc := va_free (wc := [(y, .inr (2, [.int thr, .ref bH, .ref bS, .ref bL, .int mel, .ref bO, .ref bK, .ref bZ, .int sea, .int rnd, .int bas, .int lim, .ref bR, .ref bG, .ref bB, .ref bX])), (bH, .inl (cI, 34, .inl hM)), (bL, .inl (cI, 34, .inl lM))]) hD hS hA [0, 1, 2] rfl
        refine va_callv (va_runV (As := [.int v5, .int (1 : Int32)]) (rest := []) ⟨hx, hb, hml, hown, hts⟩ (c_X2_lay l dC dI cI cZ y bH bS bL bO bK bZ bR bG bB bX H.size thr mel sea rnd bas lim hM lM v5 (1 : Int32) _ hw) (cwV 2 hts gX2_meld_X2_lay rfl rfl rfl (by decide +kernel) ⟨Nat.le_of_ble_eq_true rfl, Nat.le_of_ble_eq_true rfl⟩) ⟨fun a U g mk q => by obtain ⟨q0, q1, qP, qK, qD⟩ := q; exact ⟨q0, q1, qP, va_K.moved (u := U) (U := U.calling g mk a) (Vm.Alike.refl U.vm) qK, qD⟩, va_recv hK hPc (ci := 2) (q0 := 0) rfl rfl, fun U hU hW => ⟨rfl, by rw [hU], by rw [hU]; exact hPc, va_K.moved hW.alike hK, hDc.weaken (fun _ _ _ _ => trivial)⟩⟩ rfl rfl hl.1 rfl (lv_room (Nat.le_of_ble_eq_true rfl)) dX2_meld_144 ⟨Nat.le_of_ble_eq_true rfl, Nat.le_of_ble_eq_true rfl⟩) hS (fun q _ h => hFc q h) hFc (fun u t H1 locs ht hvm hw hB hz1 hk1 hS => ?_)
        obtain ⟨hM_23, lM_24⟩ := u
        obtain ⟨hP1, -, hD1⟩ := hB
        have hw := And.intro hw trivial
        try dsimp only at hw
        have hw := hw.1
        rw [ht] at hP1
        obtain ⟨hP, hD⟩ := va_join (wr := [(bO, .inl (cI, 4, .inl oM)), (bK, .inl (cI, 4, .inl kM)), (bZ, .inl (cZ, 4, .inl zM))]) (w1 := [(y, .inr (2, [.int thr, .ref bH, .ref bS, .ref bL, .int mel, .ref bO, .ref bK, .ref bZ, .int sea, .int rnd, .int bas, .int lim, .ref bR, .ref bG, .ref bB, .ref bX])), (bH, .inl (cI, 34, .inl hM_23)), (bL, .inl (cI, 34, .inl lM_24))]) hP hD [0, 1, 2] [3, 4, 5] rfl rfl (by decide) (by decide) hk1 hFc hP1 hD1
        generalize H1 = H at hP hS ⊢
        have hP : va_P (dC, dI) vwCl [(bO, .inl (cI, 4, .inl oM)), (bK, .inl (cI, 4, .inl kM)), (bZ, .inl (cZ, 4, .inl zM)), (y, .inr (2, [.int thr, .ref bH, .ref bS, .ref bL, .int mel, .ref bO, .ref bK, .ref bZ, .int sea, .int rnd, .int bas, .int lim, .ref bR, .ref bG, .ref bB, .ref bX])), (bH, .inl (cI, 34, .inl hM_23)), (bL, .inl (cI, 34, .inl lM_24))] H := hP
        have hD : va_D A [(bO, .inl (cI, 4, .inl oM)), (bK, .inl (cI, 4, .inl kM)), (bZ, .inl (cZ, 4, .inl zM)), (y, .inr (2, [.int thr, .ref bH, .ref bS, .ref bL, .int mel, .ref bO, .ref bK, .ref bZ, .int sea, .int rnd, .int bas, .int lim, .ref bR, .ref bG, .ref bB, .ref bX])), (bH, .inl (cI, 34, .inl hM_23)), (bL, .inl (cI, 34, .inl lM_24))] := hD
        refine lv_iinc (v := v5 + 1) (lv' := [(5, .int (v5 + 1)), (0, .ref y), (1, .int p0), (2, .int p1), (3, .int p2)]) hx hb dX2_meld_147 hl (k := 4) rfl rfl (by decide) rfl (fun ls hl => ?_)
        refine lv_goto (tgt := 132) hx hb dX2_meld_150 (by decide) ?_
        have hP9 := hP.sub (ws' := [(y, .inr (2, [.int thr, .ref bH, .ref bS, .ref bL, .int mel, .ref bO, .ref bK, .ref bZ, .int sea, .int rnd, .int bas, .int lim, .ref bR, .ref bG, .ref bB, .ref bX])), (bH, .inl (cI, 34, .inl hM_23)), (bL, .inl (cI, 34, .inl lM_24)), (bO, .inl (cI, 4, .inl oM)), (bK, .inl (cI, 4, .inl kM)), (bZ, .inl (cZ, 4, .inl zM))]) [3, 4, 5, 0, 1, 2] rfl
        have hD9 := hD.sub (ws' := [(y, .inr (2, [.int thr, .ref bH, .ref bS, .ref bL, .int mel, .ref bO, .ref bK, .ref bZ, .int sea, .int rnd, .int bas, .int lim, .ref bR, .ref bG, .ref bB, .ref bX])), (bH, .inl (cI, 34, .inl hM_23)), (bL, .inl (cI, 34, .inl lM_24)), (bO, .inl (cI, 4, .inl oM)), (bK, .inl (cI, 4, .inl kM)), (bZ, .inl (cZ, 4, .inl zM))]) [3, 4, 5, 0, 1, 2] (by decide) rfl
        exact ih (v5 + 1) thr mel hM_23 lM_24 oM kM zM _ _ _ hw hP9 hD9 hS (lv_sub hl [1, 2, 3, 4, 0] rfl)
  have L104 : ∀ (s1 : Int32) (thr : Int32) (mel : Int32) (hM : (Nat → Int32)) (lM : (Nat → Int32)) (oM : (Nat → Int32)) (kM : (Nat → Int32)) (zM : (Nat → Int32)) (H : Heap) (locs : List Loc) (ls : Array Slot), w_X2_meld_b104 post p0 p1 p2 s1 thr mel hM lM oM kM zM → va_P (dC, dI) vwCl [(y, .inr (2, [.int thr, .ref bH, .ref bS, .ref bL, .int mel, .ref bO, .ref bK, .ref bZ, .int sea, .int rnd, .int bas, .int lim, .ref bR, .ref bG, .ref bB, .ref bX])), (bH, .inl (cI, 34, .inl hM)), (bL, .inl (cI, 34, .inl lM)), (bO, .inl (cI, 4, .inl oM)), (bK, .inl (cI, 4, .inl kM)), (bZ, .inl (cZ, 4, .inl zM))] H → va_D A [(y, .inr (2, [.int thr, .ref bH, .ref bS, .ref bL, .int mel, .ref bO, .ref bK, .ref bZ, .int sea, .int rnd, .int bas, .int lim, .ref bR, .ref bG, .ref bB, .ref bX])), (bH, .inl (cI, 34, .inl hM)), (bL, .inl (cI, 34, .inl lM)), (bO, .inl (cI, 4, .inl oM)), (bK, .inl (cI, 4, .inl kM)), (bZ, .inl (cZ, 4, .inl zM))] → va_S A s.heap H locs → lv_has ls 6 [(0, .ref y), (1, .int p0), (2, .int p1), (3, .int p2)] → W p l e ({ frames := 3, cells := 0, slots := 0, locals := 60 } : Room) s m ([.ref y, .int p0, .int p1, .int p2] : List Value).toArray below meth c H locs 0 0 Q9 (F0 m 104 ls [.int s1]) := by
    intro s1 thr mel hM lM oM kM zM H locs ls hw hP hD hS hl
    refine lv_istore (lv' := [(4, .int s1), (0, .ref y), (1, .int p0), (2, .int p1), (3, .int p2)]) hx hb dX2_meld_104 hl (by decide) rfl (fun ls hl => ?_)
    refine lv_iload hx hb dX2_meld_106 (lv_at hl 0 rfl) ?_
    refine lv_if_eq (tgt := 119) hx hb dX2_meld_108 (by decide) (fun c11 => ?_) (fun c11 => ?_)
    · have hw := hw.1 c11
      exact L119 thr mel hM lM oM kM zM _ _ _ hw hP hD hS (lv_sub hl [1] rfl)
    · have hw := hw.2 c11
      refine lv_aload_n hx hb dX2_meld_111 rfl (lv_at hl 1 rfl) ?_
      refine va_get (D := (dC, dI)) (ci := 2) (v := .int mel) (C := RX2) (T := TX2) (N := 16) hx hb hts hinX2 hown hK hP 0 rfl rfl 4 (by decide) (hts (.fieldLink RX2 69 "TileHandModel" "melds" "I") (by decide +kernel)) (fun _ h9 => h9) rfl dX2_meld_112 ?_
      refine lv_iconst (v := 4) hx hb dX2_meld_115 (by decide) ?_
      refine lv_icmp_ne (tgt := 125) hx hb dX2_meld_116 (by decide) (fun c14 => ?_) (fun c14 => ?_)
      · have hw := hw.2 c14
        refine lv_iload_n hx hb dX2_meld_125 rfl (lv_at hl 2 rfl) ?_
        refine lv_if_ne (tgt := 156) hx hb dX2_meld_126 (by decide) (fun c15 => ?_) (fun c15 => ?_)
        · have hw := hw.2 c15
          refine lv_aload_n hx hb dX2_meld_156 rfl (lv_at hl 1 rfl) ?_
          refine lv_iload_n hx hb dX2_meld_157 rfl (lv_at hl 3 rfl) ?_
          refine lv_iload_n hx hb dX2_meld_158 rfl (lv_at hl 2 rfl) ?_
          refine lv_iconst (v := 2) hx hb dX2_meld_159 (by decide) ?_
          refine lv_iadd hx hb dX2_meld_160 ?_
          have hPc := hP.sub (ws' := [(y, .inr (2, [.int thr, .ref bH, .ref bS, .ref bL, .int mel, .ref bO, .ref bK, .ref bZ, .int sea, .int rnd, .int bas, .int lim, .ref bR, .ref bG, .ref bB, .ref bX])), (bH, .inl (cI, 34, .inl hM)), (bL, .inl (cI, 34, .inl lM))]) [0, 1, 2] rfl
          have hDc := hD.sub (ws' := [(y, .inr (2, [.int thr, .ref bH, .ref bS, .ref bL, .int mel, .ref bO, .ref bK, .ref bZ, .int sea, .int rnd, .int bas, .int lim, .ref bR, .ref bG, .ref bB, .ref bX])), (bH, .inl (cI, 34, .inl hM)), (bL, .inl (cI, 34, .inl lM))]) [0, 1, 2] (by decide) rfl
          have hFc := va_free (wc := [(y, .inr (2, [.int thr, .ref bH, .ref bS, .ref bL, .int mel, .ref bO, .ref bK, .ref bZ, .int sea, .int rnd, .int bas, .int lim, .ref bR, .ref bG, .ref bB, .ref bX])), (bH, .inl (cI, 34, .inl hM)), (bL, .inl (cI, 34, .inl lM))]) hD hS hA [0, 1, 2] rfl
          refine va_callv (va_runV (As := [.int p1, .int (p0 + (2 : Int32))]) (rest := []) ⟨hx, hb, hml, hown, hts⟩ (c_X2_lay l dC dI cI cZ y bH bS bL bO bK bZ bR bG bB bX H.size thr mel sea rnd bas lim hM lM p1 (p0 + (2 : Int32)) _ hw) (cwV 2 hts gX2_meld_X2_lay rfl rfl rfl (by decide +kernel) ⟨Nat.le_of_ble_eq_true rfl, Nat.le_of_ble_eq_true rfl⟩) ⟨fun a U g mk q => by obtain ⟨q0, q1, qP, qK, qD⟩ := q; exact ⟨q0, q1, qP, va_K.moved (u := U) (U := U.calling g mk a) (Vm.Alike.refl U.vm) qK, qD⟩, va_recv hK hPc (ci := 2) (q0 := 0) rfl rfl, fun U hU hW => ⟨rfl, by rw [hU], by rw [hU]; exact hPc, va_K.moved hW.alike hK, hDc.weaken (fun _ _ _ _ => trivial)⟩⟩ rfl rfl hl.1 rfl (lv_room (Nat.le_of_ble_eq_true rfl)) dX2_meld_161 ⟨Nat.le_of_ble_eq_true rfl, Nat.le_of_ble_eq_true rfl⟩) hS (fun q _ h => hFc q h) hFc (fun u t H1 locs ht hvm hw hB hz1 hk1 hS => ?_)
          obtain ⟨hM_16, lM_17⟩ := u
          obtain ⟨hP1, -, hD1⟩ := hB
          have hw := And.intro hw trivial
          try dsimp only at hw
          have hw := hw.1
          rw [ht] at hP1
          obtain ⟨hP, hD⟩ := va_join (wr := [(bO, .inl (cI, 4, .inl oM)), (bK, .inl (cI, 4, .inl kM)), (bZ, .inl (cZ, 4, .inl zM))]) (w1 := [(y, .inr (2, [.int thr, .ref bH, .ref bS, .ref bL, .int mel, .ref bO, .ref bK, .ref bZ, .int sea, .int rnd, .int bas, .int lim, .ref bR, .ref bG, .ref bB, .ref bX])), (bH, .inl (cI, 34, .inl hM_16)), (bL, .inl (cI, 34, .inl lM_17))]) hP hD [0, 1, 2] [3, 4, 5] rfl rfl (by decide) (by decide) hk1 hFc hP1 hD1
          generalize H1 = H at hP hS ⊢
          have hP : va_P (dC, dI) vwCl [(bO, .inl (cI, 4, .inl oM)), (bK, .inl (cI, 4, .inl kM)), (bZ, .inl (cZ, 4, .inl zM)), (y, .inr (2, [.int thr, .ref bH, .ref bS, .ref bL, .int mel, .ref bO, .ref bK, .ref bZ, .int sea, .int rnd, .int bas, .int lim, .ref bR, .ref bG, .ref bB, .ref bX])), (bH, .inl (cI, 34, .inl hM_16)), (bL, .inl (cI, 34, .inl lM_17))] H := hP
          have hD : va_D A [(bO, .inl (cI, 4, .inl oM)), (bK, .inl (cI, 4, .inl kM)), (bZ, .inl (cZ, 4, .inl zM)), (y, .inr (2, [.int thr, .ref bH, .ref bS, .ref bL, .int mel, .ref bO, .ref bK, .ref bZ, .int sea, .int rnd, .int bas, .int lim, .ref bR, .ref bG, .ref bB, .ref bX])), (bH, .inl (cI, 34, .inl hM_16)), (bL, .inl (cI, 34, .inl lM_17))] := hD
          have hP9 := hP.sub (ws' := [(y, .inr (2, [.int thr, .ref bH, .ref bS, .ref bL, .int mel, .ref bO, .ref bK, .ref bZ, .int sea, .int rnd, .int bas, .int lim, .ref bR, .ref bG, .ref bB, .ref bX])), (bH, .inl (cI, 34, .inl hM_16)), (bL, .inl (cI, 34, .inl lM_17)), (bO, .inl (cI, 4, .inl oM)), (bK, .inl (cI, 4, .inl kM)), (bZ, .inl (cZ, 4, .inl zM))]) [3, 4, 5, 0, 1, 2] rfl
          have hD9 := hD.sub (ws' := [(y, .inr (2, [.int thr, .ref bH, .ref bS, .ref bL, .int mel, .ref bO, .ref bK, .ref bZ, .int sea, .int rnd, .int bas, .int lim, .ref bR, .ref bG, .ref bB, .ref bX])), (bH, .inl (cI, 34, .inl hM_16)), (bL, .inl (cI, 34, .inl lM_17)), (bO, .inl (cI, 4, .inl oM)), (bK, .inl (cI, 4, .inl kM)), (bZ, .inl (cZ, 4, .inl zM))]) [3, 4, 5, 0, 1, 2] (by decide) rfl
          exact L164 thr mel hM_16 lM_17 oM kM zM _ _ _ hw hP9 hD9 hS (lv_sub hl [1, 2, 3, 4] rfl)
        · have hw := hw.1 c15
          refine lv_iload_n hx hb dX2_meld_129 rfl (lv_at hl 3 rfl) ?_
          refine lv_istore (lv' := [(5, .int p1), (4, .int s1), (0, .ref y), (1, .int p0), (2, .int p1), (3, .int p2)]) hx hb dX2_meld_130 hl (by decide) rfl (fun ls hl => ?_)
          obtain ⟨n9, hw⟩ := hw
          exact L132 n9 p1 thr mel hM lM oM kM zM _ _ _ hw hP hD hS (lv_sub hl [2, 3, 4, 5, 0] rfl)
      · have hw := hw.1 c14
        exact L119 thr mel hM lM oM kM zM _ _ _ hw hP hD hS (lv_sub hl [1] rfl)
  have L83 : ∀ (thr : Int32) (mel : Int32) (hM : (Nat → Int32)) (lM : (Nat → Int32)) (oM : (Nat → Int32)) (kM : (Nat → Int32)) (zM : (Nat → Int32)) (H : Heap) (locs : List Loc) (ls : Array Slot), w_X2_meld_b83 post p0 p1 p2 thr mel hM lM oM kM zM → va_P (dC, dI) vwCl [(y, .inr (2, [.int thr, .ref bH, .ref bS, .ref bL, .int mel, .ref bO, .ref bK, .ref bZ, .int sea, .int rnd, .int bas, .int lim, .ref bR, .ref bG, .ref bB, .ref bX])), (bH, .inl (cI, 34, .inl hM)), (bL, .inl (cI, 34, .inl lM)), (bO, .inl (cI, 4, .inl oM)), (bK, .inl (cI, 4, .inl kM)), (bZ, .inl (cZ, 4, .inl zM))] H → va_D A [(y, .inr (2, [.int thr, .ref bH, .ref bS, .ref bL, .int mel, .ref bO, .ref bK, .ref bZ, .int sea, .int rnd, .int bas, .int lim, .ref bR, .ref bG, .ref bB, .ref bX])), (bH, .inl (cI, 34, .inl hM)), (bL, .inl (cI, 34, .inl lM)), (bO, .inl (cI, 4, .inl oM)), (bK, .inl (cI, 4, .inl kM)), (bZ, .inl (cZ, 4, .inl zM))] → va_S A s.heap H locs → lv_has ls 6 [(0, .ref y), (1, .int p0), (2, .int p1), (3, .int p2)] → W p l e ({ frames := 3, cells := 0, slots := 0, locals := 60 } : Room) s m ([.ref y, .int p0, .int p1, .int p2] : List Value).toArray below meth c H locs 0 0 Q9 (F0 m 83 ls []) := by
    intro thr mel hM lM oM kM zM H locs ls hw hP hD hS hl
    refine lv_iconst (v := 0) hx hb dX2_meld_83 (by decide) ?_
    refine lv_goto (tgt := 104) hx hb dX2_meld_84 (by decide) ?_
    exact L104 (0 : Int32) thr mel hM lM oM kM zM _ _ _ hw hP hD hS (lv_sub hl [0, 1, 2, 3] rfl)
  have L44 : ∀ (thr : Int32) (mel : Int32) (hM : (Nat → Int32)) (lM : (Nat → Int32)) (oM : (Nat → Int32)) (kM : (Nat → Int32)) (zM : (Nat → Int32)) (H : Heap) (locs : List Loc) (ls : Array Slot), w_X2_meld_b44 post p0 p1 p2 thr mel hM lM oM kM zM → va_P (dC, dI) vwCl [(y, .inr (2, [.int thr, .ref bH, .ref bS, .ref bL, .int mel, .ref bO, .ref bK, .ref bZ, .int sea, .int rnd, .int bas, .int lim, .ref bR, .ref bG, .ref bB, .ref bX])), (bH, .inl (cI, 34, .inl hM)), (bL, .inl (cI, 34, .inl lM)), (bO, .inl (cI, 4, .inl oM)), (bK, .inl (cI, 4, .inl kM)), (bZ, .inl (cZ, 4, .inl zM))] H → va_D A [(y, .inr (2, [.int thr, .ref bH, .ref bS, .ref bL, .int mel, .ref bO, .ref bK, .ref bZ, .int sea, .int rnd, .int bas, .int lim, .ref bR, .ref bG, .ref bB, .ref bX])), (bH, .inl (cI, 34, .inl hM)), (bL, .inl (cI, 34, .inl lM)), (bO, .inl (cI, 4, .inl oM)), (bK, .inl (cI, 4, .inl kM)), (bZ, .inl (cZ, 4, .inl zM))] → va_S A s.heap H locs → lv_has ls 6 [(0, .ref y), (1, .int p0), (2, .int p1), (3, .int p2)] → W p l e ({ frames := 3, cells := 0, slots := 0, locals := 60 } : Room) s m ([.ref y, .int p0, .int p1, .int p2] : List Value).toArray below meth c H locs 0 0 Q9 (F0 m 44 ls []) := by
    intro thr mel hM lM oM kM zM H locs ls hw hP hD hS hl
    refine lv_iload_n hx hb dX2_meld_44 rfl (lv_at hl 1 rfl) ?_
    refine lv_if_ne (tgt := 87) hx hb dX2_meld_45 (by decide) (fun c8 => ?_) (fun c8 => ?_)
    · have hw := hw.2 c8
      refine lv_aload_n hx hb dX2_meld_87 rfl (lv_at hl 0 rfl) ?_
      refine va_get (D := (dC, dI)) (ci := 2) (v := .ref bH) (C := RX2) (T := TX2) (N := 16) hx hb hts hinX2 hown hK hP 0 rfl rfl 1 (by decide) (hts (.fieldLink RX2 9 "TileHandModel" "hand" "[I") (by decide +kernel)) (fun _ h9 => h9) rfl dX2_meld_88 ?_
      refine lv_iload_n hx hb dX2_meld_91 rfl (lv_at hl 2 rfl) ?_
      obtain ⟨h9, hw⟩ := hw
      refine va_iald hx hb hK hP 1 0 rfl rfl h9 dX2_meld_92 ?_
      refine lv_iload_n hx hb dX2_meld_93 rfl (lv_at hl 1 rfl) ?_
      refine lv_iconst (v := 2) hx hb dX2_meld_94 (by decide) ?_
      refine lv_iadd hx hb dX2_meld_95 ?_
      refine lv_icmp_lt (tgt := 103) hx hb dX2_meld_96 (by decide) (fun c10 => ?_) (fun c10 => ?_)
      · have hw := hw.1 c10
        refine lv_iconst (v := 0) hx hb dX2_meld_103 (by decide) ?_
        exact L104 (0 : Int32) thr mel hM lM oM kM zM _ _ _ hw hP hD hS (lv_sub hl [0, 1, 2, 3] rfl)
      · have hw := hw.2 c10
        refine lv_iconst (v := 1) hx hb dX2_meld_99 (by decide) ?_
        refine lv_goto (tgt := 104) hx hb dX2_meld_100 (by decide) ?_
        exact L104 (1 : Int32) thr mel hM lM oM kM zM _ _ _ hw hP hD hS (lv_sub hl [0, 1, 2, 3] rfl)
    · have hw := hw.1 c8
      refine lv_aload_n hx hb dX2_meld_48 rfl (lv_at hl 0 rfl) ?_
      refine va_get (D := (dC, dI)) (ci := 2) (v := .ref bH) (C := RX2) (T := TX2) (N := 16) hx hb hts hinX2 hown hK hP 0 rfl rfl 1 (by decide) (hts (.fieldLink RX2 9 "TileHandModel" "hand" "[I") (by decide +kernel)) (fun _ h9 => h9) rfl dX2_meld_49 ?_
      refine lv_iload_n hx hb dX2_meld_52 rfl (lv_at hl 2 rfl) ?_
      obtain ⟨h25, hw⟩ := hw
      refine va_iald hx hb hK hP 1 0 rfl rfl h25 dX2_meld_53 ?_
      refine lv_if_le (tgt := 83) hx hb dX2_meld_54 (by decide) (fun c26 => ?_) (fun c26 => ?_)
      · have hw := hw.1 c26
        exact L83 thr mel hM lM oM kM zM _ _ _ hw hP hD hS (lv_sub hl [0, 1, 2, 3] rfl)
      · have hw := hw.2 c26
        refine lv_aload_n hx hb dX2_meld_57 rfl (lv_at hl 0 rfl) ?_
        refine va_get (D := (dC, dI)) (ci := 2) (v := .ref bH) (C := RX2) (T := TX2) (N := 16) hx hb hts hinX2 hown hK hP 0 rfl rfl 1 (by decide) (hts (.fieldLink RX2 9 "TileHandModel" "hand" "[I") (by decide +kernel)) (fun _ h9 => h9) rfl dX2_meld_58 ?_
        refine lv_iload_n hx hb dX2_meld_61 rfl (lv_at hl 2 rfl) ?_
        refine lv_iconst (v := 1) hx hb dX2_meld_62 (by decide) ?_
        refine lv_iadd hx hb dX2_meld_63 ?_
        obtain ⟨h27, hw⟩ := hw
        refine va_iald hx hb hK hP 1 0 rfl rfl h27 dX2_meld_64 ?_
        refine lv_if_le (tgt := 83) hx hb dX2_meld_65 (by decide) (fun c28 => ?_) (fun c28 => ?_)
        · have hw := hw.1 c28
          exact L83 thr mel hM lM oM kM zM _ _ _ hw hP hD hS (lv_sub hl [0, 1, 2, 3] rfl)
        · have hw := hw.2 c28
          refine lv_aload_n hx hb dX2_meld_68 rfl (lv_at hl 0 rfl) ?_
          refine va_get (D := (dC, dI)) (ci := 2) (v := .ref bH) (C := RX2) (T := TX2) (N := 16) hx hb hts hinX2 hown hK hP 0 rfl rfl 1 (by decide) (hts (.fieldLink RX2 9 "TileHandModel" "hand" "[I") (by decide +kernel)) (fun _ h9 => h9) rfl dX2_meld_69 ?_
          refine lv_iload_n hx hb dX2_meld_72 rfl (lv_at hl 2 rfl) ?_
          refine lv_iconst (v := 2) hx hb dX2_meld_73 (by decide) ?_
          refine lv_iadd hx hb dX2_meld_74 ?_
          obtain ⟨h29, hw⟩ := hw
          refine va_iald hx hb hK hP 1 0 rfl rfl h29 dX2_meld_75 ?_
          refine lv_if_le (tgt := 83) hx hb dX2_meld_76 (by decide) (fun c30 => ?_) (fun c30 => ?_)
          · have hw := hw.1 c30
            exact L83 thr mel hM lM oM kM zM _ _ _ hw hP hD hS (lv_sub hl [0, 1, 2, 3] rfl)
          · have hw := hw.2 c30
            refine lv_iconst (v := 1) hx hb dX2_meld_79 (by decide) ?_
            refine lv_goto (tgt := 104) hx hb dX2_meld_80 (by decide) ?_
            exact L104 (1 : Int32) thr mel hM lM oM kM zM _ _ _ hw hP hD hS (lv_sub hl [0, 1, 2, 3] rfl)
  refine lv_aload_n hx hb dX2_meld_0 rfl (lv_at hl 0 rfl) ?_
  refine lv_iconst (v := 0) hx hb dX2_meld_1 (by decide) ?_
  refine va_put (D := (dC, dI)) (ci := 2) (v := .int (0 : Int32)) (ty := .int) (C := RX2) (T := TX2) (N := 16) hx hb hts hinX2 tyX2 tyX2_ok nmX2 hown hK hP hD hS 0 rfl rfl 0 (by decide) (hts (.fieldLink RX2 54 "TileHandModel" "thrown" "I") (by decide +kernel)) (fun _ h9 => h9) rfl (by decide +kernel) rfl rfl (Nat.le_of_ble_eq_true rfl) dX2_meld_2 (fun H locs hP hD hS => ?_)
  have hP : va_P (dC, dI) vwCl [(y, .inr (2, [.int (0 : Int32), .ref bH, .ref bS, .ref bL, .int mel, .ref bO, .ref bK, .ref bZ, .int sea, .int rnd, .int bas, .int lim, .ref bR, .ref bG, .ref bB, .ref bX])), (bH, .inl (cI, 34, .inl hM)), (bL, .inl (cI, 34, .inl lM)), (bO, .inl (cI, 4, .inl oM)), (bK, .inl (cI, 4, .inl kM)), (bZ, .inl (cZ, 4, .inl zM))] H := hP
  have hD : va_D A [(y, .inr (2, [.int (0 : Int32), .ref bH, .ref bS, .ref bL, .int mel, .ref bO, .ref bK, .ref bZ, .int sea, .int rnd, .int bas, .int lim, .ref bR, .ref bG, .ref bB, .ref bX])), (bH, .inl (cI, 34, .inl hM)), (bL, .inl (cI, 34, .inl lM)), (bO, .inl (cI, 4, .inl oM)), (bK, .inl (cI, 4, .inl kM)), (bZ, .inl (cZ, 4, .inl zM))] := hD
  refine lv_iload_n hx hb dX2_meld_5 rfl (lv_at hl 2 rfl) ?_
  have hPc := hP.sub (ws' := []) [] rfl
  have hDc := hD.sub (ws' := []) [] (by decide) rfl
  have hFc := va_free (wc := []) hD hS hA [] rfl
  refine va_calli (va_runS (As := [.int p1]) (rest := []) ⟨hx, hb, hml, hown, hts⟩ (c_X2_isKind l dC dI cI cZ H.size p1 _ hw) (va_cwS 1 hts gX2_meld_X2_isKind rfl rfl rfl (by decide +kernel) ⟨Nat.le_of_ble_eq_true rfl, Nat.le_of_ble_eq_true rfl⟩) ⟨fun a U g mk q => by obtain ⟨q0, q1, qP, qK, qD⟩ := q; exact ⟨q0, q1, qP, va_K.moved (u := U) (U := U.calling g mk a) (Vm.Alike.refl U.vm) qK, qD⟩, fun U hU hW => ⟨rfl, by rw [hU], by rw [hU]; exact hPc, va_K.moved hW.alike hK, hDc.weaken (fun _ _ _ _ => trivial)⟩⟩ rfl rfl hl.1 rfl (lv_room (Nat.le_of_ble_eq_true rfl)) dX2_meld_6 ⟨Nat.le_of_ble_eq_true rfl, Nat.le_of_ble_eq_true rfl⟩) hS (fun q _ h => hFc q h) hFc (fun r1 u t H1 locs ht hvm hw hB hz1 hk1 hS => ?_)
  obtain ⟨hP1, -, hD1⟩ := hB
  have hw := And.intro hw trivial
  try dsimp only at hw
  have hw := hw.1
  rw [ht] at hP1
  obtain ⟨hP, hD⟩ := va_join (wr := [(y, .inr (2, [.int (0 : Int32), .ref bH, .ref bS, .ref bL, .int mel, .ref bO, .ref bK, .ref bZ, .int sea, .int rnd, .int bas, .int lim, .ref bR, .ref bG, .ref bB, .ref bX])), (bH, .inl (cI, 34, .inl hM)), (bL, .inl (cI, 34, .inl lM)), (bO, .inl (cI, 4, .inl oM)), (bK, .inl (cI, 4, .inl kM)), (bZ, .inl (cZ, 4, .inl zM))]) (w1 := []) hP hD [] [0, 1, 2, 3, 4, 5] rfl rfl (by decide) (by decide) hk1 hFc hP1 hD1
  generalize H1 = H at hP hS ⊢
  have hP : va_P (dC, dI) vwCl [(y, .inr (2, [.int (0 : Int32), .ref bH, .ref bS, .ref bL, .int mel, .ref bO, .ref bK, .ref bZ, .int sea, .int rnd, .int bas, .int lim, .ref bR, .ref bG, .ref bB, .ref bX])), (bH, .inl (cI, 34, .inl hM)), (bL, .inl (cI, 34, .inl lM)), (bO, .inl (cI, 4, .inl oM)), (bK, .inl (cI, 4, .inl kM)), (bZ, .inl (cZ, 4, .inl zM))] H := hP
  have hD : va_D A [(y, .inr (2, [.int (0 : Int32), .ref bH, .ref bS, .ref bL, .int mel, .ref bO, .ref bK, .ref bZ, .int sea, .int rnd, .int bas, .int lim, .ref bR, .ref bG, .ref bB, .ref bX])), (bH, .inl (cI, 34, .inl hM)), (bL, .inl (cI, 34, .inl lM)), (bO, .inl (cI, 4, .inl oM)), (bK, .inl (cI, 4, .inl kM)), (bZ, .inl (cZ, 4, .inl zM))] := hD
  refine lv_if_ne (tgt := 18) hx hb dX2_meld_9 (by decide) (fun c2 => ?_) (fun c2 => ?_)
  · have hw := hw.2 c2
    refine lv_iload_n hx hb dX2_meld_18 rfl (lv_at hl 1 rfl) ?_
    refine lv_iconst (v := 0) hx hb dX2_meld_19 (by decide) ?_
    refine lv_iconst (v := 2) hx hb dX2_meld_20 (by decide) ?_
    have hPc := hP.sub (ws' := []) [] rfl
    have hDc := hD.sub (ws' := []) [] (by decide) rfl
    have hFc := va_free (wc := []) hD hS hA [] rfl
    refine va_calli (va_runS (As := [.int p0, .int (0 : Int32), .int (2 : Int32)]) (rest := []) ⟨hx, hb, hml, hown, hts⟩ (c_X2_isIn l dC dI cI cZ H.size p0 (0 : Int32) (2 : Int32) _ hw) (va_cwS 3 hts gX2_meld_X2_isIn rfl rfl rfl (by decide +kernel) ⟨Nat.le_of_ble_eq_true rfl, Nat.le_of_ble_eq_true rfl⟩) ⟨fun a U g mk q => by obtain ⟨q0, q1, qP, qK, qD⟩ := q; exact ⟨q0, q1, qP, va_K.moved (u := U) (U := U.calling g mk a) (Vm.Alike.refl U.vm) qK, qD⟩, fun U hU hW => ⟨rfl, by rw [hU], by rw [hU]; exact hPc, va_K.moved hW.alike hK, hDc.weaken (fun _ _ _ _ => trivial)⟩⟩ rfl rfl hl.1 rfl (lv_room (Nat.le_of_ble_eq_true rfl)) dX2_meld_21 ⟨Nat.le_of_ble_eq_true rfl, Nat.le_of_ble_eq_true rfl⟩) hS (fun q _ h => hFc q h) hFc (fun r3 u t H1 locs ht hvm hw hB hz1 hk1 hS => ?_)
    obtain ⟨hP1, -, hD1⟩ := hB
    have hw := And.intro hw trivial
    try dsimp only at hw
    have hw := hw.1
    rw [ht] at hP1
    obtain ⟨hP, hD⟩ := va_join (wr := [(y, .inr (2, [.int (0 : Int32), .ref bH, .ref bS, .ref bL, .int mel, .ref bO, .ref bK, .ref bZ, .int sea, .int rnd, .int bas, .int lim, .ref bR, .ref bG, .ref bB, .ref bX])), (bH, .inl (cI, 34, .inl hM)), (bL, .inl (cI, 34, .inl lM)), (bO, .inl (cI, 4, .inl oM)), (bK, .inl (cI, 4, .inl kM)), (bZ, .inl (cZ, 4, .inl zM))]) (w1 := []) hP hD [] [0, 1, 2, 3, 4, 5] rfl rfl (by decide) (by decide) hk1 hFc hP1 hD1
    generalize H1 = H at hP hS ⊢
    have hP : va_P (dC, dI) vwCl [(y, .inr (2, [.int (0 : Int32), .ref bH, .ref bS, .ref bL, .int mel, .ref bO, .ref bK, .ref bZ, .int sea, .int rnd, .int bas, .int lim, .ref bR, .ref bG, .ref bB, .ref bX])), (bH, .inl (cI, 34, .inl hM)), (bL, .inl (cI, 34, .inl lM)), (bO, .inl (cI, 4, .inl oM)), (bK, .inl (cI, 4, .inl kM)), (bZ, .inl (cZ, 4, .inl zM))] H := hP
    have hD : va_D A [(y, .inr (2, [.int (0 : Int32), .ref bH, .ref bS, .ref bL, .int mel, .ref bO, .ref bK, .ref bZ, .int sea, .int rnd, .int bas, .int lim, .ref bR, .ref bG, .ref bB, .ref bX])), (bH, .inl (cI, 34, .inl hM)), (bL, .inl (cI, 34, .inl lM)), (bO, .inl (cI, 4, .inl oM)), (bK, .inl (cI, 4, .inl kM)), (bZ, .inl (cZ, 4, .inl zM))] := hD
    refine lv_if_eq (tgt := 38) hx hb dX2_meld_24 (by decide) (fun c4 => ?_) (fun c4 => ?_)
    · have hw := hw.1 c4
      exact L38 (0 : Int32) mel hM lM oM kM zM _ _ _ hw hP hD hS (lv_sub hl [0] rfl)
    · have hw := hw.2 c4
      refine lv_iload_n hx hb dX2_meld_27 rfl (lv_at hl 1 rfl) ?_
      refine lv_if_ne (tgt := 44) hx hb dX2_meld_28 (by decide) (fun c7 => ?_) (fun c7 => ?_)
      · have hw := hw.2 c7
        exact L44 (0 : Int32) mel hM lM oM kM zM _ _ _ hw hP hD hS (lv_sub hl [0, 1, 2, 3] rfl)
      · have hw := hw.1 c7
        refine lv_iload_n hx hb dX2_meld_31 rfl (lv_at hl 2 rfl) ?_
        have hPc := hP.sub (ws' := []) [] rfl
        have hDc := hD.sub (ws' := []) [] (by decide) rfl
        have hFc := va_free (wc := []) hD hS hA [] rfl
        refine va_calli (va_runS (As := [.int p1]) (rest := []) ⟨hx, hb, hml, hown, hts⟩ (c_X2_beginsRow l dC dI cI cZ H.size p1 _ hw) (va_cwS 1 hts gX2_meld_X2_beginsRow rfl rfl rfl (by decide +kernel) ⟨Nat.le_of_ble_eq_true rfl, Nat.le_of_ble_eq_true rfl⟩) ⟨fun a U g mk q => by obtain ⟨q0, q1, qP, qK, qD⟩ := q; exact ⟨q0, q1, qP, va_K.moved (u := U) (U := U.calling g mk a) (Vm.Alike.refl U.vm) qK, qD⟩, fun U hU hW => ⟨rfl, by rw [hU], by rw [hU]; exact hPc, va_K.moved hW.alike hK, hDc.weaken (fun _ _ _ _ => trivial)⟩⟩ rfl rfl hl.1 rfl (lv_room (Nat.le_of_ble_eq_true rfl)) dX2_meld_32 ⟨Nat.le_of_ble_eq_true rfl, Nat.le_of_ble_eq_true rfl⟩) hS (fun q _ h => hFc q h) hFc (fun r31 u t H1 locs ht hvm hw hB hz1 hk1 hS => ?_)
        obtain ⟨hP1, -, hD1⟩ := hB
        have hw := And.intro hw trivial
        try dsimp only at hw
        have hw := hw.1
        rw [ht] at hP1
        obtain ⟨hP, hD⟩ := va_join (wr := [(y, .inr (2, [.int (0 : Int32), .ref bH, .ref bS, .ref bL, .int mel, .ref bO, .ref bK, .ref bZ, .int sea, .int rnd, .int bas, .int lim, .ref bR, .ref bG, .ref bB, .ref bX])), (bH, .inl (cI, 34, .inl hM)), (bL, .inl (cI, 34, .inl lM)), (bO, .inl (cI, 4, .inl oM)), (bK, .inl (cI, 4, .inl kM)), (bZ, .inl (cZ, 4, .inl zM))]) (w1 := []) hP hD [] [0, 1, 2, 3, 4, 5] rfl rfl (by decide) (by decide) hk1 hFc hP1 hD1
        generalize H1 = H at hP hS ⊢
        have hP : va_P (dC, dI) vwCl [(y, .inr (2, [.int (0 : Int32), .ref bH, .ref bS, .ref bL, .int mel, .ref bO, .ref bK, .ref bZ, .int sea, .int rnd, .int bas, .int lim, .ref bR, .ref bG, .ref bB, .ref bX])), (bH, .inl (cI, 34, .inl hM)), (bL, .inl (cI, 34, .inl lM)), (bO, .inl (cI, 4, .inl oM)), (bK, .inl (cI, 4, .inl kM)), (bZ, .inl (cZ, 4, .inl zM))] H := hP
        have hD : va_D A [(y, .inr (2, [.int (0 : Int32), .ref bH, .ref bS, .ref bL, .int mel, .ref bO, .ref bK, .ref bZ, .int sea, .int rnd, .int bas, .int lim, .ref bR, .ref bG, .ref bB, .ref bX])), (bH, .inl (cI, 34, .inl hM)), (bL, .inl (cI, 34, .inl lM)), (bO, .inl (cI, 4, .inl oM)), (bK, .inl (cI, 4, .inl kM)), (bZ, .inl (cZ, 4, .inl zM))] := hD
        refine lv_if_ne (tgt := 44) hx hb dX2_meld_35 (by decide) (fun c32 => ?_) (fun c32 => ?_)
        · have hw := hw.2 c32
          exact L44 (0 : Int32) mel hM lM oM kM zM _ _ _ hw hP hD hS (lv_sub hl [0, 1, 2, 3] rfl)
        · have hw := hw.1 c32
          exact L38 (0 : Int32) mel hM lM oM kM zM _ _ _ hw hP hD hS (lv_sub hl [0] rfl)
  · have hw := hw.1 c2
    refine lv_aload_n hx hb dX2_meld_12 rfl (lv_at hl 0 rfl) ?_
    refine lv_iconst (v := 1) hx hb dX2_meld_13 (by decide) ?_
    have hPc := hP.sub (ws' := [(y, .inr (2, [.int (0 : Int32), .ref bH, .ref bS, .ref bL, .int mel, .ref bO, .ref bK, .ref bZ, .int sea, .int rnd, .int bas, .int lim, .ref bR, .ref bG, .ref bB, .ref bX]))]) [0] rfl
    have hDc := hD.sub (ws' := [(y, .inr (2, [.int (0 : Int32), .ref bH, .ref bS, .ref bL, .int mel, .ref bO, .ref bK, .ref bZ, .int sea, .int rnd, .int bas, .int lim, .ref bR, .ref bG, .ref bB, .ref bX]))]) [0] (by decide) rfl
    have hFc := va_free (wc := [(y, .inr (2, [.int (0 : Int32), .ref bH, .ref bS, .ref bL, .int mel, .ref bO, .ref bK, .ref bZ, .int sea, .int rnd, .int bas, .int lim, .ref bR, .ref bG, .ref bB, .ref bX]))]) hD hS hA [0] rfl
    refine va_calli (va_runV (As := [.int (1 : Int32)]) (rest := []) ⟨hx, hb, hml, hown, hts⟩ (c_X2_fail l dC dI cI cZ y bH bS bL bO bK bZ bR bG bB bX H.size (0 : Int32) mel sea rnd bas lim (1 : Int32) _ hw) (cwV 1 hts gX2_meld_X2_fail rfl rfl rfl (by decide +kernel) ⟨Nat.le_of_ble_eq_true rfl, Nat.le_of_ble_eq_true rfl⟩) ⟨fun a U g mk q => by obtain ⟨q0, q1, qP, qK, qD⟩ := q; exact ⟨q0, q1, qP, va_K.moved (u := U) (U := U.calling g mk a) (Vm.Alike.refl U.vm) qK, qD⟩, va_recv hK hPc (ci := 2) (q0 := 0) rfl rfl, fun U hU hW => ⟨rfl, by rw [hU], by rw [hU]; exact hPc, va_K.moved hW.alike hK, hDc.weaken (fun _ _ _ _ => trivial)⟩⟩ rfl rfl hl.1 rfl (lv_room (Nat.le_of_ble_eq_true rfl)) dX2_meld_14 ⟨Nat.le_of_ble_eq_true rfl, Nat.le_of_ble_eq_true rfl⟩) hS (fun q _ h => hFc q h) hFc (fun r33 u t H1 locs ht hvm hw hB hz1 hk1 hS => ?_)
    obtain ⟨thr_34, rfl⟩ : ∃ z, z = u := ⟨_, rfl⟩
    obtain ⟨hP1, -, hD1⟩ := hB
    have hw := And.intro hw trivial
    try dsimp only at hw
    have hw := hw.1
    rw [ht] at hP1
    obtain ⟨hP, hD⟩ := va_join (wr := [(bH, .inl (cI, 34, .inl hM)), (bL, .inl (cI, 34, .inl lM)), (bO, .inl (cI, 4, .inl oM)), (bK, .inl (cI, 4, .inl kM)), (bZ, .inl (cZ, 4, .inl zM))]) (w1 := [(y, .inr (2, [.int thr_34, .ref bH, .ref bS, .ref bL, .int mel, .ref bO, .ref bK, .ref bZ, .int sea, .int rnd, .int bas, .int lim, .ref bR, .ref bG, .ref bB, .ref bX]))]) hP hD [0] [1, 2, 3, 4, 5] rfl rfl (by decide) (by decide) hk1 hFc hP1 hD1
    generalize H1 = H at hP hS ⊢
    have hP : va_P (dC, dI) vwCl [(bH, .inl (cI, 34, .inl hM)), (bL, .inl (cI, 34, .inl lM)), (bO, .inl (cI, 4, .inl oM)), (bK, .inl (cI, 4, .inl kM)), (bZ, .inl (cZ, 4, .inl zM)), (y, .inr (2, [.int thr_34, .ref bH, .ref bS, .ref bL, .int mel, .ref bO, .ref bK, .ref bZ, .int sea, .int rnd, .int bas, .int lim, .ref bR, .ref bG, .ref bB, .ref bX]))] H := hP
    have hD : va_D A [(bH, .inl (cI, 34, .inl hM)), (bL, .inl (cI, 34, .inl lM)), (bO, .inl (cI, 4, .inl oM)), (bK, .inl (cI, 4, .inl kM)), (bZ, .inl (cZ, 4, .inl zM)), (y, .inr (2, [.int thr_34, .ref bH, .ref bS, .ref bL, .int mel, .ref bO, .ref bK, .ref bZ, .int sea, .int rnd, .int bas, .int lim, .ref bR, .ref bG, .ref bB, .ref bX]))] := hD
    have hP9 := hP.sub (ws' := [(y, .inr (2, [.int thr_34, .ref bH, .ref bS, .ref bL, .int mel, .ref bO, .ref bK, .ref bZ, .int sea, .int rnd, .int bas, .int lim, .ref bR, .ref bG, .ref bB, .ref bX])), (bH, .inl (cI, 34, .inl hM)), (bL, .inl (cI, 34, .inl lM)), (bO, .inl (cI, 4, .inl oM)), (bK, .inl (cI, 4, .inl kM)), (bZ, .inl (cZ, 4, .inl zM))]) [5, 0, 1, 2, 3, 4] rfl
    have hD9 := hD.sub (ws' := [(y, .inr (2, [.int thr_34, .ref bH, .ref bS, .ref bL, .int mel, .ref bO, .ref bK, .ref bZ, .int sea, .int rnd, .int bas, .int lim, .ref bR, .ref bG, .ref bB, .ref bX])), (bH, .inl (cI, 34, .inl hM)), (bL, .inl (cI, 34, .inl lM)), (bO, .inl (cI, 4, .inl oM)), (bK, .inl (cI, 4, .inl kM)), (bZ, .inl (cZ, 4, .inl zM))]) [5, 0, 1, 2, 3, 4] (by decide) rfl
    rw [← hQ9]
    exact W.iret (v := r33) hx hb hr (fun t ht hW => ⟨⟨r33, (thr_34, mel, hM, lM, oM, kM, zM), rfl, hw, by rw [ht]; exact hP9, va_K.moved hW.alike hK, hD9⟩, hS.F ht⟩) hS.2.2 dX2_meld_17

def w_X2_grow_b72 (post : Int32 → Int32 → (Nat → Int32) → (Nat → Int32) → (Nat → Int32) → Prop) (mel : Int32) (kM : (Nat → Int32)) (p0 : Int32) (thr : Int32) (hM : (Nat → Int32)) (lM : (Nat → Int32)) (oM : (Nat → Int32)) : Prop := w_X2_fail thr (2 : Int32) (fun r5 thr_6 => (post r5 thr_6 hM lM oM))

def w_X2_grow_b58 (post : Int32 → Int32 → (Nat → Int32) → (Nat → Int32) → (Nat → Int32) → Prop) (mel : Int32) (kM : (Nat → Int32)) (p0 : Int32) (v2 : Int32) (thr : Int32) (hM : (Nat → Int32)) (lM : (Nat → Int32)) (oM : (Nat → Int32)) : Prop := ((v2 = (-1 : Int32) → (w_X2_grow_b72 post mel kM p0 thr hM lM oM)) ∧ (¬ v2 = (-1 : Int32) → (vp_in p0 34 ∧ ((((hM p0.toNatClampNeg) = 0 → (w_X2_grow_b72 post mel kM p0 thr hM lM oM)) ∧ (¬ (hM p0.toNatClampNeg) = 0 → (w_X2_lay hM lM p0 (1 : Int32) (fun hM_9 lM_10 => (vp_in v2 4 ∧ (w_X2_sizeOf mel hM_9 (fun r12 => (post r12 thr hM_9 lM_10 (upd oM v2.toNatClampNeg (2 : Int32))))))))))))))

def w_X2_grow_b52 (post : Int32 → Int32 → (Nat → Int32) → (Nat → Int32) → (Nat → Int32) → Prop) (mel : Int32) (kM : (Nat → Int32)) (p0 : Int32) (K22 : Int32 → Int32 → Int32 → (Nat → Int32) → (Nat → Int32) → (Nat → Int32) → Prop) (v2 : Int32) (v3 : Int32) (thr : Int32) (hM : (Nat → Int32)) (lM : (Nat → Int32)) (oM : (Nat → Int32)) : Prop := K22 v2 (v3 + 1) thr hM lM oM

def w_X2_grow_b22 (post : Int32 → Int32 → (Nat → Int32) → (Nat → Int32) → (Nat → Int32) → Prop) (mel : Int32) (kM : (Nat → Int32)) (p0 : Int32) : Nat → Int32 → Int32 → Int32 → (Nat → Int32) → (Nat → Int32) → (Nat → Int32) → Prop
  | 0, _, _, _, _, _, _ => False
  | n + 1, v2, v3, thr, hM, lM, oM => ((mel ≤ v3 → (w_X2_grow_b58 post mel kM p0 v2 thr hM lM oM)) ∧ (¬ mel ≤ v3 → (vp_in v3 4 ∧ ((((oM v3.toNatClampNeg) = (1 : Int32) → (vp_in v3 4 ∧ ((((kM v3.toNatClampNeg) = p0 → (w_X2_grow_b52 post mel kM p0 (w_X2_grow_b22 post mel kM p0 n) v3 v3 thr hM lM oM)) ∧ (¬ (kM v3.toNatClampNeg) = p0 → (w_X2_grow_b52 post mel kM p0 (w_X2_grow_b22 post mel kM p0 n) v2 v3 thr hM lM oM)))))) ∧ (¬ (oM v3.toNatClampNeg) = (1 : Int32) → (w_X2_grow_b52 post mel kM p0 (w_X2_grow_b22 post mel kM p0 n) v2 v3 thr hM lM oM)))))))

def w_X2_grow (thr : Int32) (mel : Int32) (hM : (Nat → Int32)) (lM : (Nat → Int32)) (oM : (Nat → Int32)) (kM : (Nat → Int32)) (p0 : Int32) (post : Int32 → Int32 → (Nat → Int32) → (Nat → Int32) → (Nat → Int32) → Prop) : Prop := w_X2_isKind p0 (fun r1 => (((r1 = 0 → (w_X2_fail (0 : Int32) (1 : Int32) (fun r17 thr_18 => (post r17 thr_18 hM lM oM)))) ∧ (¬ r1 = 0 → (∃ n9, w_X2_grow_b22 post mel kM p0 n9 (-1 : Int32) (0 : Int32) (0 : Int32) hM lM oM)))))

set_option maxHeartbeats 4000000 in
set_option maxRecDepth 100000 in
theorem c_X2_grow (l : Launch) (dC : Nat → ClassId) (dI : Nat → Nat → Nat) (cI cZ : ClassId) (y : Nat) (bH : Nat) (bS : Nat) (bL : Nat) (bO : Nat) (bK : Nat) (bZ : Nat) (bR : Nat) (bG : Nat) (bB : Nat) (bX : Nat) (sz : Nat) (thr : Int32) (mel : Int32) (sea : Int32) (rnd : Int32) (bas : Int32) (lim : Int32) (hM : (Nat → Int32)) (lM : (Nat → Int32)) (oM : (Nat → Int32)) (kM : (Nat → Int32)) (p0 : Int32) (post : Int32 → Int32 → (Nat → Int32) → (Nat → Int32) → (Nat → Int32) → Prop) (hw : w_X2_grow thr mel hM lM oM kM p0 post) : Met l yX2_grow wsX2_grow ({ frames := 3, cells := 0, slots := 0, locals := 60 } : Room) (va_Pc [.ref y, .int p0] (fun U => U.heap.size = sz ∧ va_P (dC, dI) vwCl [(y, .inr (2, [.int thr, .ref bH, .ref bS, .ref bL, .int mel, .ref bO, .ref bK, .ref bZ, .int sea, .int rnd, .int bas, .int lim, .ref bR, .ref bG, .ref bB, .ref bX])), (bH, .inl (cI, 34, .inl hM)), (bL, .inl (cI, 34, .inl lM)), (bO, .inl (cI, 4, .inl oM)), (bK, .inl (cI, 4, .inl kM))] U.heap ∧ va_K (dC, dI) vwCl [(cI, .int), (cZ, .boolean)] U ∧ va_D (fun _ => True) [(y, .inr (2, [.int thr, .ref bH, .ref bS, .ref bL, .int mel, .ref bO, .ref bK, .ref bZ, .int sea, .int rnd, .int bas, .int lim, .ref bR, .ref bG, .ref bB, .ref bX])), (bH, .inl (cI, 34, .inl hM)), (bL, .inl (cI, 34, .inl lM)), (bO, .inl (cI, 4, .inl oM)), (bK, .inl (cI, 4, .inl kM))])) (va_Qi (fun (r9 : Int32) (u9 : Int32 × (Nat → Int32) × (Nat → Int32) × (Nat → Int32)) => post r9 u9.1 u9.2.1 u9.2.2.1 u9.2.2.2) (fun (u9 : Int32 × (Nat → Int32) × (Nat → Int32) × (Nat → Int32)) (t9 : State) => va_P (dC, dI) vwCl [(y, .inr (2, [.int u9.1, .ref bH, .ref bS, .ref bL, .int mel, .ref bO, .ref bK, .ref bZ, .int sea, .int rnd, .int bas, .int lim, .ref bR, .ref bG, .ref bB, .ref bX])), (bH, .inl (cI, 34, .inl u9.2.1)), (bL, .inl (cI, 34, .inl u9.2.2.1)), (bO, .inl (cI, 4, .inl u9.2.2.2)), (bK, .inl (cI, 4, .inl kM))] t9.heap ∧ va_K (dC, dI) vwCl [(cI, .int), (cZ, .boolean)] t9 ∧ va_D (va_A [(y, .inr (2, [.int thr, .ref bH, .ref bS, .ref bL, .int mel, .ref bO, .ref bK, .ref bZ, .int sea, .int rnd, .int bas, .int lim, .ref bR, .ref bG, .ref bB, .ref bX])), (bH, .inl (cI, 34, .inl hM)), (bL, .inl (cI, 34, .inl lM)), (bO, .inl (cI, 4, .inl oM)), (bK, .inl (cI, 4, .inl kM))] sz) [(y, .inr (2, [.int u9.1, .ref bH, .ref bS, .ref bL, .int mel, .ref bO, .ref bK, .ref bZ, .int sea, .int rnd, .int bas, .int lim, .ref bR, .ref bG, .ref bB, .ref bX])), (bH, .inl (cI, 34, .inl u9.2.1)), (bL, .inl (cI, 34, .inl u9.2.2.1)), (bO, .inl (cI, 4, .inl u9.2.2.2)), (bK, .inl (cI, 4, .inl kM))]) (va_A [(y, .inr (2, [.int thr, .ref bH, .ref bS, .ref bL, .int mel, .ref bO, .ref bK, .ref bZ, .int sea, .int rnd, .int bas, .int lim, .ref bR, .ref bG, .ref bB, .ref bX])), (bH, .inl (cI, 34, .inl hM)), (bL, .inl (cI, 34, .inl lM)), (bO, .inl (cI, 4, .inl oM)), (bK, .inl (cI, 4, .inl kM))] sz)) 0 0 (va_A [(y, .inr (2, [.int thr, .ref bH, .ref bS, .ref bL, .int mel, .ref bO, .ref bK, .ref bZ, .int sea, .int rnd, .int bas, .int lim, .ref bR, .ref bG, .ref bB, .ref bX])), (bH, .inl (cI, 34, .inl hM)), (bL, .inl (cI, 34, .inl lM)), (bO, .inl (cI, 4, .inl oM)), (bK, .inl (cI, 4, .inl kM))] sz) := by
  refine Met.ofW (cc := cX2_grow) (maxL := 4) (ret := (some .int)) (by decide) rfl ?_
  intro p e s m args below meth c s₁ B hml hv
  obtain ⟨rfl, hsz, hP, hK, hD0⟩ := hv
  have hx := B.exec
  have hb := B.bytes
  have hr := B.returns
  have hts := atoms_spec (ws := wsX2_grow) B.pre
  have hown : s.vm.findClass RX2 = some m.cls := findClass_of_methodNamed B.named
  have hlocks := B.notSynchronized
  have hinX2 : ∀ w ∈ u_ws RX2 TX2 16, w ∈ wsX2_grow := by decide +kernel
  subst hsz
  have hD := hD0.self (sz := s.heap.size)
  generalize hAe : va_A [(y, .inr (2, [.int thr, .ref bH, .ref bS, .ref bL, .int mel, .ref bO, .ref bK, .ref bZ, .int sea, .int rnd, .int bas, .int lim, .ref bR, .ref bG, .ref bB, .ref bX])), (bH, .inl (cI, 34, .inl hM)), (bL, .inl (cI, 34, .inl lM)), (bO, .inl (cI, 4, .inl oM)), (bK, .inl (cI, 4, .inl kM))] s.heap.size = A at hD ⊢
  have hA : ∀ q : Nat, s.heap.size ≤ q → A q := fun q h => by rw [← hAe]; exact Or.inr h
  have hS : va_S A s.heap s.heap [] := va_S.rf
  have hl := lv_entry ([.ref y, .int p0]) (n := 4) (Nat.le_of_ble_eq_true rfl)
  rw [lg_entry_eq]
  generalize (lg_sl ([.ref y, .int p0]) ++ List.replicate (4 - (lg_sl ([.ref y, .int p0])).length) Slot.unset).toArray = ls at hl ⊢
  have hl : lv_has ls 4 [(0, .ref y), (1, .int p0)] := hl
  refine (?_ : ∀ Q9 : State → Prop, MQ below _ _ s _ _ _ = Q9 → W p l e ({ frames := 3, cells := 0, slots := 0, locals := 60 } : Room) s m _ below meth c s.heap [] 0 0 Q9 (F0 m 0 ls [])) _ rfl
  intro Q9 hQ9
  have hw : w_X2_isKind p0 (fun r1 => (((r1 = 0 → (w_X2_fail (0 : Int32) (1 : Int32) (fun r17 thr_18 => (post r17 thr_18 hM lM oM)))) ∧ (¬ r1 = 0 → (∃ n9, w_X2_grow_b22 post mel kM p0 n9 (-1 : Int32) (0 : Int32) (0 : Int32) hM lM oM))))) := hw
  have L72 : ∀ (thr : Int32) (hM : (Nat → Int32)) (lM : (Nat → Int32)) (oM : (Nat → Int32)) (H : Heap) (locs : List Loc) (ls : Array Slot), w_X2_grow_b72 post mel kM p0 thr hM lM oM → va_P (dC, dI) vwCl [(y, .inr (2, [.int thr, .ref bH, .ref bS, .ref bL, .int mel, .ref bO, .ref bK, .ref bZ, .int sea, .int rnd, .int bas, .int lim, .ref bR, .ref bG, .ref bB, .ref bX])), (bH, .inl (cI, 34, .inl hM)), (bL, .inl (cI, 34, .inl lM)), (bO, .inl (cI, 4, .inl oM)), (bK, .inl (cI, 4, .inl kM))] H → va_D A [(y, .inr (2, [.int thr, .ref bH, .ref bS, .ref bL, .int mel, .ref bO, .ref bK, .ref bZ, .int sea, .int rnd, .int bas, .int lim, .ref bR, .ref bG, .ref bB, .ref bX])), (bH, .inl (cI, 34, .inl hM)), (bL, .inl (cI, 34, .inl lM)), (bO, .inl (cI, 4, .inl oM)), (bK, .inl (cI, 4, .inl kM))] → va_S A s.heap H locs → lv_has ls 4 [(0, .ref y)] → W p l e ({ frames := 3, cells := 0, slots := 0, locals := 60 } : Room) s m ([.ref y, .int p0] : List Value).toArray below meth c H locs 0 0 Q9 (F0 m 72 ls []) := by
    intro thr hM lM oM H locs ls hw hP hD hS hl
    refine lv_aload_n hx hb dX2_grow_72 rfl (lv_at hl 0 rfl) ?_
    refine lv_iconst (v := 2) hx hb dX2_grow_73 (by decide) ?_
    have hPc := hP.sub (ws' := [(y, .inr (2, [.int thr, .ref bH, .ref bS, .ref bL, .int mel, .ref bO, .ref bK, .ref bZ, .int sea, .int rnd, .int bas, .int lim, .ref bR, .ref bG, .ref bB, .ref bX]))]) [0] rfl
    have hDc := hD.sub (ws' := [(y, .inr (2, [.int thr, .ref bH, .ref bS, .ref bL, .int mel, .ref bO, .ref bK, .ref bZ, .int sea, .int rnd, .int bas, .int lim, .ref bR, .ref bG, .ref bB, .ref bX]))]) [0] (by decide) rfl
    have hFc := va_free (wc := [(y, .inr (2, [.int thr, .ref bH, .ref bS, .ref bL, .int mel, .ref bO, .ref bK, .ref bZ, .int sea, .int rnd, .int bas, .int lim, .ref bR, .ref bG, .ref bB, .ref bX]))]) hD hS hA [0] rfl
    refine va_calli (va_runV (As := [.int (2 : Int32)]) (rest := []) ⟨hx, hb, hml, hown, hts⟩ (c_X2_fail l dC dI cI cZ y bH bS bL bO bK bZ bR bG bB bX H.size thr mel sea rnd bas lim (2 : Int32) _ hw) (cwV 1 hts gX2_grow_X2_fail rfl rfl rfl (by decide +kernel) ⟨Nat.le_of_ble_eq_true rfl, Nat.le_of_ble_eq_true rfl⟩) ⟨fun a U g mk q => by obtain ⟨q0, q1, qP, qK, qD⟩ := q; exact ⟨q0, q1, qP, va_K.moved (u := U) (U := U.calling g mk a) (Vm.Alike.refl U.vm) qK, qD⟩, va_recv hK hPc (ci := 2) (q0 := 0) rfl rfl, fun U hU hW => ⟨rfl, by rw [hU], by rw [hU]; exact hPc, va_K.moved hW.alike hK, hDc.weaken (fun _ _ _ _ => trivial)⟩⟩ rfl rfl hl.1 rfl (lv_room (Nat.le_of_ble_eq_true rfl)) dX2_grow_74 ⟨Nat.le_of_ble_eq_true rfl, Nat.le_of_ble_eq_true rfl⟩) hS (fun q _ h => hFc q h) hFc (fun r5 u t H1 locs ht hvm hw hB hz1 hk1 hS => ?_)
    obtain ⟨thr_6, rfl⟩ : ∃ z, z = u := ⟨_, rfl⟩
    obtain ⟨hP1, -, hD1⟩ := hB
    have hw := And.intro hw trivial
    try dsimp only at hw
    have hw := hw.1
    rw [ht] at hP1
    obtain ⟨hP, hD⟩ := va_join (wr := [(bH, .inl (cI, 34, .inl hM)), (bL, .inl (cI, 34, .inl lM)), (bO, .inl (cI, 4, .inl oM)), (bK, .inl (cI, 4, .inl kM))]) (w1 := [(y, .inr (2, [.int thr_6, .ref bH, .ref bS, .ref bL, .int mel, .ref bO, .ref bK, .ref bZ, .int sea, .int rnd, .int bas, .int lim, .ref bR, .ref bG, .ref bB, .ref bX]))]) hP hD [0] [1, 2, 3, 4] rfl rfl (by decide) (by decide) hk1 hFc hP1 hD1
    generalize H1 = H at hP hS ⊢
    have hP : va_P (dC, dI) vwCl [(bH, .inl (cI, 34, .inl hM)), (bL, .inl (cI, 34, .inl lM)), (bO, .inl (cI, 4, .inl oM)), (bK, .inl (cI, 4, .inl kM)), (y, .inr (2, [.int thr_6, .ref bH, .ref bS, .ref bL, .int mel, .ref bO, .ref bK, .ref bZ, .int sea, .int rnd, .int bas, .int lim, .ref bR, .ref bG, .ref bB, .ref bX]))] H := hP
    have hD : va_D A [(bH, .inl (cI, 34, .inl hM)), (bL, .inl (cI, 34, .inl lM)), (bO, .inl (cI, 4, .inl oM)), (bK, .inl (cI, 4, .inl kM)), (y, .inr (2, [.int thr_6, .ref bH, .ref bS, .ref bL, .int mel, .ref bO, .ref bK, .ref bZ, .int sea, .int rnd, .int bas, .int lim, .ref bR, .ref bG, .ref bB, .ref bX]))] := hD
    have hP9 := hP.sub (ws' := [(y, .inr (2, [.int thr_6, .ref bH, .ref bS, .ref bL, .int mel, .ref bO, .ref bK, .ref bZ, .int sea, .int rnd, .int bas, .int lim, .ref bR, .ref bG, .ref bB, .ref bX])), (bH, .inl (cI, 34, .inl hM)), (bL, .inl (cI, 34, .inl lM)), (bO, .inl (cI, 4, .inl oM)), (bK, .inl (cI, 4, .inl kM))]) [4, 0, 1, 2, 3] rfl
    have hD9 := hD.sub (ws' := [(y, .inr (2, [.int thr_6, .ref bH, .ref bS, .ref bL, .int mel, .ref bO, .ref bK, .ref bZ, .int sea, .int rnd, .int bas, .int lim, .ref bR, .ref bG, .ref bB, .ref bX])), (bH, .inl (cI, 34, .inl hM)), (bL, .inl (cI, 34, .inl lM)), (bO, .inl (cI, 4, .inl oM)), (bK, .inl (cI, 4, .inl kM))]) [4, 0, 1, 2, 3] (by decide) rfl
    rw [← hQ9]
    exact W.iret (v := r5) hx hb hr (fun t ht hW => ⟨⟨r5, (thr_6, hM, lM, oM), rfl, hw, by rw [ht]; exact hP9, va_K.moved hW.alike hK, hD9⟩, hS.F ht⟩) hS.2.2 dX2_grow_77
  have L58 : ∀ (v2 : Int32) (thr : Int32) (hM : (Nat → Int32)) (lM : (Nat → Int32)) (oM : (Nat → Int32)) (H : Heap) (locs : List Loc) (ls : Array Slot), w_X2_grow_b58 post mel kM p0 v2 thr hM lM oM → va_P (dC, dI) vwCl [(y, .inr (2, [.int thr, .ref bH, .ref bS, .ref bL, .int mel, .ref bO, .ref bK, .ref bZ, .int sea, .int rnd, .int bas, .int lim, .ref bR, .ref bG, .ref bB, .ref bX])), (bH, .inl (cI, 34, .inl hM)), (bL, .inl (cI, 34, .inl lM)), (bO, .inl (cI, 4, .inl oM)), (bK, .inl (cI, 4, .inl kM))] H → va_D A [(y, .inr (2, [.int thr, .ref bH, .ref bS, .ref bL, .int mel, .ref bO, .ref bK, .ref bZ, .int sea, .int rnd, .int bas, .int lim, .ref bR, .ref bG, .ref bB, .ref bX])), (bH, .inl (cI, 34, .inl hM)), (bL, .inl (cI, 34, .inl lM)), (bO, .inl (cI, 4, .inl oM)), (bK, .inl (cI, 4, .inl kM))] → va_S A s.heap H locs → lv_has ls 4 [(0, .ref y), (1, .int p0), (2, .int v2)] → W p l e ({ frames := 3, cells := 0, slots := 0, locals := 60 } : Room) s m ([.ref y, .int p0] : List Value).toArray below meth c H locs 0 0 Q9 (F0 m 58 ls []) := by
    intro v2 thr hM lM oM H locs ls hw hP hD hS hl
    refine lv_iload_n hx hb dX2_grow_58 rfl (lv_at hl 2 rfl) ?_
    refine lv_iconst (v := -1) hx hb dX2_grow_59 (by decide) ?_
    refine lv_icmp_eq (tgt := 72) hx hb dX2_grow_60 (by decide) (fun c4 => ?_) (fun c4 => ?_)
    · have hw := hw.1 c4
      exact L72 thr hM lM oM _ _ _ hw hP hD hS (lv_sub hl [0] rfl)
    · have hw := hw.2 c4
      refine lv_aload_n hx hb dX2_grow_63 rfl (lv_at hl 0 rfl) ?_
      refine va_get (D := (dC, dI)) (ci := 2) (v := .ref bH) (C := RX2) (T := TX2) (N := 16) hx hb hts hinX2 hown hK hP 0 rfl rfl 1 (by decide) (hts (.fieldLink RX2 9 "TileHandModel" "hand" "[I") (by decide +kernel)) (fun _ h9 => h9) rfl dX2_grow_64 ?_
      refine lv_iload_n hx hb dX2_grow_67 rfl (lv_at hl 1 rfl) ?_
      obtain ⟨h7, hw⟩ := hw
      refine va_iald hx hb hK hP 1 0 rfl rfl h7 dX2_grow_68 ?_
      refine lv_if_ne (tgt := 78) hx hb dX2_grow_69 (by decide) (fun c8 => ?_) (fun c8 => ?_)
      · have hw := hw.2 c8
        refine lv_aload_n hx hb dX2_grow_78 rfl (lv_at hl 0 rfl) ?_
        refine lv_iload_n hx hb dX2_grow_79 rfl (lv_at hl 1 rfl) ?_
        refine lv_iconst (v := 1) hx hb dX2_grow_80 (by decide) ?_
        have hPc := hP.sub (ws' := [(y, .inr (2, [.int thr, .ref bH, .ref bS, .ref bL, .int mel, .ref bO, .ref bK, .ref bZ, .int sea, .int rnd, .int bas, .int lim, .ref bR, .ref bG, .ref bB, .ref bX])), (bH, .inl (cI, 34, .inl hM)), (bL, .inl (cI, 34, .inl lM))]) [0, 1, 2] rfl
        have hDc := hD.sub (ws' := [(y, .inr (2, [.int thr, .ref bH, .ref bS, .ref bL, .int mel, .ref bO, .ref bK, .ref bZ, .int sea, .int rnd, .int bas, .int lim, .ref bR, .ref bG, .ref bB, .ref bX])), (bH, .inl (cI, 34, .inl hM)), (bL, .inl (cI, 34, .inl lM))]) [0, 1, 2] (by decide) rfl
        have hFc := va_free (wc := [(y, .inr (2, [.int thr, .ref bH, .ref bS, .ref bL, .int mel, .ref bO, .ref bK, .ref bZ, .int sea, .int rnd, .int bas, .int lim, .ref bR, .ref bG, .ref bB, .ref bX])), (bH, .inl (cI, 34, .inl hM)), (bL, .inl (cI, 34, .inl lM))]) hD hS hA [0, 1, 2] rfl
        refine va_callv (va_runV (As := [.int p0, .int (1 : Int32)]) (rest := []) ⟨hx, hb, hml, hown, hts⟩ (c_X2_lay l dC dI cI cZ y bH bS bL bO bK bZ bR bG bB bX H.size thr mel sea rnd bas lim hM lM p0 (1 : Int32) _ hw) (cwV 2 hts gX2_grow_X2_lay rfl rfl rfl (by decide +kernel) ⟨Nat.le_of_ble_eq_true rfl, Nat.le_of_ble_eq_true rfl⟩) ⟨fun a U g mk q => by obtain ⟨q0, q1, qP, qK, qD⟩ := q; exact ⟨q0, q1, qP, va_K.moved (u := U) (U := U.calling g mk a) (Vm.Alike.refl U.vm) qK, qD⟩, va_recv hK hPc (ci := 2) (q0 := 0) rfl rfl, fun U hU hW => ⟨rfl, by rw [hU], by rw [hU]; exact hPc, va_K.moved hW.alike hK, hDc.weaken (fun _ _ _ _ => trivial)⟩⟩ rfl rfl hl.1 rfl (lv_room (Nat.le_of_ble_eq_true rfl)) dX2_grow_81 ⟨Nat.le_of_ble_eq_true rfl, Nat.le_of_ble_eq_true rfl⟩) hS (fun q _ h => hFc q h) hFc (fun u t H1 locs ht hvm hw hB hz1 hk1 hS => ?_)
        obtain ⟨hM_9, lM_10⟩ := u
        obtain ⟨hP1, -, hD1⟩ := hB
        have hw := And.intro hw trivial
        try dsimp only at hw
        have hw := hw.1
        rw [ht] at hP1
        obtain ⟨hP, hD⟩ := va_join (wr := [(bO, .inl (cI, 4, .inl oM)), (bK, .inl (cI, 4, .inl kM))]) (w1 := [(y, .inr (2, [.int thr, .ref bH, .ref bS, .ref bL, .int mel, .ref bO, .ref bK, .ref bZ, .int sea, .int rnd, .int bas, .int lim, .ref bR, .ref bG, .ref bB, .ref bX])), (bH, .inl (cI, 34, .inl hM_9)), (bL, .inl (cI, 34, .inl lM_10))]) hP hD [0, 1, 2] [3, 4] rfl rfl (by decide) (by decide) hk1 hFc hP1 hD1
        generalize H1 = H at hP hS ⊢
        have hP : va_P (dC, dI) vwCl [(bO, .inl (cI, 4, .inl oM)), (bK, .inl (cI, 4, .inl kM)), (y, .inr (2, [.int thr, .ref bH, .ref bS, .ref bL, .int mel, .ref bO, .ref bK, .ref bZ, .int sea, .int rnd, .int bas, .int lim, .ref bR, .ref bG, .ref bB, .ref bX])), (bH, .inl (cI, 34, .inl hM_9)), (bL, .inl (cI, 34, .inl lM_10))] H := hP
        have hD : va_D A [(bO, .inl (cI, 4, .inl oM)), (bK, .inl (cI, 4, .inl kM)), (y, .inr (2, [.int thr, .ref bH, .ref bS, .ref bL, .int mel, .ref bO, .ref bK, .ref bZ, .int sea, .int rnd, .int bas, .int lim, .ref bR, .ref bG, .ref bB, .ref bX])), (bH, .inl (cI, 34, .inl hM_9)), (bL, .inl (cI, 34, .inl lM_10))] := hD
        refine lv_aload_n hx hb dX2_grow_84 rfl (lv_at hl 0 rfl) ?_
        refine va_get (D := (dC, dI)) (ci := 2) (v := .ref bO) (C := RX2) (T := TX2) (N := 16) hx hb hts hinX2 hown hK hP 2 rfl rfl 5 (by decide) (hts (.fieldLink RX2 19 "TileHandModel" "sorts" "[I") (by decide +kernel)) (fun _ h9 => h9) rfl dX2_grow_85 ?_
        refine lv_iload_n hx hb dX2_grow_88 rfl (lv_at hl 2 rfl) ?_
        refine lv_iconst (v := 2) hx hb dX2_grow_89 (by decide) ?_
        obtain ⟨h11, hw⟩ := hw
        refine va_iast hx hb hK hP hD hS 0 0 rfl rfl h11 dX2_grow_90 (fun H locs hP hD hS => ?_)
        have hP : va_P (dC, dI) vwCl [(bO, .inl (cI, 4, .inl (upd oM v2.toNatClampNeg (2 : Int32)))), (bK, .inl (cI, 4, .inl kM)), (y, .inr (2, [.int thr, .ref bH, .ref bS, .ref bL, .int mel, .ref bO, .ref bK, .ref bZ, .int sea, .int rnd, .int bas, .int lim, .ref bR, .ref bG, .ref bB, .ref bX])), (bH, .inl (cI, 34, .inl hM_9)), (bL, .inl (cI, 34, .inl lM_10))] H := hP
        have hD : va_D A [(bO, .inl (cI, 4, .inl (upd oM v2.toNatClampNeg (2 : Int32)))), (bK, .inl (cI, 4, .inl kM)), (y, .inr (2, [.int thr, .ref bH, .ref bS, .ref bL, .int mel, .ref bO, .ref bK, .ref bZ, .int sea, .int rnd, .int bas, .int lim, .ref bR, .ref bG, .ref bB, .ref bX])), (bH, .inl (cI, 34, .inl hM_9)), (bL, .inl (cI, 34, .inl lM_10))] := hD
        refine lv_aload_n hx hb dX2_grow_91 rfl (lv_at hl 0 rfl) ?_
        have hPc := hP.sub (ws' := [(y, .inr (2, [.int thr, .ref bH, .ref bS, .ref bL, .int mel, .ref bO, .ref bK, .ref bZ, .int sea, .int rnd, .int bas, .int lim, .ref bR, .ref bG, .ref bB, .ref bX])), (bH, .inl (cI, 34, .inl hM_9))]) [2, 3] rfl
        have hDc := hD.sub (ws' := [(y, .inr (2, [.int thr, .ref bH, .ref bS, .ref bL, .int mel, .ref bO, .ref bK, .ref bZ, .int sea, .int rnd, .int bas, .int lim, .ref bR, .ref bG, .ref bB, .ref bX])), (bH, .inl (cI, 34, .inl hM_9))]) [2, 3] (by decide) rfl
        have hFc := va_free (wc := [(y, .inr (2, [.int thr, .ref bH, .ref bS, .ref bL, .int mel, .ref bO, .ref bK, .ref bZ, .int sea, .int rnd, .int bas, .int lim, .ref bR, .ref bG, .ref bB, .ref bX])), (bH, .inl (cI, 34, .inl hM_9))]) hD hS hA [2, 3] rfl
        refine va_calli (va_runV (As := []) (rest := []) ⟨hx, hb, hml, hown, hts⟩ (c_X2_sizeOf l dC dI cI cZ y bH bS bL bO bK bZ bR bG bB bX H.size thr mel sea rnd bas lim hM_9 _ hw) (cwV 0 hts gX2_grow_X2_sizeOf rfl rfl rfl (by decide +kernel) ⟨Nat.le_of_ble_eq_true rfl, Nat.le_of_ble_eq_true rfl⟩) ⟨fun a U g mk q => by obtain ⟨q0, q1, qP, qK, qD⟩ := q; exact ⟨q0, q1, qP, va_K.moved (u := U) (U := U.calling g mk a) (Vm.Alike.refl U.vm) qK, qD⟩, va_recv hK hPc (ci := 2) (q0 := 0) rfl rfl, fun U hU hW => ⟨rfl, by rw [hU], by rw [hU]; exact hPc, va_K.moved hW.alike hK, hDc.weaken (fun _ _ _ _ => trivial)⟩⟩ rfl rfl hl.1 rfl (lv_room (Nat.le_of_ble_eq_true rfl)) dX2_grow_92 ⟨Nat.le_of_ble_eq_true rfl, Nat.le_of_ble_eq_true rfl⟩) hS (fun q _ h => hFc q h) hFc (fun r12 u t H1 locs ht hvm hw hB hz1 hk1 hS => ?_)
        obtain ⟨hP1, -, hD1⟩ := hB
        have hw := And.intro hw trivial
        try dsimp only at hw
        have hw := hw.1
        rw [ht] at hP1
        obtain ⟨hP, hD⟩ := va_join (wr := [(bO, .inl (cI, 4, .inl (upd oM v2.toNatClampNeg (2 : Int32)))), (bK, .inl (cI, 4, .inl kM)), (bL, .inl (cI, 34, .inl lM_10))]) (w1 := [(y, .inr (2, [.int thr, .ref bH, .ref bS, .ref bL, .int mel, .ref bO, .ref bK, .ref bZ, .int sea, .int rnd, .int bas, .int lim, .ref bR, .ref bG, .ref bB, .ref bX])), (bH, .inl (cI, 34, .inl hM_9))]) hP hD [2, 3] [0, 1, 4] rfl rfl (by decide) (by decide) hk1 hFc hP1 hD1
        generalize H1 = H at hP hS ⊢
        have hP : va_P (dC, dI) vwCl [(bO, .inl (cI, 4, .inl (upd oM v2.toNatClampNeg (2 : Int32)))), (bK, .inl (cI, 4, .inl kM)), (bL, .inl (cI, 34, .inl lM_10)), (y, .inr (2, [.int thr, .ref bH, .ref bS, .ref bL, .int mel, .ref bO, .ref bK, .ref bZ, .int sea, .int rnd, .int bas, .int lim, .ref bR, .ref bG, .ref bB, .ref bX])), (bH, .inl (cI, 34, .inl hM_9))] H := hP
        have hD : va_D A [(bO, .inl (cI, 4, .inl (upd oM v2.toNatClampNeg (2 : Int32)))), (bK, .inl (cI, 4, .inl kM)), (bL, .inl (cI, 34, .inl lM_10)), (y, .inr (2, [.int thr, .ref bH, .ref bS, .ref bL, .int mel, .ref bO, .ref bK, .ref bZ, .int sea, .int rnd, .int bas, .int lim, .ref bR, .ref bG, .ref bB, .ref bX])), (bH, .inl (cI, 34, .inl hM_9))] := hD
        have hP9 := hP.sub (ws' := [(y, .inr (2, [.int thr, .ref bH, .ref bS, .ref bL, .int mel, .ref bO, .ref bK, .ref bZ, .int sea, .int rnd, .int bas, .int lim, .ref bR, .ref bG, .ref bB, .ref bX])), (bH, .inl (cI, 34, .inl hM_9)), (bL, .inl (cI, 34, .inl lM_10)), (bO, .inl (cI, 4, .inl (upd oM v2.toNatClampNeg (2 : Int32)))), (bK, .inl (cI, 4, .inl kM))]) [3, 4, 2, 0, 1] rfl
        have hD9 := hD.sub (ws' := [(y, .inr (2, [.int thr, .ref bH, .ref bS, .ref bL, .int mel, .ref bO, .ref bK, .ref bZ, .int sea, .int rnd, .int bas, .int lim, .ref bR, .ref bG, .ref bB, .ref bX])), (bH, .inl (cI, 34, .inl hM_9)), (bL, .inl (cI, 34, .inl lM_10)), (bO, .inl (cI, 4, .inl (upd oM v2.toNatClampNeg (2 : Int32)))), (bK, .inl (cI, 4, .inl kM))]) [3, 4, 2, 0, 1] (by decide) rfl
        rw [← hQ9]
        exact W.iret (v := r12) hx hb hr (fun t ht hW => ⟨⟨r12, (thr, hM_9, lM_10, upd oM v2.toNatClampNeg (2 : Int32)), rfl, hw, by rw [ht]; exact hP9, va_K.moved hW.alike hK, hD9⟩, hS.F ht⟩) hS.2.2 dX2_grow_95
      · have hw := hw.1 c8
        exact L72 thr hM lM oM _ _ _ hw hP hD hS (lv_sub hl [0] rfl)
  have L52 : ∀ (K22 : Int32 → Int32 → Int32 → (Nat → Int32) → (Nat → Int32) → (Nat → Int32) → Prop) (hK22 : ∀ (v2 : Int32) (v3 : Int32) (thr : Int32) (hM : (Nat → Int32)) (lM : (Nat → Int32)) (oM : (Nat → Int32)) (H : Heap) (locs : List Loc) (ls : Array Slot), K22 v2 v3 thr hM lM oM → va_P (dC, dI) vwCl [(y, .inr (2, [.int thr, .ref bH, .ref bS, .ref bL, .int mel, .ref bO, .ref bK, .ref bZ, .int sea, .int rnd, .int bas, .int lim, .ref bR, .ref bG, .ref bB, .ref bX])), (bH, .inl (cI, 34, .inl hM)), (bL, .inl (cI, 34, .inl lM)), (bO, .inl (cI, 4, .inl oM)), (bK, .inl (cI, 4, .inl kM))] H → va_D A [(y, .inr (2, [.int thr, .ref bH, .ref bS, .ref bL, .int mel, .ref bO, .ref bK, .ref bZ, .int sea, .int rnd, .int bas, .int lim, .ref bR, .ref bG, .ref bB, .ref bX])), (bH, .inl (cI, 34, .inl hM)), (bL, .inl (cI, 34, .inl lM)), (bO, .inl (cI, 4, .inl oM)), (bK, .inl (cI, 4, .inl kM))] → va_S A s.heap H locs → lv_has ls 4 [(0, .ref y), (1, .int p0), (2, .int v2), (3, .int v3)] → W p l e ({ frames := 3, cells := 0, slots := 0, locals := 60 } : Room) s m ([.ref y, .int p0] : List Value).toArray below meth c H locs 0 0 Q9 (F0 m 22 ls [])), ∀ (v2 : Int32) (v3 : Int32) (thr : Int32) (hM : (Nat → Int32)) (lM : (Nat → Int32)) (oM : (Nat → Int32)) (H : Heap) (locs : List Loc) (ls : Array Slot), w_X2_grow_b52 post mel kM p0 K22 v2 v3 thr hM lM oM → va_P (dC, dI) vwCl [(y, .inr (2, [.int thr, .ref bH, .ref bS, .ref bL, .int mel, .ref bO, .ref bK, .ref bZ, .int sea, .int rnd, .int bas, .int lim, .ref bR, .ref bG, .ref bB, .ref bX])), (bH, .inl (cI, 34, .inl hM)), (bL, .inl (cI, 34, .inl lM)), (bO, .inl (cI, 4, .inl oM)), (bK, .inl (cI, 4, .inl kM))] H → va_D A [(y, .inr (2, [.int thr, .ref bH, .ref bS, .ref bL, .int mel, .ref bO, .ref bK, .ref bZ, .int sea, .int rnd, .int bas, .int lim, .ref bR, .ref bG, .ref bB, .ref bX])), (bH, .inl (cI, 34, .inl hM)), (bL, .inl (cI, 34, .inl lM)), (bO, .inl (cI, 4, .inl oM)), (bK, .inl (cI, 4, .inl kM))] → va_S A s.heap H locs → lv_has ls 4 [(0, .ref y), (1, .int p0), (2, .int v2), (3, .int v3)] → W p l e ({ frames := 3, cells := 0, slots := 0, locals := 60 } : Room) s m ([.ref y, .int p0] : List Value).toArray below meth c H locs 0 0 Q9 (F0 m 52 ls []) := by
    intro K22 hK22 v2 v3 thr hM lM oM H locs ls hw hP hD hS hl
    refine lv_iinc (v := v3 + 1) (lv' := [(3, .int (v3 + 1)), (0, .ref y), (1, .int p0), (2, .int v2)]) hx hb dX2_grow_52 hl (k := 3) rfl rfl (by decide) rfl (fun ls hl => ?_)
    refine lv_goto (tgt := 22) hx hb dX2_grow_55 (by decide) ?_
    exact hK22 v2 (v3 + 1) thr hM lM oM _ _ _ hw hP hD hS (lv_sub hl [1, 2, 3, 0] rfl)
  have L22 : ∀ (n : Nat), ∀ (v2 : Int32) (v3 : Int32) (thr : Int32) (hM : (Nat → Int32)) (lM : (Nat → Int32)) (oM : (Nat → Int32)) (H : Heap) (locs : List Loc) (ls : Array Slot), w_X2_grow_b22 post mel kM p0 n v2 v3 thr hM lM oM → va_P (dC, dI) vwCl [(y, .inr (2, [.int thr, .ref bH, .ref bS, .ref bL, .int mel, .ref bO, .ref bK, .ref bZ, .int sea, .int rnd, .int bas, .int lim, .ref bR, .ref bG, .ref bB, .ref bX])), (bH, .inl (cI, 34, .inl hM)), (bL, .inl (cI, 34, .inl lM)), (bO, .inl (cI, 4, .inl oM)), (bK, .inl (cI, 4, .inl kM))] H → va_D A [(y, .inr (2, [.int thr, .ref bH, .ref bS, .ref bL, .int mel, .ref bO, .ref bK, .ref bZ, .int sea, .int rnd, .int bas, .int lim, .ref bR, .ref bG, .ref bB, .ref bX])), (bH, .inl (cI, 34, .inl hM)), (bL, .inl (cI, 34, .inl lM)), (bO, .inl (cI, 4, .inl oM)), (bK, .inl (cI, 4, .inl kM))] → va_S A s.heap H locs → lv_has ls 4 [(0, .ref y), (1, .int p0), (2, .int v2), (3, .int v3)] → W p l e ({ frames := 3, cells := 0, slots := 0, locals := 60 } : Room) s m ([.ref y, .int p0] : List Value).toArray below meth c H locs 0 0 Q9 (F0 m 22 ls []) := by
    intro n
    induction n with
    | zero => intro v2 v3 thr hM lM oM H locs ls hw _ _ _ _; exact False.elim hw
    | succ n ih =>
      intro v2 v3 thr hM lM oM H locs ls hw hP hD hS hl
      refine lv_iload_n hx hb dX2_grow_22 rfl (lv_at hl 3 rfl) ?_
      refine lv_aload_n hx hb dX2_grow_23 rfl (lv_at hl 0 rfl) ?_
      refine va_get (D := (dC, dI)) (ci := 2) (v := .int mel) (C := RX2) (T := TX2) (N := 16) hx hb hts hinX2 hown hK hP 0 rfl rfl 4 (by decide) (hts (.fieldLink RX2 69 "TileHandModel" "melds" "I") (by decide +kernel)) (fun _ h9 => h9) rfl dX2_grow_24 ?_
      refine lv_icmp_ge (tgt := 58) hx hb dX2_grow_27 (by decide) (fun c3 => ?_) (fun c3 => ?_)
      · have hw := hw.1 c3
        exact L58 v2 thr hM lM oM _ _ _ hw hP hD hS (lv_sub hl [0, 1, 2] rfl)
      · have hw := hw.2 c3
        refine lv_aload_n hx hb dX2_grow_30 rfl (lv_at hl 0 rfl) ?_
        refine va_get (D := (dC, dI)) (ci := 2) (v := .ref bO) (C := RX2) (T := TX2) (N := 16) hx hb hts hinX2 hown hK hP 0 rfl rfl 5 (by decide) (hts (.fieldLink RX2 19 "TileHandModel" "sorts" "[I") (by decide +kernel)) (fun _ h9 => h9) rfl dX2_grow_31 ?_
        refine lv_iload_n hx hb dX2_grow_34 rfl (lv_at hl 3 rfl) ?_
        obtain ⟨h13, hw⟩ := hw
        refine va_iald hx hb hK hP 3 0 rfl rfl h13 dX2_grow_35 ?_
        refine lv_iconst (v := 1) hx hb dX2_grow_36 (by decide) ?_
        refine lv_icmp_ne (tgt := 52) hx hb dX2_grow_37 (by decide) (fun c14 => ?_) (fun c14 => ?_)
        · have hw := hw.2 c14
          exact L52 (w_X2_grow_b22 post mel kM p0 n) ih v2 v3 thr hM lM oM _ _ _ hw hP hD hS (lv_sub hl [0, 1, 2, 3] rfl)
        · have hw := hw.1 c14
          refine lv_aload_n hx hb dX2_grow_40 rfl (lv_at hl 0 rfl) ?_
          refine va_get (D := (dC, dI)) (ci := 2) (v := .ref bK) (C := RX2) (T := TX2) (N := 16) hx hb hts hinX2 hown hK hP 0 rfl rfl 6 (by decide) (hts (.fieldLink RX2 22 "TileHandModel" "kinds" "[I") (by decide +kernel)) (fun _ h9 => h9) rfl dX2_grow_41 ?_
          refine lv_iload_n hx hb dX2_grow_44 rfl (lv_at hl 3 rfl) ?_
          obtain ⟨h15, hw⟩ := hw
          refine va_iald hx hb hK hP 4 0 rfl rfl h15 dX2_grow_45 ?_
          refine lv_iload_n hx hb dX2_grow_46 rfl (lv_at hl 1 rfl) ?_
          refine lv_icmp_ne (tgt := 52) hx hb dX2_grow_47 (by decide) (fun c16 => ?_) (fun c16 => ?_)
          · have hw := hw.2 c16
            exact L52 (w_X2_grow_b22 post mel kM p0 n) ih v2 v3 thr hM lM oM _ _ _ hw hP hD hS (lv_sub hl [0, 1, 2, 3] rfl)
          · have hw := hw.1 c16
            refine lv_iload_n hx hb dX2_grow_50 rfl (lv_at hl 3 rfl) ?_
            refine lv_istore_n (lv' := [(2, .int v3), (0, .ref y), (1, .int p0), (3, .int v3)]) hx hb dX2_grow_51 rfl hl (by decide) rfl (fun ls hl => ?_)
            exact L52 (w_X2_grow_b22 post mel kM p0 n) ih v3 v3 thr hM lM oM _ _ _ hw hP hD hS (lv_sub hl [1, 2, 0, 3] rfl)
  refine lv_aload_n hx hb dX2_grow_0 rfl (lv_at hl 0 rfl) ?_
  refine lv_iconst (v := 0) hx hb dX2_grow_1 (by decide) ?_
  refine va_put (D := (dC, dI)) (ci := 2) (v := .int (0 : Int32)) (ty := .int) (C := RX2) (T := TX2) (N := 16) hx hb hts hinX2 tyX2 tyX2_ok nmX2 hown hK hP hD hS 0 rfl rfl 0 (by decide) (hts (.fieldLink RX2 54 "TileHandModel" "thrown" "I") (by decide +kernel)) (fun _ h9 => h9) rfl (by decide +kernel) rfl rfl (Nat.le_of_ble_eq_true rfl) dX2_grow_2 (fun H locs hP hD hS => ?_)
  have hP : va_P (dC, dI) vwCl [(y, .inr (2, [.int (0 : Int32), .ref bH, .ref bS, .ref bL, .int mel, .ref bO, .ref bK, .ref bZ, .int sea, .int rnd, .int bas, .int lim, .ref bR, .ref bG, .ref bB, .ref bX])), (bH, .inl (cI, 34, .inl hM)), (bL, .inl (cI, 34, .inl lM)), (bO, .inl (cI, 4, .inl oM)), (bK, .inl (cI, 4, .inl kM))] H := hP
  have hD : va_D A [(y, .inr (2, [.int (0 : Int32), .ref bH, .ref bS, .ref bL, .int mel, .ref bO, .ref bK, .ref bZ, .int sea, .int rnd, .int bas, .int lim, .ref bR, .ref bG, .ref bB, .ref bX])), (bH, .inl (cI, 34, .inl hM)), (bL, .inl (cI, 34, .inl lM)), (bO, .inl (cI, 4, .inl oM)), (bK, .inl (cI, 4, .inl kM))] := hD
  refine lv_iload_n hx hb dX2_grow_5 rfl (lv_at hl 1 rfl) ?_
  have hPc := hP.sub (ws' := []) [] rfl
  have hDc := hD.sub (ws' := []) [] (by decide) rfl
  have hFc := va_free (wc := []) hD hS hA [] rfl
  refine va_calli (va_runS (As := [.int p0]) (rest := []) ⟨hx, hb, hml, hown, hts⟩ (c_X2_isKind l dC dI cI cZ H.size p0 _ hw) (va_cwS 1 hts gX2_grow_X2_isKind rfl rfl rfl (by decide +kernel) ⟨Nat.le_of_ble_eq_true rfl, Nat.le_of_ble_eq_true rfl⟩) ⟨fun a U g mk q => by obtain ⟨q0, q1, qP, qK, qD⟩ := q; exact ⟨q0, q1, qP, va_K.moved (u := U) (U := U.calling g mk a) (Vm.Alike.refl U.vm) qK, qD⟩, fun U hU hW => ⟨rfl, by rw [hU], by rw [hU]; exact hPc, va_K.moved hW.alike hK, hDc.weaken (fun _ _ _ _ => trivial)⟩⟩ rfl rfl hl.1 rfl (lv_room (Nat.le_of_ble_eq_true rfl)) dX2_grow_6 ⟨Nat.le_of_ble_eq_true rfl, Nat.le_of_ble_eq_true rfl⟩) hS (fun q _ h => hFc q h) hFc (fun r1 u t H1 locs ht hvm hw hB hz1 hk1 hS => ?_)
  obtain ⟨hP1, -, hD1⟩ := hB
  have hw := And.intro hw trivial
  try dsimp only at hw
  have hw := hw.1
  rw [ht] at hP1
  obtain ⟨hP, hD⟩ := va_join (wr := [(y, .inr (2, [.int (0 : Int32), .ref bH, .ref bS, .ref bL, .int mel, .ref bO, .ref bK, .ref bZ, .int sea, .int rnd, .int bas, .int lim, .ref bR, .ref bG, .ref bB, .ref bX])), (bH, .inl (cI, 34, .inl hM)), (bL, .inl (cI, 34, .inl lM)), (bO, .inl (cI, 4, .inl oM)), (bK, .inl (cI, 4, .inl kM))]) (w1 := []) hP hD [] [0, 1, 2, 3, 4] rfl rfl (by decide) (by decide) hk1 hFc hP1 hD1
  generalize H1 = H at hP hS ⊢
  have hP : va_P (dC, dI) vwCl [(y, .inr (2, [.int (0 : Int32), .ref bH, .ref bS, .ref bL, .int mel, .ref bO, .ref bK, .ref bZ, .int sea, .int rnd, .int bas, .int lim, .ref bR, .ref bG, .ref bB, .ref bX])), (bH, .inl (cI, 34, .inl hM)), (bL, .inl (cI, 34, .inl lM)), (bO, .inl (cI, 4, .inl oM)), (bK, .inl (cI, 4, .inl kM))] H := hP
  have hD : va_D A [(y, .inr (2, [.int (0 : Int32), .ref bH, .ref bS, .ref bL, .int mel, .ref bO, .ref bK, .ref bZ, .int sea, .int rnd, .int bas, .int lim, .ref bR, .ref bG, .ref bB, .ref bX])), (bH, .inl (cI, 34, .inl hM)), (bL, .inl (cI, 34, .inl lM)), (bO, .inl (cI, 4, .inl oM)), (bK, .inl (cI, 4, .inl kM))] := hD
  refine lv_if_ne (tgt := 18) hx hb dX2_grow_9 (by decide) (fun c2 => ?_) (fun c2 => ?_)
  · have hw := hw.2 c2
    refine lv_iconst (v := -1) hx hb dX2_grow_18 (by decide) ?_
    refine lv_istore_n (lv' := [(2, .int (-1 : Int32)), (0, .ref y), (1, .int p0)]) hx hb dX2_grow_19 rfl hl (by decide) rfl (fun ls hl => ?_)
    refine lv_iconst (v := 0) hx hb dX2_grow_20 (by decide) ?_
    refine lv_istore_n (lv' := [(3, .int (0 : Int32)), (2, .int (-1 : Int32)), (0, .ref y), (1, .int p0)]) hx hb dX2_grow_21 rfl hl (by decide) rfl (fun ls hl => ?_)
    obtain ⟨n9, hw⟩ := hw
    exact L22 n9 (-1 : Int32) (0 : Int32) (0 : Int32) hM lM oM _ _ _ hw hP hD hS (lv_sub hl [2, 3, 1, 0] rfl)
  · have hw := hw.1 c2
    refine lv_aload_n hx hb dX2_grow_12 rfl (lv_at hl 0 rfl) ?_
    refine lv_iconst (v := 1) hx hb dX2_grow_13 (by decide) ?_
    have hPc := hP.sub (ws' := [(y, .inr (2, [.int (0 : Int32), .ref bH, .ref bS, .ref bL, .int mel, .ref bO, .ref bK, .ref bZ, .int sea, .int rnd, .int bas, .int lim, .ref bR, .ref bG, .ref bB, .ref bX]))]) [0] rfl
    have hDc := hD.sub (ws' := [(y, .inr (2, [.int (0 : Int32), .ref bH, .ref bS, .ref bL, .int mel, .ref bO, .ref bK, .ref bZ, .int sea, .int rnd, .int bas, .int lim, .ref bR, .ref bG, .ref bB, .ref bX]))]) [0] (by decide) rfl
    have hFc := va_free (wc := [(y, .inr (2, [.int (0 : Int32), .ref bH, .ref bS, .ref bL, .int mel, .ref bO, .ref bK, .ref bZ, .int sea, .int rnd, .int bas, .int lim, .ref bR, .ref bG, .ref bB, .ref bX]))]) hD hS hA [0] rfl
    refine va_calli (va_runV (As := [.int (1 : Int32)]) (rest := []) ⟨hx, hb, hml, hown, hts⟩ (c_X2_fail l dC dI cI cZ y bH bS bL bO bK bZ bR bG bB bX H.size (0 : Int32) mel sea rnd bas lim (1 : Int32) _ hw) (cwV 1 hts gX2_grow_X2_fail rfl rfl rfl (by decide +kernel) ⟨Nat.le_of_ble_eq_true rfl, Nat.le_of_ble_eq_true rfl⟩) ⟨fun a U g mk q => by obtain ⟨q0, q1, qP, qK, qD⟩ := q; exact ⟨q0, q1, qP, va_K.moved (u := U) (U := U.calling g mk a) (Vm.Alike.refl U.vm) qK, qD⟩, va_recv hK hPc (ci := 2) (q0 := 0) rfl rfl, fun U hU hW => ⟨rfl, by rw [hU], by rw [hU]; exact hPc, va_K.moved hW.alike hK, hDc.weaken (fun _ _ _ _ => trivial)⟩⟩ rfl rfl hl.1 rfl (lv_room (Nat.le_of_ble_eq_true rfl)) dX2_grow_14 ⟨Nat.le_of_ble_eq_true rfl, Nat.le_of_ble_eq_true rfl⟩) hS (fun q _ h => hFc q h) hFc (fun r17 u t H1 locs ht hvm hw hB hz1 hk1 hS => ?_)
    obtain ⟨thr_18, rfl⟩ : ∃ z, z = u := ⟨_, rfl⟩
    obtain ⟨hP1, -, hD1⟩ := hB
    have hw := And.intro hw trivial
    try dsimp only at hw
    have hw := hw.1
    rw [ht] at hP1
    obtain ⟨hP, hD⟩ := va_join (wr := [(bH, .inl (cI, 34, .inl hM)), (bL, .inl (cI, 34, .inl lM)), (bO, .inl (cI, 4, .inl oM)), (bK, .inl (cI, 4, .inl kM))]) (w1 := [(y, .inr (2, [.int thr_18, .ref bH, .ref bS, .ref bL, .int mel, .ref bO, .ref bK, .ref bZ, .int sea, .int rnd, .int bas, .int lim, .ref bR, .ref bG, .ref bB, .ref bX]))]) hP hD [0] [1, 2, 3, 4] rfl rfl (by decide) (by decide) hk1 hFc hP1 hD1
    generalize H1 = H at hP hS ⊢
    have hP : va_P (dC, dI) vwCl [(bH, .inl (cI, 34, .inl hM)), (bL, .inl (cI, 34, .inl lM)), (bO, .inl (cI, 4, .inl oM)), (bK, .inl (cI, 4, .inl kM)), (y, .inr (2, [.int thr_18, .ref bH, .ref bS, .ref bL, .int mel, .ref bO, .ref bK, .ref bZ, .int sea, .int rnd, .int bas, .int lim, .ref bR, .ref bG, .ref bB, .ref bX]))] H := hP
    have hD : va_D A [(bH, .inl (cI, 34, .inl hM)), (bL, .inl (cI, 34, .inl lM)), (bO, .inl (cI, 4, .inl oM)), (bK, .inl (cI, 4, .inl kM)), (y, .inr (2, [.int thr_18, .ref bH, .ref bS, .ref bL, .int mel, .ref bO, .ref bK, .ref bZ, .int sea, .int rnd, .int bas, .int lim, .ref bR, .ref bG, .ref bB, .ref bX]))] := hD
    have hP9 := hP.sub (ws' := [(y, .inr (2, [.int thr_18, .ref bH, .ref bS, .ref bL, .int mel, .ref bO, .ref bK, .ref bZ, .int sea, .int rnd, .int bas, .int lim, .ref bR, .ref bG, .ref bB, .ref bX])), (bH, .inl (cI, 34, .inl hM)), (bL, .inl (cI, 34, .inl lM)), (bO, .inl (cI, 4, .inl oM)), (bK, .inl (cI, 4, .inl kM))]) [4, 0, 1, 2, 3] rfl
    have hD9 := hD.sub (ws' := [(y, .inr (2, [.int thr_18, .ref bH, .ref bS, .ref bL, .int mel, .ref bO, .ref bK, .ref bZ, .int sea, .int rnd, .int bas, .int lim, .ref bR, .ref bG, .ref bB, .ref bX])), (bH, .inl (cI, 34, .inl hM)), (bL, .inl (cI, 34, .inl lM)), (bO, .inl (cI, 4, .inl oM)), (bK, .inl (cI, 4, .inl kM))]) [4, 0, 1, 2, 3] (by decide) rfl
    rw [← hQ9]
    exact W.iret (v := r17) hx hb hr (fun t ht hW => ⟨⟨r17, (thr_18, hM, lM, oM), rfl, hw, by rw [ht]; exact hP9, va_K.moved hW.alike hK, hD9⟩, hS.F ht⟩) hS.2.2 dX2_grow_17
