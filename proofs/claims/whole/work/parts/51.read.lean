/-! the calls that only look -/
theorem arr_sum {sw rw M : Nat} {σ κ h : Nat → Nat} (c : ¬ arr sw rw M σ κ h = -1) : sumN 34 h + 3 * M = 14 := by
  by_cases e : sumN 34 h + 3 * M = 14
  · exact e
  · exact absurd (by unfold arr; rw [if_neg e]) c
theorem dd {x : UInt64} {K : Prop} (hK : K) : (((Op.cmpValue (FP.dcmp x x) CmpOp.l) = 0 → K) ∧ (¬ (Op.cmpValue (FP.dcmp x x) CmpOp.l) = 0 → ((((Op.cmpValue (FP.dcmp x x) CmpOp.l) = 0 → False) ∧ (¬ (Op.cmpValue (FP.dcmp x x) CmpOp.l) = 0 → ((((Op.cmpValue (FP.dcmp x x) CmpOp.l) = 0 → False) ∧ (¬ (Op.cmpValue (FP.dcmp x x) CmpOp.l) = 0 → K)))))))) := ⟨fun _ => hK, fun c => ⟨fun z => c z, fun _ => ⟨fun z => c z, fun _ => hK⟩⟩⟩
section READ
variable {L : Nat} {xs : Nat → Int32} {i : Nat} {h l s σ κ ω : Nat → Nat} {M sw rw B Lm : Nat} {hd la se so ki op : Nat → Int32} {glm rom hel : Int32} {nw nx : Nat → Int32} {thr : Int32} {hM sM lM oM kM zM rM gM bM xM : Nat → Int32} {ou : Nat → Int64}
theorem inv_c6 (hS : St h l s σ κ ω M sw rw B Lm) (hR : Rw h l s σ κ ω M hd la se so ki op hM sM lM oM kM zM) : w_L_c6 L xs (iI (i : Int)) InvL (iI (sumN 34 h : Nat)) (iI M) (iI sw) (iI rw) (iI B) (iI Lm) hd la se so ki op glm rom hel nw nx thr (iI M) (iI sw) (iI rw) (iI B) (iI Lm) hM sM lM oM kM zM rM gM bM xM ou := by
  obtain ⟨s1, s2, s3, s4, s5, s6, s7, s8, s9, s10, s11⟩ := id hS
  obtain ⟨⟨r1, r2, r3, r4, r5, r6⟩, ⟨m1, m2, m3, m4, m5, m6⟩⟩ := id hR
  have hσ : ∀ i, i < M → σ i ≤ 2 := fun i hi => (s4 i hi).1
  have hκ : ∀ i, i < M → κ i < 34 := fun i hi => (s4 i hi).2.1
  have hω : ∀ i, i < M → ω i ≤ 1 := fun i hi => (s4 i hi).2.2
  have hsw : sw < 100 := by omega
  have hrw : rw < 100 := by omega
  have h4 : ∀ k, k < 34 → h k ≤ 4 := fun k hk => by have := s1 k hk; omega
  have l4 : ∀ k, k < 34 → l k ≤ 4 := fun k hk => by have := s1 k hk; omega
  have hl4 : ∀ k, k < 34 → h k + l k ≤ 4 := fun k hk => by have := s1 k hk; omega
  have l16 : sumN 34 l ≤ 16 := by
    have := sumN_bd (n := M) (f := lsz σ) (c := 4) (fun k _ => by unfold lsz; split <;> omega)
    omega
  unfold w_L_c6 w_X1_size
  refine p_sizeNow ?_
  unfold w_X2_size
  refine p_sizeOf m1 ?_
  exact ⟨fun _ => InvL_mk rfl hS hR, fun c => absurd rfl c⟩
theorem inv_c8 (hS : St h l s σ κ ω M sw rw B Lm) (hR : Rw h l s σ κ ω M hd la se so ki op hM sM lM oM kM zM) : w_L_c8 L xs (iI (i : Int)) InvL (iI (sumN 34 h : Nat)) (iI M) (iI sw) (iI rw) (iI B) (iI Lm) hd la se so ki op glm rom hel nw nx thr (iI M) (iI sw) (iI rw) (iI B) (iI Lm) hM sM lM oM kM zM rM gM bM xM ou := by
  obtain ⟨s1, s2, s3, s4, s5, s6, s7, s8, s9, s10, s11⟩ := id hS
  obtain ⟨⟨r1, r2, r3, r4, r5, r6⟩, ⟨m1, m2, m3, m4, m5, m6⟩⟩ := id hR
  have hσ : ∀ i, i < M → σ i ≤ 2 := fun i hi => (s4 i hi).1
  have hκ : ∀ i, i < M → κ i < 34 := fun i hi => (s4 i hi).2.1
  have hω : ∀ i, i < M → ω i ≤ 1 := fun i hi => (s4 i hi).2.2
  have hsw : sw < 100 := by omega
  have hrw : rw < 100 := by omega
  have h4 : ∀ k, k < 34 → h k ≤ 4 := fun k hk => by have := s1 k hk; omega
  have l4 : ∀ k, k < 34 → l k ≤ 4 := fun k hk => by have := s1 k hk; omega
  have hl4 : ∀ k, k < 34 → h k + l k ≤ 4 := fun k hk => by have := s1 k hk; omega
  have l16 : sumN 34 l ≤ 16 := by
    have := sumN_bd (n := M) (f := lsz σ) (c := 4) (fun k _ => by unfold lsz; split <;> omega)
    omega
  unfold w_L_c8 w_X1_melds w_X2_melds
  exact ⟨fun _ => InvL_mk rfl hS hR, fun c => absurd rfl c⟩
theorem inv_c10 (hS : St h l s σ κ ω M sw rw B Lm) (hR : Rw h l s σ κ ω M hd la se so ki op hM sM lM oM kM zM) : w_L_c10 L xs (iI (i : Int)) InvL (iI (sumN 34 h : Nat)) (iI M) (iI sw) (iI rw) (iI B) (iI Lm) hd la se so ki op glm rom hel nw nx thr (iI M) (iI sw) (iI rw) (iI B) (iI Lm) hM sM lM oM kM zM rM gM bM xM ou := by
  obtain ⟨s1, s2, s3, s4, s5, s6, s7, s8, s9, s10, s11⟩ := id hS
  obtain ⟨⟨r1, r2, r3, r4, r5, r6⟩, ⟨m1, m2, m3, m4, m5, m6⟩⟩ := id hR
  have hσ : ∀ i, i < M → σ i ≤ 2 := fun i hi => (s4 i hi).1
  have hκ : ∀ i, i < M → κ i < 34 := fun i hi => (s4 i hi).2.1
  have hω : ∀ i, i < M → ω i ≤ 1 := fun i hi => (s4 i hi).2.2
  have hsw : sw < 100 := by omega
  have hrw : rw < 100 := by omega
  have h4 : ∀ k, k < 34 → h k ≤ 4 := fun k hk => by have := s1 k hk; omega
  have l4 : ∀ k, k < 34 → l k ≤ 4 := fun k hk => by have := s1 k hk; omega
  have hl4 : ∀ k, k < 34 → h k + l k ≤ 4 := fun k hk => by have := s1 k hk; omega
  have l16 : sumN 34 l ≤ 16 := by
    have := sumN_bd (n := M) (f := lsz σ) (c := 4) (fun k _ => by unfold lsz; split <;> omega)
    omega
  unfold w_L_c10 w_X1_isComplete
  have ab := arr_bd sw rw M σ κ h
  refine p_bestArr s2 hσ hκ hsw hrw h4 rfl (by omega) r1 r4 r5 (fun hd so ki g1 g4 g5 => ?_)
  rw [iI_m1, iI_eq (a := arr sw rw M σ κ h) (b := -1) ⟨by omega, by omega⟩ ⟨by omega, by omega⟩]
  unfold w_X2_isComplete
  refine ⟨fun c => p_completes (sw := sw) (rw := rw) (σ := σ) (κ := κ) s2 (by omega) h4 m1 (fun z => absurd c z) (fun _ rM gM => ⟨rfl, fun _ => InvL_mk rfl hS ⟨⟨g1, r2, r3, g4, g5, r6⟩, m1, m2, m3, m4, m5, m6⟩, fun z => absurd rfl z⟩), fun c => p_completes (sw := sw) (rw := rw) (σ := σ) (κ := κ) s2 (by omega) h4 m1 (fun _ rM gM => ⟨rfl, fun _ => InvL_mk rfl hS ⟨⟨g1, r2, r3, g4, g5, r6⟩, m1, m2, m3, m4, m5, m6⟩, fun z => absurd rfl z⟩) (fun z => absurd z c)⟩
theorem inv_c11 (hS : St h l s σ κ ω M sw rw B Lm) (hR : Rw h l s σ κ ω M hd la se so ki op hM sM lM oM kM zM) : w_L_c11 L xs (iI (i : Int)) InvL (iI (sumN 34 h : Nat)) (iI M) (iI sw) (iI rw) (iI B) (iI Lm) hd la se so ki op glm rom hel nw nx thr (iI M) (iI sw) (iI rw) (iI B) (iI Lm) hM sM lM oM kM zM rM gM bM xM ou := by
  obtain ⟨s1, s2, s3, s4, s5, s6, s7, s8, s9, s10, s11⟩ := id hS
  obtain ⟨⟨r1, r2, r3, r4, r5, r6⟩, ⟨m1, m2, m3, m4, m5, m6⟩⟩ := id hR
  have hσ : ∀ i, i < M → σ i ≤ 2 := fun i hi => (s4 i hi).1
  have hκ : ∀ i, i < M → κ i < 34 := fun i hi => (s4 i hi).2.1
  have hω : ∀ i, i < M → ω i ≤ 1 := fun i hi => (s4 i hi).2.2
  have hsw : sw < 100 := by omega
  have hrw : rw < 100 := by omega
  have h4 : ∀ k, k < 34 → h k ≤ 4 := fun k hk => by have := s1 k hk; omega
  have l4 : ∀ k, k < 34 → l k ≤ 4 := fun k hk => by have := s1 k hk; omega
  have hl4 : ∀ k, k < 34 → h k + l k ≤ 4 := fun k hk => by have := s1 k hk; omega
  have l16 : sumN 34 l ≤ 16 := by
    have := sumN_bd (n := M) (f := lsz σ) (c := 4) (fun k _ => by unfold lsz; split <;> omega)
    omega
  unfold w_L_c11
  refine p_waits s2 hσ hκ hsw hrw hl4 rfl (by omega) r1 r2 r4 r5 (fun hd so ki g1 g4 g5 => ?_)
  unfold w_X2_waits
  refine p_waitingSet (sw := sw) (rw := rw) (σ := σ) (κ := κ) s2 (by omega) hl4 m1 m3 (fun hM rM gM q1 => ?_)
  exact ⟨fun _ => InvL_mk rfl hS ⟨⟨g1, r2, r3, g4, g5, r6⟩, q1, m2, m3, m4, m5, m6⟩, fun c => absurd rfl c⟩
theorem inv_c12 (hS : St h l s σ κ ω M sw rw B Lm) (hR : Rw h l s σ κ ω M hd la se so ki op hM sM lM oM kM zM) : w_L_c12 L xs (iI (i : Int)) InvL (iI (sumN 34 h : Nat)) (iI M) (iI sw) (iI rw) (iI B) (iI Lm) hd la se so ki op glm rom hel nw nx thr (iI M) (iI sw) (iI rw) (iI B) (iI Lm) hM sM lM oM kM zM rM gM bM xM ou := by
  obtain ⟨s1, s2, s3, s4, s5, s6, s7, s8, s9, s10, s11⟩ := id hS
  obtain ⟨⟨r1, r2, r3, r4, r5, r6⟩, ⟨m1, m2, m3, m4, m5, m6⟩⟩ := id hR
  have hσ : ∀ i, i < M → σ i ≤ 2 := fun i hi => (s4 i hi).1
  have hκ : ∀ i, i < M → κ i < 34 := fun i hi => (s4 i hi).2.1
  have hω : ∀ i, i < M → ω i ≤ 1 := fun i hi => (s4 i hi).2.2
  have hsw : sw < 100 := by omega
  have hrw : rw < 100 := by omega
  have h4 : ∀ k, k < 34 → h k ≤ 4 := fun k hk => by have := s1 k hk; omega
  have l4 : ∀ k, k < 34 → l k ≤ 4 := fun k hk => by have := s1 k hk; omega
  have hl4 : ∀ k, k < 34 → h k + l k ≤ 4 := fun k hk => by have := s1 k hk; omega
  have l16 : sumN 34 l ≤ 16 := by
    have := sumN_bd (n := M) (f := lsz σ) (c := 4) (fun k _ => by unfold lsz; split <;> omega)
    omega
  unfold w_L_c12
  refine p_outs s2 hσ hκ hsw hrw s1 rfl (by omega) r1 r2 r3 r4 r5 (fun hd so ki g1 g4 g5 => ?_)
  unfold w_X2_outs
  refine p_waitingSet (sw := sw) (rw := rw) (σ := σ) (κ := κ) s2 (by omega) hl4 m1 m3 (fun hM rM gM q1 => p_outsOf q1 m3 m2 s1 ?_)
  exact ⟨fun _ => InvL_mk rfl hS ⟨⟨g1, r2, r3, g4, g5, r6⟩, q1, m2, m3, m4, m5, m6⟩, fun c => absurd rfl c⟩
theorem inv_c13 (hS : St h l s σ κ ω M sw rw B Lm) (hR : Rw h l s σ κ ω M hd la se so ki op hM sM lM oM kM zM) : w_L_c13 L xs (iI (i : Int)) InvL (iI (sumN 34 h : Nat)) (iI M) (iI sw) (iI rw) (iI B) (iI Lm) hd la se so ki op glm rom hel nw nx thr (iI M) (iI sw) (iI rw) (iI B) (iI Lm) hM sM lM oM kM zM rM gM bM xM ou := by
  obtain ⟨s1, s2, s3, s4, s5, s6, s7, s8, s9, s10, s11⟩ := id hS
  obtain ⟨⟨r1, r2, r3, r4, r5, r6⟩, ⟨m1, m2, m3, m4, m5, m6⟩⟩ := id hR
  have hσ : ∀ i, i < M → σ i ≤ 2 := fun i hi => (s4 i hi).1
  have hκ : ∀ i, i < M → κ i < 34 := fun i hi => (s4 i hi).2.1
  have hω : ∀ i, i < M → ω i ≤ 1 := fun i hi => (s4 i hi).2.2
  have hsw : sw < 100 := by omega
  have hrw : rw < 100 := by omega
  have h4 : ∀ k, k < 34 → h k ≤ 4 := fun k hk => by have := s1 k hk; omega
  have l4 : ∀ k, k < 34 → l k ≤ 4 := fun k hk => by have := s1 k hk; omega
  have hl4 : ∀ k, k < 34 → h k + l k ≤ 4 := fun k hk => by have := s1 k hk; omega
  have l16 : sumN 34 l ≤ 16 := by
    have := sumN_bd (n := M) (f := lsz σ) (c := 4) (fun k _ => by unfold lsz; split <;> omega)
    omega
  unfold w_L_c13
  refine p_missing r1 r2 h4 l4 l16 s2 (fun v glm rom hel nw nx hv => ?_)
  unfold w_X2_missing
  refine p_missingTiles m1 m3 h4 l4 l16 s2 (fun w bM xM hw => ?_)
  rw [isMt_one hv hw]
  exact ⟨fun _ => InvL_mk rfl hS hR, fun c => absurd rfl c⟩
theorem inv_c14 (hS : St h l s σ κ ω M sw rw B Lm) (hR : Rw h l s σ κ ω M hd la se so ki op hM sM lM oM kM zM) : w_L_c14 L xs (iI (i : Int)) InvL (iI (sumN 34 h : Nat)) (iI M) (iI sw) (iI rw) (iI B) (iI Lm) hd la se so ki op glm rom hel nw nx thr (iI M) (iI sw) (iI rw) (iI B) (iI Lm) hM sM lM oM kM zM rM gM bM xM ou := by
  obtain ⟨s1, s2, s3, s4, s5, s6, s7, s8, s9, s10, s11⟩ := id hS
  obtain ⟨⟨r1, r2, r3, r4, r5, r6⟩, ⟨m1, m2, m3, m4, m5, m6⟩⟩ := id hR
  have hσ : ∀ i, i < M → σ i ≤ 2 := fun i hi => (s4 i hi).1
  have hκ : ∀ i, i < M → κ i < 34 := fun i hi => (s4 i hi).2.1
  have hω : ∀ i, i < M → ω i ≤ 1 := fun i hi => (s4 i hi).2.2
  have hsw : sw < 100 := by omega
  have hrw : rw < 100 := by omega
  have h4 : ∀ k, k < 34 → h k ≤ 4 := fun k hk => by have := s1 k hk; omega
  have l4 : ∀ k, k < 34 → l k ≤ 4 := fun k hk => by have := s1 k hk; omega
  have hl4 : ∀ k, k < 34 → h k + l k ≤ 4 := fun k hk => by have := s1 k hk; omega
  have l16 : sumN 34 l ≤ 16 := by
    have := sumN_bd (n := M) (f := lsz σ) (c := 4) (fun k _ => by unfold lsz; split <;> omega)
    omega
  unfold w_L_c14 w_L_advice
  by_cases c : sumN 34 h = 0
  · refine Or.inr ?_
    have key : iI ((sumN 34 h : Nat) : Int) = iI ((0 : Nat) : Int) := by rw [c]
    rw [key]
    refine p_advice_x ⟨rfl, p_mAdvice m1 m3 h4 l4 l16 s2 (fun j hM bM xM ha => ?_) (fun _ hM bM xM q1 => blkn i10 (InvL_mk key.symm hS ⟨⟨r1, r2, r3, r4, r5, r6⟩, q1, m2, m3, m4, m5, m6⟩))⟩
    have := sumN_get (f := h) ha.1
    have := ha.2.1
    omega
  · refine Or.inl (p_advice rfl (by omega) (by omega) r1 r2 h4 l4 l16 s2 (fun j hd glm rom hel nw nx ha g1 => ⟨v01, p_mAdvice m1 m3 h4 l4 l16 s2 (fun j2 hM bM xM hb q1 => blk0 ?_ (InvL_mk rfl hS ⟨⟨g1, r2, r3, r4, r5, r6⟩, q1, m2, m3, m4, m5, m6⟩)) (fun z => absurd z c)⟩))
    rw [ou0, isAdv_one ha hb]
theorem inv_c17_b {p0 : Int32} (hL : L ≤ 2048) (hi : i + 4 ≤ L) (hp : p0 = if xs (i + 1) = 0 then 0 else 1) (hS : St h l s σ κ ω M sw rw B Lm) (hR : Rw h l s σ κ ω M hd la se so ki op hM sM lM oM kM zM) : w_L_c17_b895 L xs (iI (i : Int)) InvL p0 (iI (sumN 34 h : Nat)) (iI M) (iI sw) (iI rw) (iI B) (iI Lm) hd la se so ki op glm rom hel nw nx thr (iI M) (iI sw) (iI rw) (iI B) (iI Lm) hM sM lM oM kM zM rM gM bM xM ou := by
  obtain ⟨s1, s2, s3, s4, s5, s6, s7, s8, s9, s10, s11⟩ := id hS
  obtain ⟨⟨r1, r2, r3, r4, r5, r6⟩, ⟨m1, m2, m3, m4, m5, m6⟩⟩ := id hR
  have hσ : ∀ i, i < M → σ i ≤ 2 := fun i hi => (s4 i hi).1
  have hκ : ∀ i, i < M → κ i < 34 := fun i hi => (s4 i hi).2.1
  have hω : ∀ i, i < M → ω i ≤ 1 := fun i hi => (s4 i hi).2.2
  have hsw : sw < 100 := by omega
  have hrw : rw < 100 := by omega
  have h4 : ∀ k, k < 34 → h k ≤ 4 := fun k hk => by have := s1 k hk; omega
  have l4 : ∀ k, k < 34 → l k ≤ 4 := fun k hk => by have := s1 k hk; omega
  have hl4 : ∀ k, k < 34 → h k + l k ≤ 4 := fun k hk => by have := s1 k hk; omega
  have l16 : sumN 34 l ≤ 16 := by
    have := sumN_bd (n := M) (f := lsz σ) (c := 4) (fun k _ => by unfold lsz; split <;> omega)
    omega
  have again : ∀ (w : Int32) (HD SO KI : Nat → Int32) (OU : Nat → Int64), (∀ q : Int32, q = p0 → w_L_c17_b916 L xs (iI (i : Int)) InvL w q (iI (sumN 34 h : Nat)) (iI M) (iI sw) (iI rw) (iI B) (iI Lm) HD la se SO KI op glm rom hel nw nx thr (iI M) (iI sw) (iI rw) (iI B) (iI Lm) hM sM lM oM kM zM rM gM bM xM OU) → (vp_in (iI (i : Int) + (1 : Int32)) L ∧ ((((xs (iI (i : Int) + (1 : Int32)).toNatClampNeg) = 0 → (w_L_c17_b916 L xs (iI (i : Int)) InvL w (0 : Int32) (iI (sumN 34 h : Nat)) (iI M) (iI sw) (iI rw) (iI B) (iI Lm) HD la se SO KI op glm rom hel nw nx thr (iI M) (iI sw) (iI rw) (iI B) (iI Lm) hM sM lM oM kM zM rM gM bM xM OU)) ∧ (¬ (xs (iI (i : Int) + (1 : Int32)).toNatClampNeg) = 0 → (w_L_c17_b916 L xs (iI (i : Int)) InvL w (1 : Int32) (iI (sumN 34 h : Nat)) (iI M) (iI sw) (iI rw) (iI B) (iI Lm) HD la se SO KI op glm rom hel nw nx thr (iI M) (iI sw) (iI rw) (iI B) (iI Lm) hM sM lM oM kM zM rM gM bM xM OU))))) := fun w HD SO KI OU q => by
    rw [iI_inc, iI_ix (i + 1) (by omega)]
    refine ⟨iI_in' (by omega) (by omega), fun c => q 0 ?_, fun c => q 1 ?_⟩
    · rw [hp, if_pos c]
    · rw [hp, if_neg c]
  unfold w_L_c17_b895 w_L_fans
  by_cases c : arr sw rw M σ κ h = -1
  · refine Or.inr (p_cFans_x s2 hσ hκ hω hsw hrw hl4 rfl (by omega) r1 r2 r4 r5 r6 c (fun hd so ki g1 g4 g5 => ⟨rfl, again _ _ _ _ _ (fun q eq => ?_)⟩))
    unfold w_L_c17_b916 w_X2_fans
    exact p_completes (sw := sw) (rw := rw) (σ := σ) (κ := κ) s2 (by omega) h4 m1 (fun z => absurd c z) (fun _ rM gM => ⟨fun _ => blkn i10 (InvL_mk rfl hS ⟨⟨g1, r2, r3, g4, g5, r6⟩, m1, m2, m3, m4, m5, m6⟩), fun z => absurd rfl z⟩)
  · refine Or.inl (p_cFans s2 hσ hκ hω hsw hrw hl4 rfl (by omega) r1 r2 r4 r5 r6 c (fun hd so ki g1 g4 g5 => ⟨v01, again _ _ _ _ _ (fun q eq => ?_)⟩))
    unfold w_L_c17_b916 w_X2_fans
    rw [eq]
    refine p_completes (sw := sw) (rw := rw) (σ := σ) (κ := κ) s2 (by omega) h4 m1 (fun _ rM gM => ⟨fun z => absurd z i10, fun _ => ?_⟩) (fun z => absurd z c)
    refine p_fansOf s2 hσ hκ hω hsw hrw (arr_sum c) h4 l4 m1 m3 m4 m5 m6 (fun rM gM => blk0 (ou0 _ _) (InvL_mk rfl hS ⟨⟨g1, r2, r3, g4, g5, r6⟩, m1, m2, m3, m4, m5, m6⟩))
theorem inv_c17 (hL : L ≤ 2048) (hi : i + 4 ≤ L) (hS : St h l s σ κ ω M sw rw B Lm) (hR : Rw h l s σ κ ω M hd la se so ki op hM sM lM oM kM zM) : w_L_c17 L xs (iI (i : Int)) InvL (iI (sumN 34 h : Nat)) (iI M) (iI sw) (iI rw) (iI B) (iI Lm) hd la se so ki op glm rom hel nw nx thr (iI M) (iI sw) (iI rw) (iI B) (iI Lm) hM sM lM oM kM zM rM gM bM xM ou := by
  obtain ⟨s1, s2, s3, s4, s5, s6, s7, s8, s9, s10, s11⟩ := id hS
  obtain ⟨⟨r1, r2, r3, r4, r5, r6⟩, ⟨m1, m2, m3, m4, m5, m6⟩⟩ := id hR
  have hσ : ∀ i, i < M → σ i ≤ 2 := fun i hi => (s4 i hi).1
  have hκ : ∀ i, i < M → κ i < 34 := fun i hi => (s4 i hi).2.1
  have hω : ∀ i, i < M → ω i ≤ 1 := fun i hi => (s4 i hi).2.2
  have hsw : sw < 100 := by omega
  have hrw : rw < 100 := by omega
  have h4 : ∀ k, k < 34 → h k ≤ 4 := fun k hk => by have := s1 k hk; omega
  have l4 : ∀ k, k < 34 → l k ≤ 4 := fun k hk => by have := s1 k hk; omega
  have hl4 : ∀ k, k < 34 → h k + l k ≤ 4 := fun k hk => by have := s1 k hk; omega
  have l16 : sumN 34 l ≤ 16 := by
    have := sumN_bd (n := M) (f := lsz σ) (c := 4) (fun k _ => by unfold lsz; split <;> omega)
    omega
  unfold w_L_c17
  rw [n1, iI_add', iI_ix (i + 1) (by omega)]
  refine ⟨iI_in' (by omega) (by omega), fun c => ?_, fun c => ?_⟩
  · exact inv_c17_b hL hi (by rw [if_pos c]) hS hR
  · exact inv_c17_b hL hi (by rw [if_neg c]; rfl) hS hR
theorem inv_c18_b {p0 : Int32} (hL : L ≤ 2048) (hi : i + 4 ≤ L) (hp : p0 = if xs (i + 1) = 0 then 0 else 1) (hS : St h l s σ κ ω M sw rw B Lm) (hR : Rw h l s σ κ ω M hd la se so ki op hM sM lM oM kM zM) : w_L_c18_b967 L xs (iI (i : Int)) InvL p0 (iI (sumN 34 h : Nat)) (iI M) (iI sw) (iI rw) (iI B) (iI Lm) hd la se so ki op glm rom hel nw nx thr (iI M) (iI sw) (iI rw) (iI B) (iI Lm) hM sM lM oM kM zM rM gM bM xM ou := by
  obtain ⟨s1, s2, s3, s4, s5, s6, s7, s8, s9, s10, s11⟩ := id hS
  obtain ⟨⟨r1, r2, r3, r4, r5, r6⟩, ⟨m1, m2, m3, m4, m5, m6⟩⟩ := id hR
  have hσ : ∀ i, i < M → σ i ≤ 2 := fun i hi => (s4 i hi).1
  have hκ : ∀ i, i < M → κ i < 34 := fun i hi => (s4 i hi).2.1
  have hω : ∀ i, i < M → ω i ≤ 1 := fun i hi => (s4 i hi).2.2
  have hsw : sw < 100 := by omega
  have hrw : rw < 100 := by omega
  have h4 : ∀ k, k < 34 → h k ≤ 4 := fun k hk => by have := s1 k hk; omega
  have l4 : ∀ k, k < 34 → l k ≤ 4 := fun k hk => by have := s1 k hk; omega
  have hl4 : ∀ k, k < 34 → h k + l k ≤ 4 := fun k hk => by have := s1 k hk; omega
  have l16 : sumN 34 l ≤ 16 := by
    have := sumN_bd (n := M) (f := lsz σ) (c := 4) (fun k _ => by unfold lsz; split <;> omega)
    omega
  have again : ∀ (w : Int32) (HD SO KI : Nat → Int32) (OU : Nat → Int64), (∀ q : Int32, q = p0 → w_L_c18_b988 L xs (iI (i : Int)) InvL w q (iI (sumN 34 h : Nat)) (iI M) (iI sw) (iI rw) (iI B) (iI Lm) HD la se SO KI op glm rom hel nw nx thr (iI M) (iI sw) (iI rw) (iI B) (iI Lm) hM sM lM oM kM zM rM gM bM xM OU) → (vp_in (iI (i : Int) + (1 : Int32)) L ∧ ((((xs (iI (i : Int) + (1 : Int32)).toNatClampNeg) = 0 → (w_L_c18_b988 L xs (iI (i : Int)) InvL w (0 : Int32) (iI (sumN 34 h : Nat)) (iI M) (iI sw) (iI rw) (iI B) (iI Lm) HD la se SO KI op glm rom hel nw nx thr (iI M) (iI sw) (iI rw) (iI B) (iI Lm) hM sM lM oM kM zM rM gM bM xM OU)) ∧ (¬ (xs (iI (i : Int) + (1 : Int32)).toNatClampNeg) = 0 → (w_L_c18_b988 L xs (iI (i : Int)) InvL w (1 : Int32) (iI (sumN 34 h : Nat)) (iI M) (iI sw) (iI rw) (iI B) (iI Lm) HD la se SO KI op glm rom hel nw nx thr (iI M) (iI sw) (iI rw) (iI B) (iI Lm) hM sM lM oM kM zM rM gM bM xM OU))))) := fun w HD SO KI OU q => by
    rw [iI_inc, iI_ix (i + 1) (by omega)]
    refine ⟨iI_in' (by omega) (by omega), fun c => q 0 ?_, fun c => q 1 ?_⟩
    · rw [hp, if_pos c]
    · rw [hp, if_neg c]
  unfold w_L_c18_b967 w_L_points
  by_cases c : arr sw rw M σ κ h = -1
  · refine Or.inr (p_cFans_x s2 hσ hκ hω hsw hrw hl4 rfl (by omega) r1 r2 r4 r5 r6 c (fun hd so ki g1 g4 g5 => ⟨rfl, again _ _ _ _ _ (fun q eq => ?_)⟩))
    unfold w_L_c18_b988 w_X2_points
    exact p_completes (sw := sw) (rw := rw) (σ := σ) (κ := κ) s2 (by omega) h4 m1 (fun z => absurd c z) (fun _ rM gM => ⟨fun _ => blkn i10 (InvL_mk rfl hS ⟨⟨g1, r2, r3, g4, g5, r6⟩, m1, m2, m3, m4, m5, m6⟩), fun z => absurd rfl z⟩)
  · have tb := tot_bd (ω := ω) (l := l) (p0 := p0) c
    refine Or.inl (p_cFans s2 hσ hκ hω hsw hrw hl4 rfl (by omega) r1 r2 r4 r5 r6 c (fun hd so ki g1 g4 g5 => p_pointsFor (by omega) (by omega) ⟨v01, again _ _ _ _ _ (fun q eq => ?_)⟩))
    unfold w_L_c18_b988 w_X2_points
    rw [eq]
    refine p_completes (sw := sw) (rw := rw) (σ := σ) (κ := κ) s2 (by omega) h4 m1 (fun _ rM gM => ⟨fun z => absurd z i10, fun _ => ?_⟩) (fun z => absurd z c)
    refine p_pointsOf s2 hσ hκ hω hsw hrw (arr_sum c) hl4 (by omega) m1 m3 m4 m5 m6 (fun rM gM => blk0 (ou0 _ _) (InvL_mk rfl hS ⟨⟨g1, r2, r3, g4, g5, r6⟩, m1, m2, m3, m4, m5, m6⟩))
theorem inv_c18 (hL : L ≤ 2048) (hi : i + 4 ≤ L) (hS : St h l s σ κ ω M sw rw B Lm) (hR : Rw h l s σ κ ω M hd la se so ki op hM sM lM oM kM zM) : w_L_c18 L xs (iI (i : Int)) InvL (iI (sumN 34 h : Nat)) (iI M) (iI sw) (iI rw) (iI B) (iI Lm) hd la se so ki op glm rom hel nw nx thr (iI M) (iI sw) (iI rw) (iI B) (iI Lm) hM sM lM oM kM zM rM gM bM xM ou := by
  obtain ⟨s1, s2, s3, s4, s5, s6, s7, s8, s9, s10, s11⟩ := id hS
  obtain ⟨⟨r1, r2, r3, r4, r5, r6⟩, ⟨m1, m2, m3, m4, m5, m6⟩⟩ := id hR
  have hσ : ∀ i, i < M → σ i ≤ 2 := fun i hi => (s4 i hi).1
  have hκ : ∀ i, i < M → κ i < 34 := fun i hi => (s4 i hi).2.1
  have hω : ∀ i, i < M → ω i ≤ 1 := fun i hi => (s4 i hi).2.2
  have hsw : sw < 100 := by omega
  have hrw : rw < 100 := by omega
  have h4 : ∀ k, k < 34 → h k ≤ 4 := fun k hk => by have := s1 k hk; omega
  have l4 : ∀ k, k < 34 → l k ≤ 4 := fun k hk => by have := s1 k hk; omega
  have hl4 : ∀ k, k < 34 → h k + l k ≤ 4 := fun k hk => by have := s1 k hk; omega
  have l16 : sumN 34 l ≤ 16 := by
    have := sumN_bd (n := M) (f := lsz σ) (c := 4) (fun k _ => by unfold lsz; split <;> omega)
    omega
  unfold w_L_c18
  rw [n1, iI_add', iI_ix (i + 1) (by omega)]
  refine ⟨iI_in' (by omega) (by omega), fun c => ?_, fun c => ?_⟩
  · exact inv_c18_b hL hi (by rw [if_pos c]) hS hR
  · exact inv_c18_b hL hi (by rw [if_neg c]; rfl) hS hR
theorem inv_c19_b {p0 : Int32} (hL : L ≤ 2048) (hi : i + 4 ≤ L) (hp : p0 = if xs (i + 1) = 0 then 0 else 1) (hS : St h l s σ κ ω M sw rw B Lm) (hR : Rw h l s σ κ ω M hd la se so ki op hM sM lM oM kM zM) : w_L_c19_b1039 L xs (iI (i : Int)) InvL p0 (iI (sumN 34 h : Nat)) (iI M) (iI sw) (iI rw) (iI B) (iI Lm) hd la se so ki op glm rom hel nw nx thr (iI M) (iI sw) (iI rw) (iI B) (iI Lm) hM sM lM oM kM zM rM gM bM xM ou := by
  obtain ⟨s1, s2, s3, s4, s5, s6, s7, s8, s9, s10, s11⟩ := id hS
  obtain ⟨⟨r1, r2, r3, r4, r5, r6⟩, ⟨m1, m2, m3, m4, m5, m6⟩⟩ := id hR
  have hσ : ∀ i, i < M → σ i ≤ 2 := fun i hi => (s4 i hi).1
  have hκ : ∀ i, i < M → κ i < 34 := fun i hi => (s4 i hi).2.1
  have hω : ∀ i, i < M → ω i ≤ 1 := fun i hi => (s4 i hi).2.2
  have hsw : sw < 100 := by omega
  have hrw : rw < 100 := by omega
  have h4 : ∀ k, k < 34 → h k ≤ 4 := fun k hk => by have := s1 k hk; omega
  have l4 : ∀ k, k < 34 → l k ≤ 4 := fun k hk => by have := s1 k hk; omega
  have hl4 : ∀ k, k < 34 → h k + l k ≤ 4 := fun k hk => by have := s1 k hk; omega
  have l16 : sumN 34 l ≤ 16 := by
    have := sumN_bd (n := M) (f := lsz σ) (c := 4) (fun k _ => by unfold lsz; split <;> omega)
    omega
  have again : ∀ (w : UInt64) (HD SO KI : Nat → Int32) (OU : Nat → Int64), (∀ q : Int32, q = p0 → w_L_c19_b1059 L xs (iI (i : Int)) InvL w q (iI (sumN 34 h : Nat)) (iI M) (iI sw) (iI rw) (iI B) (iI Lm) HD la se SO KI op glm rom hel nw nx thr (iI M) (iI sw) (iI rw) (iI B) (iI Lm) hM sM lM oM kM zM rM gM bM xM OU) → (vp_in (iI (i : Int) + (1 : Int32)) L ∧ ((((xs (iI (i : Int) + (1 : Int32)).toNatClampNeg) = 0 → (w_L_c19_b1059 L xs (iI (i : Int)) InvL w (0 : Int32) (iI (sumN 34 h : Nat)) (iI M) (iI sw) (iI rw) (iI B) (iI Lm) HD la se SO KI op glm rom hel nw nx thr (iI M) (iI sw) (iI rw) (iI B) (iI Lm) hM sM lM oM kM zM rM gM bM xM OU)) ∧ (¬ (xs (iI (i : Int) + (1 : Int32)).toNatClampNeg) = 0 → (w_L_c19_b1059 L xs (iI (i : Int)) InvL w (1 : Int32) (iI (sumN 34 h : Nat)) (iI M) (iI sw) (iI rw) (iI B) (iI Lm) HD la se SO KI op glm rom hel nw nx thr (iI M) (iI sw) (iI rw) (iI B) (iI Lm) hM sM lM oM kM zM rM gM bM xM OU))))) := fun w HD SO KI OU q => by
    rw [iI_inc, iI_ix (i + 1) (by omega)]
    refine ⟨iI_in' (by omega) (by omega), fun c => q 0 ?_, fun c => q 1 ?_⟩
    · rw [hp, if_pos c]
    · rw [hp, if_neg c]
  unfold w_L_c19_b1039
  refine p_mean s2 hσ hκ hω hsw hrw s1 (by omega) rfl (by omega) r1 r2 r3 r4 r5 r6 (fun hd so ki g1 g4 g5 => again _ _ _ _ _ (fun q eq => ?_))
  unfold w_L_c19_b1059
  rw [eq]
  exact p_mMean s2 hσ hκ hω hsw hrw s1 (by omega) (by omega) m1 m3 m2 m4 m5 m6 (fun hM rM gM q1 => dd (InvL_mk rfl hS ⟨⟨g1, r2, r3, g4, g5, r6⟩, q1, m2, m3, m4, m5, m6⟩))
theorem inv_c19 (hL : L ≤ 2048) (hi : i + 4 ≤ L) (hS : St h l s σ κ ω M sw rw B Lm) (hR : Rw h l s σ κ ω M hd la se so ki op hM sM lM oM kM zM) : w_L_c19 L xs (iI (i : Int)) InvL (iI (sumN 34 h : Nat)) (iI M) (iI sw) (iI rw) (iI B) (iI Lm) hd la se so ki op glm rom hel nw nx thr (iI M) (iI sw) (iI rw) (iI B) (iI Lm) hM sM lM oM kM zM rM gM bM xM ou := by
  obtain ⟨s1, s2, s3, s4, s5, s6, s7, s8, s9, s10, s11⟩ := id hS
  obtain ⟨⟨r1, r2, r3, r4, r5, r6⟩, ⟨m1, m2, m3, m4, m5, m6⟩⟩ := id hR
  have hσ : ∀ i, i < M → σ i ≤ 2 := fun i hi => (s4 i hi).1
  have hκ : ∀ i, i < M → κ i < 34 := fun i hi => (s4 i hi).2.1
  have hω : ∀ i, i < M → ω i ≤ 1 := fun i hi => (s4 i hi).2.2
  have hsw : sw < 100 := by omega
  have hrw : rw < 100 := by omega
  have h4 : ∀ k, k < 34 → h k ≤ 4 := fun k hk => by have := s1 k hk; omega
  have l4 : ∀ k, k < 34 → l k ≤ 4 := fun k hk => by have := s1 k hk; omega
  have hl4 : ∀ k, k < 34 → h k + l k ≤ 4 := fun k hk => by have := s1 k hk; omega
  have l16 : sumN 34 l ≤ 16 := by
    have := sumN_bd (n := M) (f := lsz σ) (c := 4) (fun k _ => by unfold lsz; split <;> omega)
    omega
  unfold w_L_c19
  rw [n1, iI_add', iI_ix (i + 1) (by omega)]
  refine ⟨iI_in' (by omega) (by omega), fun c => ?_, fun c => ?_⟩
  · exact inv_c19_b hL hi (by rw [if_pos c]) hS hR
  · exact inv_c19_b hL hi (by rw [if_neg c]; rfl) hS hR
theorem inv_c20 (hS : St h l s σ κ ω M sw rw B Lm) (hR : Rw h l s σ κ ω M hd la se so ki op hM sM lM oM kM zM) : w_L_c20 L xs (iI (i : Int)) InvL (iI (sumN 34 h : Nat)) (iI M) (iI sw) (iI rw) (iI B) (iI Lm) hd la se so ki op glm rom hel nw nx thr (iI M) (iI sw) (iI rw) (iI B) (iI Lm) hM sM lM oM kM zM rM gM bM xM ou := by
  obtain ⟨s1, s2, s3, s4, s5, s6, s7, s8, s9, s10, s11⟩ := id hS
  obtain ⟨⟨r1, r2, r3, r4, r5, r6⟩, ⟨m1, m2, m3, m4, m5, m6⟩⟩ := id hR
  have hσ : ∀ i, i < M → σ i ≤ 2 := fun i hi => (s4 i hi).1
  have hκ : ∀ i, i < M → κ i < 34 := fun i hi => (s4 i hi).2.1
  have hω : ∀ i, i < M → ω i ≤ 1 := fun i hi => (s4 i hi).2.2
  have hsw : sw < 100 := by omega
  have hrw : rw < 100 := by omega
  have h4 : ∀ k, k < 34 → h k ≤ 4 := fun k hk => by have := s1 k hk; omega
  have l4 : ∀ k, k < 34 → l k ≤ 4 := fun k hk => by have := s1 k hk; omega
  have hl4 : ∀ k, k < 34 → h k + l k ≤ 4 := fun k hk => by have := s1 k hk; omega
  have l16 : sumN 34 l ≤ 16 := by
    have := sumN_bd (n := M) (f := lsz σ) (c := 4) (fun k _ => by unfold lsz; split <;> omega)
    omega
  unfold w_L_c20
  refine p_digest s2 hσ hκ hω hsw hrw s1 l16 rfl (by omega) r1 r2 r3 r4 r5 r6 (fun v hd so ki glm rom hel nw nx hv g1 g4 g5 => ?_)
  refine p_mDigest s2 hω s1 l16 (by omega) m1 m3 m2 m4 m5 m6 (fun w hM rM gM bM xM hw q1 => ?_)
  rw [isMt_one hv hw]
  exact ⟨fun _ => InvL_mk rfl hS ⟨⟨g1, r2, r3, g4, g5, r6⟩, q1, m2, m3, m4, m5, m6⟩, fun c => absurd rfl c⟩
end READ
