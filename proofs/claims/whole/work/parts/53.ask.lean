/-! count, meldAt, setWinds, setPoints -/
section ASK
variable {L : Nat} {xs : Nat → Int32} {i : Nat} {h l s σ κ ω : Nat → Nat} {M sw rw B Lm : Nat} {hd la se so ki op : Nat → Int32} {glm rom hel : Int32} {nw nx : Nat → Int32} {thr : Int32} {hM sM lM oM kM zM rM gM bM xM : Nat → Int32} {ou : Nat → Int64}
theorem inv_c7_b {p p0 : Int32} (hL : L ≤ 2048) (hi : i + 4 ≤ L) (hp : p = xs (i + 1)) (hp0 : p0 = if xs (i + 2) = 0 then 0 else 1) (hS : St h l s σ κ ω M sw rw B Lm) (hR : Rw h l s σ κ ω M hd la se so ki op hM sM lM oM kM zM) : w_L_c7_b503 L xs (iI (i : Int)) InvL p0 p (iI (sumN 34 h : Nat)) (iI M) (iI sw) (iI rw) (iI B) (iI Lm) hd la se so ki op glm rom hel nw nx thr (iI M) (iI sw) (iI rw) (iI B) (iI Lm) hM sM lM oM kM zM rM gM bM xM ou := by
  obtain ⟨s1, s2, s3, s4, s5, s6, s7, s8, s9, s10, s11⟩ := id hS
  obtain ⟨⟨r1, r2, r3, r4, r5, r6⟩, ⟨m1, m2, m3, m4, m5, m6⟩⟩ := id hR
  have hσ : ∀ i, i < M → σ i ≤ 2 := fun i hi => (s4 i hi).1
  have hκ : ∀ i, i < M → κ i < 34 := fun i hi => (s4 i hi).2.1
  have hω : ∀ i, i < M → ω i ≤ 1 := fun i hi => (s4 i hi).2.2
  have hsw : sw < 100 := by omega
  have hrw : rw < 100 := by omega
  have h4 : ∀ k, k < 34 → h k ≤ 4 := fun k hk => by have := s1 k hk; omega
  have l4 : ∀ k, k < 34 → l k ≤ 4 := fun k hk => by have := s1 k hk; omega
  have hl4 : ∀ k, k < 34 → h k + l k ≤ 4 := fun k hk => by have := s1 k hk; omega
  have l16 : sumN 34 l ≤ 16 := by
    have := sumN_bd (n := M) (f := lsz σ) (c := 4) (fun k _ => by unfold lsz; split <;> omega)
    omega
  have again : ∀ (w : Int32) (OU : Nat → Int64), (∀ q : Int32, q = p0 → w_L_c7_b530 L xs (iI (i : Int)) InvL w q p (iI (sumN 34 h : Nat)) (iI M) (iI sw) (iI rw) (iI B) (iI Lm) hd la se so ki op glm rom hel nw nx thr (iI M) (iI sw) (iI rw) (iI B) (iI Lm) hM sM lM oM kM zM rM gM bM xM OU) → (vp_in (iI (i : Int) + (1 : Int32)) L ∧ (vp_in (iI (i : Int) + (2 : Int32)) L ∧ ((((xs (iI (i : Int) + (2 : Int32)).toNatClampNeg) = 0 → (w_L_c7_b530 L xs (iI (i : Int)) InvL w (0 : Int32) (xs (iI (i : Int) + (1 : Int32)).toNatClampNeg) (iI (sumN 34 h : Nat)) (iI M) (iI sw) (iI rw) (iI B) (iI Lm) hd la se so ki op glm rom hel nw nx thr (iI M) (iI sw) (iI rw) (iI B) (iI Lm) hM sM lM oM kM zM rM gM bM xM OU)) ∧ (¬ (xs (iI (i : Int) + (2 : Int32)).toNatClampNeg) = 0 → (w_L_c7_b530 L xs (iI (i : Int)) InvL w (1 : Int32) (xs (iI (i : Int) + (1 : Int32)).toNatClampNeg) (iI (sumN 34 h : Nat)) (iI M) (iI sw) (iI rw) (iI B) (iI Lm) hd la se so ki op glm rom hel nw nx thr (iI M) (iI sw) (iI rw) (iI B) (iI Lm) hM sM lM oM kM zM rM gM bM xM OU)))))) := fun w OU q => by
    have e2 : iI (i : Int) + (2 : Int32) = iI ((i + 2 : Nat) : Int) := by rw [n2, iI_add']
    rw [iI_inc, e2, iI_ix (i + 1) (by omega), iI_ix (i + 2) (by omega)]
    have vin : vp_in (iI ((i + 1 : Nat) : Int)) L := iI_in' (by omega) (by omega)
    have vin2 : vp_in (iI ((i + 2 : Nat) : Int)) L := iI_in' (by omega) (by omega)
    rw [← hp]
    refine ⟨vin, vin2, fun c => q 0 ?_, fun c => q 1 ?_⟩
    · rw [hp0, if_pos c]
    · rw [hp0, if_neg c]
  unfold w_L_c7_b503 w_L_count
  by_cases hk : isK p
  · obtain ⟨k, hk, ek⟩ := hk
    rw [ek] at again ⊢
    refine Or.inl (p_reqKind_y hk ?_)
    rw [iI_ix k (by omega), r1 k hk, r3 k hk]
    refine ⟨fun c => ⟨iI_in' (by omega) (by omega), v01, again _ _ (fun q eq => ?_)⟩, fun c => ⟨iI_in' (by omega) (by omega), v01, again _ _ (fun q eq => ?_)⟩⟩
    · unfold w_L_c7_b530 w_X2_count
      refine p_mKind_y hk ⟨fun z => absurd z i10, fun _ => ?_⟩
      rw [iI_ix k (by omega), m1 k hk, eq]
      exact ⟨fun _ => ⟨iI_in' (by omega) (by omega), blk0 (ou0 _ _) (InvL_mk rfl hS hR)⟩, fun z => absurd c z⟩
    · unfold w_L_c7_b530 w_X2_count
      refine p_mKind_y hk ⟨fun z => absurd z i10, fun _ => ?_⟩
      rw [iI_ix k (by omega), m2 k hk, eq]
      exact ⟨fun z => absurd z c, fun _ => ⟨iI_in' (by omega) (by omega), blk0 (ou0 _ _) (InvL_mk rfl hS hR)⟩⟩
  · refine Or.inr (Or.inr (p_reqKind_n hk ⟨rfl, again _ _ (fun q eq => ?_)⟩))
    unfold w_L_c7_b530 w_X2_count
    exact p_mKind_n hk ⟨fun _ => blkn i10 (InvL_mk rfl hS hR), fun z => absurd rfl z⟩
theorem inv_c7 (hL : L ≤ 2048) (hi : i + 4 ≤ L) (hS : St h l s σ κ ω M sw rw B Lm) (hR : Rw h l s σ κ ω M hd la se so ki op hM sM lM oM kM zM) : w_L_c7 L xs (iI (i : Int)) InvL (iI (sumN 34 h : Nat)) (iI M) (iI sw) (iI rw) (iI B) (iI Lm) hd la se so ki op glm rom hel nw nx thr (iI M) (iI sw) (iI rw) (iI B) (iI Lm) hM sM lM oM kM zM rM gM bM xM ou := by
  obtain ⟨s1, s2, s3, s4, s5, s6, s7, s8, s9, s10, s11⟩ := id hS
  obtain ⟨⟨r1, r2, r3, r4, r5, r6⟩, ⟨m1, m2, m3, m4, m5, m6⟩⟩ := id hR
  have hσ : ∀ i, i < M → σ i ≤ 2 := fun i hi => (s4 i hi).1
  have hκ : ∀ i, i < M → κ i < 34 := fun i hi => (s4 i hi).2.1
  have hω : ∀ i, i < M → ω i ≤ 1 := fun i hi => (s4 i hi).2.2
  have hsw : sw < 100 := by omega
  have hrw : rw < 100 := by omega
  have h4 : ∀ k, k < 34 → h k ≤ 4 := fun k hk => by have := s1 k hk; omega
  have l4 : ∀ k, k < 34 → l k ≤ 4 := fun k hk => by have := s1 k hk; omega
  have hl4 : ∀ k, k < 34 → h k + l k ≤ 4 := fun k hk => by have := s1 k hk; omega
  have l16 : sumN 34 l ≤ 16 := by
    have := sumN_bd (n := M) (f := lsz σ) (c := 4) (fun k _ => by unfold lsz; split <;> omega)
    omega
  unfold w_L_c7
  have e2 : iI (i : Int) + (2 : Int32) = iI ((i + 2 : Nat) : Int) := by rw [n2, iI_add']
  rw [iI_inc, e2, iI_ix (i + 1) (by omega), iI_ix (i + 2) (by omega)]
  have vin : vp_in (iI ((i + 1 : Nat) : Int)) L := iI_in' (by omega) (by omega)
  have vin2 : vp_in (iI ((i + 2 : Nat) : Int)) L := iI_in' (by omega) (by omega)
  refine ⟨vin, vin2, fun c => ?_, fun c => ?_⟩
  · exact inv_c7_b hL hi rfl (by rw [if_pos c]) hS hR
  · exact inv_c7_b hL hi rfl (by rw [if_neg c]) hS hR
theorem inv_c9 (hL : L ≤ 2048) (hi : i + 4 ≤ L) (hS : St h l s σ κ ω M sw rw B Lm) (hR : Rw h l s σ κ ω M hd la se so ki op hM sM lM oM kM zM) : w_L_c9 L xs (iI (i : Int)) InvL (iI (sumN 34 h : Nat)) (iI M) (iI sw) (iI rw) (iI B) (iI Lm) hd la se so ki op glm rom hel nw nx thr (iI M) (iI sw) (iI rw) (iI B) (iI Lm) hM sM lM oM kM zM rM gM bM xM ou := by
  obtain ⟨s1, s2, s3, s4, s5, s6, s7, s8, s9, s10, s11⟩ := id hS
  obtain ⟨⟨r1, r2, r3, r4, r5, r6⟩, ⟨m1, m2, m3, m4, m5, m6⟩⟩ := id hR
  have hσ : ∀ i, i < M → σ i ≤ 2 := fun i hi => (s4 i hi).1
  have hκ : ∀ i, i < M → κ i < 34 := fun i hi => (s4 i hi).2.1
  have hω : ∀ i, i < M → ω i ≤ 1 := fun i hi => (s4 i hi).2.2
  have hsw : sw < 100 := by omega
  have hrw : rw < 100 := by omega
  have h4 : ∀ k, k < 34 → h k ≤ 4 := fun k hk => by have := s1 k hk; omega
  have l4 : ∀ k, k < 34 → l k ≤ 4 := fun k hk => by have := s1 k hk; omega
  have hl4 : ∀ k, k < 34 → h k + l k ≤ 4 := fun k hk => by have := s1 k hk; omega
  have l16 : sumN 34 l ≤ 16 := by
    have := sumN_bd (n := M) (f := lsz σ) (c := 4) (fun k _ => by unfold lsz; split <;> omega)
    omega
  unfold w_L_c9 w_L_meldAt
  have e2 : iI (i : Int) + (2 : Int32) = iI ((i + 2 : Nat) : Int) := by rw [n2, iI_add']
  rw [iI_inc, e2, iI_ix (i + 1) (by omega), iI_ix (i + 2) (by omega)]
  have vin : vp_in (iI ((i + 1 : Nat) : Int)) L := iI_in' (by omega) (by omega)
  have vin2 : vp_in (iI ((i + 2 : Nat) : Int)) L := iI_in' (by omega) (by omega)
  refine ⟨vin, vin2, ?_⟩
  generalize xs (i + 1) = p
  generalize xs (i + 2) = q
  have hrp := r32_of p
  have bad : (p < 0 ∨ ¬ p < 0 ∧ ¬ p < iI (M : Nat)) ∨ (¬ p < 0 ∧ p < iI (M : Nat)) ∧ (q < 0 ∨ ¬ q < 0 ∧ ¬ q ≤ (2 : Int32)) → ∀ post : Int32 → Int32 → Prop, post 0 1 → w_X2_meldAt thr (iI M) oM kM zM p q post := fun hb post hpost => by
    unfold w_X2_meldAt w_X2_meldAt_b37
    have top : iI (M : Int) - (1 : Int32) = iI ((M : Int) - 1) := by rw [iI_l1, iI_sub]
    rcases hb with z | ⟨⟨z1, z2⟩, z⟩
    · refine p_in_n ?_ ⟨fun _ => hpost, fun z => absurd rfl z⟩
      rcases z with z | ⟨z, z2⟩
      · exact Or.inl z
      · refine Or.inr ⟨z, ?_⟩
        rw [iI_of p, iI_lt hrp ⟨by omega, by omega⟩] at z2
        rw [top, iI_of p, iI_lt ⟨by omega, by omega⟩ hrp]
        omega
    · have y : w_X2_isIn p (0 : Int32) (iI (M : Int) - (1 : Int32)) = w_X2_isIn p (0 : Int32) (iI (M : Int) - (1 : Int32)) := rfl
      unfold w_X2_isIn
      refine ⟨fun c => absurd c z1, fun _ => ⟨fun c => ?_, fun _ => ⟨fun c => absurd c i10, fun _ => ?_⟩⟩⟩
      · rw [iI_of p, iI_lt hrp ⟨by omega, by omega⟩] at z2
        rw [top, iI_of p, iI_lt ⟨by omega, by omega⟩ hrp] at c
        omega
      · rcases z with z | ⟨z, z3⟩
        · exact ⟨fun _ => ⟨fun _ => hpost, fun z => absurd rfl z⟩, fun c => absurd z c⟩
        · refine ⟨fun c => absurd c z, fun _ => ⟨fun _ => ⟨fun _ => hpost, fun z => absurd rfl z⟩, fun c => absurd ?_ c⟩⟩
          have hrq := r32_of q
          rw [iI_of q, iI_l2, iI_le hrq ⟨by omega, by omega⟩] at z3
          rw [iI_of q, iI_l2, iI_lt ⟨by omega, by omega⟩ hrq]
          omega
  by_cases c1 : p < 0
  · refine Or.inr ⟨fun _ => ⟨rfl, vin, vin2, bad (Or.inl (Or.inl c1)) _ (blkn i10 (InvL_mk rfl hS hR))⟩, fun z => absurd c1 z⟩
  · by_cases c2 : p < iI (M : Nat)
    · by_cases c3 : q < 0
      · exact Or.inr ⟨fun z => absurd z c1, fun _ => ⟨fun _ => ⟨fun _ => ⟨rfl, vin, vin2, bad (Or.inr ⟨⟨c1, c2⟩, Or.inl c3⟩) _ (blkn i10 (InvL_mk rfl hS hR))⟩, fun z => absurd c3 z⟩, fun z => absurd c2 z⟩⟩
      · by_cases c4 : q ≤ (2 : Int32)
        · refine Or.inl ⟨fun z => absurd z c1, fun _ => ⟨fun _ => ⟨fun z => absurd z c3, fun _ => ⟨fun _ => ?_, fun z => absurd c4 z⟩⟩, fun z => absurd c2 z⟩⟩
          have hrq := r32_of q
          have c1' := c1
          rw [iI_of p, iI_lt0 hrp] at c1'
          rw [iI_of p, iI_lt hrp ⟨by omega, by omega⟩] at c2
          rw [iI_of q, iI_lt0 hrq] at c3
          rw [iI_of q, iI_l2, iI_le hrq ⟨by omega, by omega⟩] at c4
          obtain ⟨j, hj, ej⟩ : ∃ j : Nat, j < M ∧ p = iI (j : Nat) := ⟨p.toInt.toNat, by omega, by rw [show ((p.toInt.toNat : Nat) : Int) = p.toInt by omega]; exact iI_of p⟩
          obtain ⟨u, hu, eu⟩ : ∃ u : Nat, u < 3 ∧ q = iI (u : Nat) := ⟨q.toInt.toNat, by omega, by rw [show ((q.toInt.toNat : Nat) : Int) = q.toInt by omega]; exact iI_of q⟩
          rw [ej, eu]
          refine p_tell r4 r5 r6 hω s2 hj hu ⟨v01, vin, vin2, ?_⟩
          unfold w_X2_meldAt
          rw [n1, iI_sub' (show 1 ≤ M by omega), n0, n2]
          refine p_in_y (by omega) (by omega) (by omega) ?_
          refine ⟨fun z => absurd z i10, fun _ => p_in_y (by omega) (by omega) (by omega) ⟨fun z => absurd z i10, fun _ => p_told m4 m5 m6 hω s2 hj hu ?_⟩⟩
          exact blk0 (ou0 _ _) (InvL_mk rfl hS hR)
        · exact Or.inr ⟨fun z => absurd z c1, fun _ => ⟨fun _ => ⟨fun z => absurd z c3, fun _ => ⟨fun z => absurd z c4, fun _ => ⟨rfl, vin, vin2, bad (Or.inr ⟨⟨c1, c2⟩, Or.inr ⟨c3, c4⟩⟩) _ (blkn i10 (InvL_mk rfl hS hR))⟩⟩⟩, fun z => absurd c2 z⟩⟩
    · exact Or.inr ⟨fun z => absurd z c1, fun _ => ⟨fun z => absurd z c2, fun _ => ⟨rfl, vin, vin2, bad (Or.inl (Or.inr ⟨c1, c2⟩)) _ (blkn i10 (InvL_mk rfl hS hR))⟩⟩⟩
theorem inv_c15 (hL : L ≤ 2048) (hi : i + 4 ≤ L) (hS : St h l s σ κ ω M sw rw B Lm) (hR : Rw h l s σ κ ω M hd la se so ki op hM sM lM oM kM zM) : w_L_c15 L xs (iI (i : Int)) InvL (iI (sumN 34 h : Nat)) (iI M) (iI sw) (iI rw) (iI B) (iI Lm) hd la se so ki op glm rom hel nw nx thr (iI M) (iI sw) (iI rw) (iI B) (iI Lm) hM sM lM oM kM zM rM gM bM xM ou := by
  obtain ⟨s1, s2, s3, s4, s5, s6, s7, s8, s9, s10, s11⟩ := id hS
  obtain ⟨⟨r1, r2, r3, r4, r5, r6⟩, ⟨m1, m2, m3, m4, m5, m6⟩⟩ := id hR
  have hσ : ∀ i, i < M → σ i ≤ 2 := fun i hi => (s4 i hi).1
  have hκ : ∀ i, i < M → κ i < 34 := fun i hi => (s4 i hi).2.1
  have hω : ∀ i, i < M → ω i ≤ 1 := fun i hi => (s4 i hi).2.2
  have hsw : sw < 100 := by omega
  have hrw : rw < 100 := by omega
  have h4 : ∀ k, k < 34 → h k ≤ 4 := fun k hk => by have := s1 k hk; omega
  have l4 : ∀ k, k < 34 → l k ≤ 4 := fun k hk => by have := s1 k hk; omega
  have hl4 : ∀ k, k < 34 → h k + l k ≤ 4 := fun k hk => by have := s1 k hk; omega
  have l16 : sumN 34 l ≤ 16 := by
    have := sumN_bd (n := M) (f := lsz σ) (c := 4) (fun k _ => by unfold lsz; split <;> omega)
    omega
  unfold w_L_c15 w_L_setWinds
  have e2 : iI (i : Int) + (2 : Int32) = iI ((i + 2 : Nat) : Int) := by rw [n2, iI_add']
  rw [iI_inc, e2, iI_ix (i + 1) (by omega), iI_ix (i + 2) (by omega)]
  have vin : vp_in (iI ((i + 1 : Nat) : Int)) L := iI_in' (by omega) (by omega)
  have vin2 : vp_in (iI ((i + 2 : Nat) : Int)) L := iI_in' (by omega) (by omega)
  refine ⟨vin, vin2, ?_⟩
  generalize xs (i + 1) = p
  generalize xs (i + 2) = q
  rcases in_or p 27 30 (by omega) (by omega) with ⟨a, a1, a2, rfl⟩ | hp
  · rcases in_or q 27 30 (by omega) (by omega) with ⟨b, b1, b2, rfl⟩ | hq
    · refine Or.inl (p_wind_y a1 a2 ⟨fun z => absurd z i10, fun _ => p_wind_y b1 b2 ⟨fun z => absurd z i10, fun _ => ⟨v01, vin, vin2, ?_⟩⟩⟩)
      unfold w_X2_setWinds
      rw [n27, n30]
      refine p_in_y (by omega) a1 a2 ⟨fun z => absurd z i10, fun _ => p_in_y (by omega) b1 b2 ⟨fun z => absurd z i10, fun _ => blk0 (ou0 _ _) ?_⟩⟩
      exact InvL_mk rfl ⟨s1, s2, s3, s4, s5, s6, s7, ⟨a1, a2⟩, ⟨b1, b2⟩, s10, s11⟩ hR
    · refine Or.inr (p_wind_y a1 a2 ⟨fun z => absurd z i10, fun _ => p_wind_n hq ⟨fun _ => ⟨rfl, vin, vin2, ?_⟩, fun z => absurd rfl z⟩⟩)
      unfold w_X2_setWinds w_X2_setWinds_b27
      rw [n27, n30]
      exact p_in_y (by omega) a1 a2 ⟨fun z => absurd z i10, fun _ => p_in_n hq ⟨fun _ => blkn i10 (InvL_mk rfl hS hR), fun z => absurd rfl z⟩⟩
  · refine Or.inr (p_wind_n hp ⟨fun _ => ⟨rfl, vin, vin2, ?_⟩, fun z => absurd rfl z⟩)
    unfold w_X2_setWinds w_X2_setWinds_b27
    rw [n27, n30]
    exact p_in_n hp ⟨fun _ => blkn i10 (InvL_mk rfl hS hR), fun z => absurd rfl z⟩
theorem inv_c16 (hL : L ≤ 2048) (hi : i + 4 ≤ L) (hS : St h l s σ κ ω M sw rw B Lm) (hR : Rw h l s σ κ ω M hd la se so ki op hM sM lM oM kM zM) : w_L_c16 L xs (iI (i : Int)) InvL (iI (sumN 34 h : Nat)) (iI M) (iI sw) (iI rw) (iI B) (iI Lm) hd la se so ki op glm rom hel nw nx thr (iI M) (iI sw) (iI rw) (iI B) (iI Lm) hM sM lM oM kM zM rM gM bM xM ou := by
  obtain ⟨s1, s2, s3, s4, s5, s6, s7, s8, s9, s10, s11⟩ := id hS
  obtain ⟨⟨r1, r2, r3, r4, r5, r6⟩, ⟨m1, m2, m3, m4, m5, m6⟩⟩ := id hR
  have hσ : ∀ i, i < M → σ i ≤ 2 := fun i hi => (s4 i hi).1
  have hκ : ∀ i, i < M → κ i < 34 := fun i hi => (s4 i hi).2.1
  have hω : ∀ i, i < M → ω i ≤ 1 := fun i hi => (s4 i hi).2.2
  have hsw : sw < 100 := by omega
  have hrw : rw < 100 := by omega
  have h4 : ∀ k, k < 34 → h k ≤ 4 := fun k hk => by have := s1 k hk; omega
  have l4 : ∀ k, k < 34 → l k ≤ 4 := fun k hk => by have := s1 k hk; omega
  have hl4 : ∀ k, k < 34 → h k + l k ≤ 4 := fun k hk => by have := s1 k hk; omega
  have l16 : sumN 34 l ≤ 16 := by
    have := sumN_bd (n := M) (f := lsz σ) (c := 4) (fun k _ => by unfold lsz; split <;> omega)
    omega
  unfold w_L_c16 w_L_setPoints
  have e2 : iI (i : Int) + (2 : Int32) = iI ((i + 2 : Nat) : Int) := by rw [n2, iI_add']
  rw [iI_inc, e2, iI_ix (i + 1) (by omega), iI_ix (i + 2) (by omega)]
  have vin : vp_in (iI ((i + 1 : Nat) : Int)) L := iI_in' (by omega) (by omega)
  have vin2 : vp_in (iI ((i + 2 : Nat) : Int)) L := iI_in' (by omega) (by omega)
  refine ⟨vin, vin2, ?_⟩
  generalize xs (i + 1) = p
  generalize xs (i + 2) = q
  have le_of : ∀ (x : Int32) (b : Nat), b < 1000 → (x ≤ iI (b : Nat) ↔ ¬ iI (b : Nat) < x) := fun x b hb => by
    have hx := r32_of x
    rw [iI_of x, iI_le hx ⟨by omega, by omega⟩, iI_lt ⟨by omega, by omega⟩ hx]; omega
  rcases in_or p 1 100 (by omega) (by omega) with ⟨a, a1, a2, rfl⟩ | hp
  · have f1 : ¬ iI (a : Nat) < iI (1 : Nat) := by rw [iI_lt' (a := a) (b := 1) (by omega) (by omega)]; omega
    have f2 : iI (a : Nat) ≤ iI (100 : Nat) := by rw [iI_le' (a := a) (b := 100) (by omega) (by omega)]; omega
    rcases in_or q 1 13 (by omega) (by omega) with ⟨b, b1, b2, rfl⟩ | hq
    · have f3 : ¬ iI (b : Nat) < iI (1 : Nat) := by rw [iI_lt' (a := b) (b := 1) (by omega) (by omega)]; omega
      have f4 : iI (b : Nat) ≤ iI (13 : Nat) := by rw [iI_le' (a := b) (b := 13) (by omega) (by omega)]; omega
      refine Or.inl ⟨fun z => absurd z f1, fun _ => ⟨fun _ => ⟨fun z => absurd z f3, fun _ => ⟨fun _ => ⟨v01, vin, vin2, ?_⟩, fun z => absurd f4 z⟩⟩, fun z => absurd f2 z⟩⟩
      unfold w_X2_setPoints
      rw [n1, n100, n13]
      refine p_in_y (by omega) a1 a2 ⟨fun z => absurd z i10, fun _ => p_in_y (by omega) b1 b2 ⟨fun z => absurd z i10, fun _ => blk0 (ou0 _ _) ?_⟩⟩
      exact InvL_mk rfl ⟨s1, s2, s3, s4, s5, s6, s7, s8, s9, ⟨a1, a2⟩, ⟨b1, b2⟩⟩ hR
    · have go : ∀ post : Int32 → Int32 → Int32 → Int32 → Prop, post 0 1 (iI B) (iI Lm) → w_X2_setPoints thr (iI B) (iI Lm) (iI (a : Nat)) q post := fun post hpost => by
        unfold w_X2_setPoints w_X2_setPoints_b25
        rw [n100, n13]
        exact p_in_y (a := 1) (by omega) a1 a2 ⟨fun z => absurd z i10, fun _ => p_in_n hq ⟨fun _ => hpost, fun z => absurd rfl z⟩⟩
      refine Or.inr ⟨fun z => absurd z f1, fun _ => ⟨fun _ => ?_, fun z => absurd f2 z⟩⟩
      rcases hq with z | ⟨z, z2⟩
      · exact ⟨fun _ => ⟨rfl, vin, vin2, go _ (blkn i10 (InvL_mk rfl hS hR))⟩, fun y => absurd z y⟩
      · exact ⟨fun y => absurd y z, fun _ => ⟨fun y => absurd z2 ((le_of q 13 (by omega)).1 y), fun _ => ⟨rfl, vin, vin2, go _ (blkn i10 (InvL_mk rfl hS hR))⟩⟩⟩
  · have go : ∀ post : Int32 → Int32 → Int32 → Int32 → Prop, post 0 1 (iI B) (iI Lm) → w_X2_setPoints thr (iI B) (iI Lm) p q post := fun post hpost => by
      unfold w_X2_setPoints w_X2_setPoints_b25
      rw [n100]
      exact p_in_n (a := iI (1 : Nat)) hp ⟨fun _ => hpost, fun z => absurd rfl z⟩
    refine Or.inr ?_
    rcases hp with z | ⟨z, z2⟩
    · exact ⟨fun _ => ⟨rfl, vin, vin2, go _ (blkn i10 (InvL_mk rfl hS hR))⟩, fun y => absurd z y⟩
    · exact ⟨fun y => absurd y z, fun _ => ⟨fun y => absurd z2 ((le_of p 100 (by omega)).1 y), fun _ => ⟨rfl, vin, vin2, go _ (blkn i10 (InvL_mk rfl hS hR))⟩⟩⟩
end ASK
