/-! the calls that change a hand -/
theorem St_up {h l s σ κ ω : Nat → Nat} {M sw rw B Lm k : Nat} (hS : St h l s σ κ ω M sw rw B Lm) (hk : k < 34) (hk4 : h k + l k + s k < 4) (hs : sumN 34 h + 3 * M < 14) : St (nup h k (h k + 1)) l s σ κ ω M sw rw B Lm := by
  obtain ⟨s1, s2, s3, s4⟩ := hS
  refine ⟨fun j hj => ?_, s2, by rw [sum_up hk]; omega, s4⟩
  by_cases e : j = k
  · subst e; rw [nup_eq]; omega
  · rw [nup_ne _ _ e]; exact s1 j hj
theorem St_drop {h l s σ κ ω : Nat → Nat} {M sw rw B Lm k : Nat} (hS : St h l s σ κ ω M sw rw B Lm) (hk : k < 34) (hp : 0 < h k) : St (nup h k (h k - 1)) l (nup s k (s k + 1)) σ κ ω M sw rw B Lm := by
  obtain ⟨s1, s2, s3, s4⟩ := hS
  refine ⟨fun j hj => ?_, s2, by have := sum_dn hk hp; omega, s4⟩
  by_cases e : j = k
  · subst e; rw [nup_eq, nup_eq]; have := s1 j hj; omega
  · rw [nup_ne _ _ e, nup_ne _ _ e]; exact s1 j hj
theorem St_see {h l s σ κ ω : Nat → Nat} {M sw rw B Lm k : Nat} (hS : St h l s σ κ ω M sw rw B Lm) (hk4 : h k + l k + s k < 4) : St h l (nup s k (s k + 1)) σ κ ω M sw rw B Lm := by
  obtain ⟨s1, s2, s3, s4⟩ := hS
  refine ⟨fun j hj => ?_, s2, s3, s4⟩
  by_cases e : j = k
  · subst e; rw [nup_eq]; omega
  · rw [nup_ne _ _ e]; exact s1 j hj
theorem St_new {h l s σ κ ω : Nat → Nat} {M sw rw B Lm : Nat} (hS : St h l s σ κ ω M sw rw B Lm) : St (fun _ => 0) (fun _ => 0) (fun _ => 0) σ κ ω 0 sw rw B Lm := by
  obtain ⟨s1, s2, s3, s4, s5, s6, s7, s8⟩ := hS
  exact ⟨fun k _ => by show 0 + 0 + 0 ≤ 4; omega, by omega, by decide, fun i hi => absurd hi (Nat.not_lt_zero i), by show sumN 34 (fun _ => 0) = 0; decide, fun i hi => absurd hi (Nat.not_lt_zero i), fun i _ hi => absurd hi (Nat.not_lt_zero i), s8⟩
theorem rowN_upd1 {f : Nat → Int32} {h : Nat → Nat} (hf : rowN 34 f h) {k : Nat} (hk : k < 34) : rowN 34 (upd f k (f k + (1 : Int32))) (nup h k (h k + 1)) := rowN_upd hf (by rw [hf k hk, iI_inc])
theorem rowN_updm {f : Nat → Int32} {h : Nat → Nat} (hf : rowN 34 f h) {k : Nat} (hk : k < 34) (hp : 0 < h k) : rowN 34 (upd f k (f k - (1 : Int32))) (nup h k (h k - 1)) := rowN_upd hf (by rw [hf k hk, n1, iI_sub' (by omega)])
theorem p_mBegin {M : Nat} {h : Nat → Nat} {hM sM lM : Nat → Int32} {thr : Int32} (hh : rowN 34 hM h) {post : Int32 → Int32 → Int32 → (Nat → Int32) → (Nat → Int32) → (Nat → Int32) → Prop} (hq : ∀ hM sM lM, rowN 34 hM (fun _ => 0) → rowN 34 sM (fun _ => 0) → rowN 34 lM (fun _ => 0) → post (iI (sumN 34 h + 3 * M : Nat)) 0 0 hM sM lM) : w_X2_begin thr (iI M) hM sM lM post := by
  unfold w_X2_begin
  refine p_sizeOf hh ⟨35, ?_⟩
  have key : ∀ (d k : Nat) (hM sM lM : Nat → Int32), k + d = 34 → (∀ j, j < k → hM j = 0) → (∀ j, j < k → sM j = 0) → (∀ j, j < k → lM j = 0) → w_X2_begin_b12 post (d + 1) (iI (sumN 34 h + 3 * M : Nat)) (iI k) 0 (iI M) hM sM lM := by
    intro d
    induction d with
    | zero =>
      intro k hM sM lM hk a b c
      have e : k = 34 := by omega
      subst e
      rw [w_X2_begin_b12, n34, iI_le' (a := 34) (b := 34) (by omega) (by omega)]
      exact ⟨fun _ => hq hM sM lM (fun j hj => a j hj) (fun j hj => b j hj) (fun j hj => c j hj), fun z => absurd (by omega) z⟩
    | succ d ih =>
      intro k hM sM lM hk a b c
      have up0 : ∀ f : Nat → Int32, (∀ j, j < k → f j = 0) → ∀ j, j < k + 1 → (upd f k (0 : Int32)) j = 0 := fun f hf j hj => by
        unfold upd
        by_cases e : j = k
        · rw [if_pos e]
        · rw [if_neg e]; exact hf j (by omega)
      rw [w_X2_begin_b12, n34, iI_le' (a := 34) (b := k) (by omega) (by omega), iI_ix k (by omega), iI_inc]
      exact ⟨fun z => absurd z (by omega), fun _ => ⟨iI_in' (by omega) (by omega), iI_in' (by omega) (by omega), iI_in' (by omega) (by omega), ih (k + 1) _ _ _ (by omega) (up0 hM a) (up0 sM b) (up0 lM c)⟩⟩
  have := key 34 0 hM sM lM (by omega) (fun j hj => by omega) (fun j hj => by omega) (fun j hj => by omega)
  exact this
theorem n30 : (30 : Int32) = iI ((30 : Nat) : Int) := by decide
theorem p_in_y {a b : Nat} (hb : b < 1000) {k : Nat} (h1 : a ≤ k) (h2 : k ≤ b) {post : Int32 → Prop} (q : post 1) : w_X2_isIn (iI k) (iI a) (iI b) post := by
  unfold w_X2_isIn
  rw [iI_lt' (a := k) (b := a) (by omega) (by omega), iI_lt' (a := b) (b := k) (by omega) (by omega)]
  exact ⟨fun c => by omega, fun _ => ⟨fun c => by omega, fun _ => q⟩⟩
theorem in_or (p : Int32) (a b : Nat) (hb : b < 1000) (ha : a < 1000) : (∃ k : Nat, a ≤ k ∧ k ≤ b ∧ p = iI k) ∨ (p < iI a ∨ ¬ p < iI a ∧ iI b < p) := by
  have hr := r32_of p
  rw [iI_of p, iI_lt hr ⟨by omega, by omega⟩, iI_lt (a := (b : Int)) ⟨by omega, by omega⟩ hr]
  by_cases h1 : p.toInt < a
  · exact Or.inr (Or.inl h1)
  · by_cases h2 : (b : Int) < p.toInt
    · exact Or.inr (Or.inr ⟨h1, h2⟩)
    · refine Or.inl ⟨p.toInt.toNat, by omega, by omega, ?_⟩
      congr 1
      omega
theorem p_in_n {p a b : Int32} (h : p < a ∨ ¬ p < a ∧ b < p) {post : Int32 → Prop} (q : post 0) : w_X2_isIn p a b post := by
  unfold w_X2_isIn
  rcases h with z | ⟨z, z2⟩
  · exact ⟨fun _ => q, fun c => absurd z c⟩
  · exact ⟨fun c => absurd c z, fun _ => ⟨fun _ => q, fun c => absurd z2 c⟩⟩
theorem p_wind_y {k : Nat} (h1 : 27 ≤ k) (h2 : k ≤ 30) {post : Int32 → Prop} (q : post 1) : w_X1_isWind (iI k) post := by
  unfold w_X1_isWind
  rw [n27, n30, iI_lt' (a := k) (b := 27) (by omega) (by omega), iI_lt' (a := 30) (b := k) (by omega) (by omega)]
  exact ⟨fun c => by omega, fun _ => ⟨fun c => by omega, fun _ => q⟩⟩
theorem p_wind_n {p : Int32} (h : p < iI (27 : Nat) ∨ ¬ p < iI (27 : Nat) ∧ iI (30 : Nat) < p) {post : Int32 → Prop} (q : post 0) : w_X1_isWind p post := by
  unfold w_X1_isWind
  rw [n27, n30]
  rcases h with z | ⟨z, z2⟩
  · exact ⟨fun _ => q, fun c => absurd z c⟩
  · exact ⟨fun c => absurd c z, fun _ => ⟨fun _ => q, fun c => absurd z2 c⟩⟩
section WRITE
variable {L : Nat} {xs : Nat → Int32} {i : Nat} {h l s σ κ ω : Nat → Nat} {M sw rw B Lm : Nat} {hd la se so ki op : Nat → Int32} {glm rom hel : Int32} {nw nx : Nat → Int32} {thr : Int32} {hM sM lM oM kM zM rM gM bM xM : Nat → Int32} {ou : Nat → Int64}
theorem inv_c0 (hL : L ≤ 2048) (hi : i + 4 ≤ L) (hS : St h l s σ κ ω M sw rw B Lm) (hR : Rw h l s σ κ ω M hd la se so ki op hM sM lM oM kM zM) : w_L_c0 L xs (iI (i : Int)) InvL (iI (sumN 34 h : Nat)) (iI M) (iI sw) (iI rw) (iI B) (iI Lm) hd la se so ki op glm rom hel nw nx thr (iI M) (iI sw) (iI rw) (iI B) (iI Lm) hM sM lM oM kM zM rM gM bM xM ou := by
  obtain ⟨s1, s2, s3, s4, s5, s6, s7, s8, s9, s10, s11⟩ := id hS
  obtain ⟨⟨r1, r2, r3, r4, r5, r6⟩, ⟨m1, m2, m3, m4, m5, m6⟩⟩ := id hR
  have hσ : ∀ i, i < M → σ i ≤ 2 := fun i hi => (s4 i hi).1
  have hκ : ∀ i, i < M → κ i < 34 := fun i hi => (s4 i hi).2.1
  have hω : ∀ i, i < M → ω i ≤ 1 := fun i hi => (s4 i hi).2.2
  have hsw : sw < 100 := by omega
  have hrw : rw < 100 := by omega
  have h4 : ∀ k, k < 34 → h k ≤ 4 := fun k hk => by have := s1 k hk; omega
  have l4 : ∀ k, k < 34 → l k ≤ 4 := fun k hk => by have := s1 k hk; omega
  have hl4 : ∀ k, k < 34 → h k + l k ≤ 4 := fun k hk => by have := s1 k hk; omega
  have l16 : sumN 34 l ≤ 16 := by
    have := sumN_bd (n := M) (f := lsz σ) (c := 4) (fun k _ => by unfold lsz; split <;> omega)
    omega
  unfold w_L_c0 w_L_draw
  rw [iI_inc, iI_ix (i + 1) (by omega)]
  have vin : vp_in (iI ((i + 1 : Nat) : Int)) L := iI_in' (by omega) (by omega)
  refine ⟨vin, ?_⟩
  generalize xs (i + 1) = p
  by_cases hp : isK p
  · obtain ⟨k, hk, rfl⟩ := hp
    have hk1 := s1 k hk
    by_cases c : sumN 34 h + 3 * M = 14
    · refine Or.inr (Or.inl (p_reqKind_y hk (p_sizeNow ?_)))
      rw [n14, iI_lt' (a := sumN 34 h + 3 * M) (b := 14) (by omega) (by omega)]
      refine ⟨fun z => absurd z (by omega), fun _ => Or.inr ⟨rfl, vin, ?_⟩⟩
      unfold w_X2_draw
      refine p_mKind_y hk ⟨fun z => absurd z i10, fun _ => p_sizeOf m1 ?_⟩
      rw [n14, iI_eq' (a := sumN 34 h + 3 * M) (b := 14) (by omega) (by omega)]
      exact ⟨fun _ => blkn i20 (InvL_mk rfl hS hR), fun z => absurd c z⟩
    · by_cases c2 : h k + l k + s k = 4
      · refine Or.inr (Or.inl (p_reqKind_y hk (p_sizeNow ?_)))
        rw [n14, iI_lt' (a := sumN 34 h + 3 * M) (b := 14) (by omega) (by omega)]
        refine ⟨fun _ => Or.inr (p_reqLeft_n r1 r2 r3 hk c2 (Or.inr ⟨rfl, vin, ?_⟩)), fun z => absurd (by omega) z⟩
        unfold w_X2_draw
        refine p_mKind_y hk ⟨fun z => absurd z i10, fun _ => p_sizeOf m1 ?_⟩
        rw [n14, iI_eq' (a := sumN 34 h + 3 * M) (b := 14) (by omega) (by omega)]
        refine ⟨fun z => absurd z c, fun _ => p_left2 m1 m3 m2 s1 hk ?_⟩
        rw [iI_eq0 ⟨by omega, by omega⟩]
        exact ⟨fun _ => blkn i20 (InvL_mk rfl hS hR), fun z => absurd (by omega) z⟩
      · refine Or.inl (p_reqKind_y hk (p_sizeNow ?_))
        rw [n14, iI_lt' (a := sumN 34 h + 3 * M) (b := 14) (by omega) (by omega)]
        refine ⟨fun _ => p_reqLeft_y r1 r2 r3 hk (by omega) (p_add1 r1 hk (fun hd' g1 => p_sizeNow ⟨v01, vin, ?_⟩)), fun z => absurd (by omega) z⟩
        unfold w_X2_draw
        refine p_mKind_y hk ⟨fun z => absurd z i10, fun _ => p_sizeOf m1 ?_⟩
        rw [n14, iI_eq' (a := sumN 34 h + 3 * M) (b := 14) (by omega) (by omega)]
        refine ⟨fun z => absurd z c, fun _ => p_left2 m1 m3 m2 s1 hk ?_⟩
        rw [iI_eq0 ⟨by omega, by omega⟩, iI_ix k (by omega)]
        refine ⟨fun z => absurd z (by omega), fun _ => ⟨iI_in' (by omega) (by omega), iI_in' (by omega) (by omega), p_sizeOf (rowN_upd1 m1 hk) (blk0 ?_ (InvL_mk (by rw [sum_up hk]) (St_up hS hk (by omega) (by omega)) ⟨⟨g1, r2, r3, r4, r5, r6⟩, rowN_upd1 m1 hk, m2, m3, m4, m5, m6⟩))⟩⟩
        rw [ou0, sum_up hk]
  · refine Or.inr (Or.inr (p_reqKind_n hp (Or.inl ⟨rfl, vin, ?_⟩)))
    unfold w_X2_draw
    exact p_mKind_n hp ⟨fun _ => blkn i10 (InvL_mk rfl hS hR), fun z => absurd rfl z⟩
theorem inv_c1 (hL : L ≤ 2048) (hi : i + 4 ≤ L) (hS : St h l s σ κ ω M sw rw B Lm) (hR : Rw h l s σ κ ω M hd la se so ki op hM sM lM oM kM zM) : w_L_c1 L xs (iI (i : Int)) InvL (iI (sumN 34 h : Nat)) (iI M) (iI sw) (iI rw) (iI B) (iI Lm) hd la se so ki op glm rom hel nw nx thr (iI M) (iI sw) (iI rw) (iI B) (iI Lm) hM sM lM oM kM zM rM gM bM xM ou := by
  obtain ⟨s1, s2, s3, s4, s5, s6, s7, s8, s9, s10, s11⟩ := id hS
  obtain ⟨⟨r1, r2, r3, r4, r5, r6⟩, ⟨m1, m2, m3, m4, m5, m6⟩⟩ := id hR
  have hσ : ∀ i, i < M → σ i ≤ 2 := fun i hi => (s4 i hi).1
  have hκ : ∀ i, i < M → κ i < 34 := fun i hi => (s4 i hi).2.1
  have hω : ∀ i, i < M → ω i ≤ 1 := fun i hi => (s4 i hi).2.2
  have hsw : sw < 100 := by omega
  have hrw : rw < 100 := by omega
  have h4 : ∀ k, k < 34 → h k ≤ 4 := fun k hk => by have := s1 k hk; omega
  have l4 : ∀ k, k < 34 → l k ≤ 4 := fun k hk => by have := s1 k hk; omega
  have hl4 : ∀ k, k < 34 → h k + l k ≤ 4 := fun k hk => by have := s1 k hk; omega
  have l16 : sumN 34 l ≤ 16 := by
    have := sumN_bd (n := M) (f := lsz σ) (c := 4) (fun k _ => by unfold lsz; split <;> omega)
    omega
  unfold w_L_c1 w_L_drop
  rw [iI_inc, iI_ix (i + 1) (by omega)]
  have vin : vp_in (iI ((i + 1 : Nat) : Int)) L := iI_in' (by omega) (by omega)
  refine ⟨vin, ?_⟩
  generalize xs (i + 1) = p
  by_cases hp : isK p
  · obtain ⟨k, hk, rfl⟩ := hp
    have hk1 := s1 k hk
    by_cases c : h k = 0
    · refine Or.inr (Or.inl (p_reqKind_y hk (Or.inr ?_)))
      unfold w_X1_requireHeld_x
      rw [iI_ix k (by omega), r1 k hk, n1, iI_le' (a := 1) (b := h k) (by omega) (by omega)]
      refine ⟨iI_in' (by omega) (by omega), fun z => absurd z (by omega), fun _ => Or.inr ⟨rfl, ?_⟩⟩
      refine ⟨vin, ?_⟩
      unfold w_X2_drop
      refine p_mKind_y hk ⟨fun z => absurd z i10, fun _ => ?_⟩
      rw [iI_ix k (by omega), m1 k hk, iI_eq0 ⟨by omega, by omega⟩]
      exact ⟨iI_in' (by omega) (by omega), fun _ => blkn i20 (InvL_mk rfl hS hR), fun z => absurd (by omega) z⟩
    · refine Or.inl (p_reqKind_y hk ?_)
      unfold w_X1_requireHeld
      refine ⟨iI_in' (by omega) (by omega), fun _ => p_sub1 r1 hk (by omega) (by have := sumN_get (f := h) hk; omega) (fun hd' g1 => ⟨iI_in' (by omega) (by omega), iI_in' (by omega) (by omega), p_sizeNow ⟨v01, vin, ?_⟩⟩), fun z => ?_⟩
      · rw [iI_ix k (by omega)]
        unfold w_X2_drop
        refine p_mKind_y hk ⟨fun z => absurd z i10, fun _ => ?_⟩
        rw [iI_ix k (by omega)]
        refine ⟨iI_in' (by omega) (by omega), fun z => ?_, fun _ => ⟨iI_in' (by omega) (by omega), iI_in' (by omega) (by omega), iI_in' (by omega) (by omega), iI_in' (by omega) (by omega), p_sizeOf (rowN_updm m1 hk (by omega)) (blk0 ?_ (InvL_mk (by have := sum_dn hk (show 0 < h k by omega); congr 2; omega) (St_drop hS hk (by omega)) ⟨⟨g1, r2, rowN_upd1 r3 hk, r4, r5, r6⟩, rowN_updm m1 hk (by omega), rowN_upd1 m2 hk, m3, m4, m5, m6⟩))⟩⟩
        · rw [m1 k hk, iI_eq0 ⟨by omega, by omega⟩] at z; omega
        · have := sum_dn hk (show 0 < h k by omega)
          rw [ou0, show sumN 34 (nup h k (h k - 1)) + 3 * M = sumN 34 h - 1 + 3 * M by omega]
      · rw [iI_ix k (by omega), r1 k hk, n1, iI_le' (a := 1) (b := h k) (by omega) (by omega)] at z
        omega
  · refine Or.inr (Or.inr (p_reqKind_n hp (Or.inl ⟨rfl, vin, ?_⟩)))
    unfold w_X2_drop
    exact p_mKind_n hp ⟨fun _ => blkn i10 (InvL_mk rfl hS hR), fun z => absurd rfl z⟩
theorem inv_c2 (hL : L ≤ 2048) (hi : i + 4 ≤ L) (hS : St h l s σ κ ω M sw rw B Lm) (hR : Rw h l s σ κ ω M hd la se so ki op hM sM lM oM kM zM) : w_L_c2 L xs (iI (i : Int)) InvL (iI (sumN 34 h : Nat)) (iI M) (iI sw) (iI rw) (iI B) (iI Lm) hd la se so ki op glm rom hel nw nx thr (iI M) (iI sw) (iI rw) (iI B) (iI Lm) hM sM lM oM kM zM rM gM bM xM ou := by
  obtain ⟨s1, s2, s3, s4, s5, s6, s7, s8, s9, s10, s11⟩ := id hS
  obtain ⟨⟨r1, r2, r3, r4, r5, r6⟩, ⟨m1, m2, m3, m4, m5, m6⟩⟩ := id hR
  have hσ : ∀ i, i < M → σ i ≤ 2 := fun i hi => (s4 i hi).1
  have hκ : ∀ i, i < M → κ i < 34 := fun i hi => (s4 i hi).2.1
  have hω : ∀ i, i < M → ω i ≤ 1 := fun i hi => (s4 i hi).2.2
  have hsw : sw < 100 := by omega
  have hrw : rw < 100 := by omega
  have h4 : ∀ k, k < 34 → h k ≤ 4 := fun k hk => by have := s1 k hk; omega
  have l4 : ∀ k, k < 34 → l k ≤ 4 := fun k hk => by have := s1 k hk; omega
  have hl4 : ∀ k, k < 34 → h k + l k ≤ 4 := fun k hk => by have := s1 k hk; omega
  have l16 : sumN 34 l ≤ 16 := by
    have := sumN_bd (n := M) (f := lsz σ) (c := 4) (fun k _ => by unfold lsz; split <;> omega)
    omega
  unfold w_L_c2 w_L_see
  rw [iI_inc, iI_ix (i + 1) (by omega)]
  have vin : vp_in (iI ((i + 1 : Nat) : Int)) L := iI_in' (by omega) (by omega)
  refine ⟨vin, ?_⟩
  generalize xs (i + 1) = p
  by_cases hp : isK p
  · obtain ⟨k, hk, rfl⟩ := hp
    have hk1 := s1 k hk
    by_cases c : h k + l k + s k = 4
    · refine Or.inr (Or.inl (p_reqKind_y hk (Or.inr (p_reqLeft_n r1 r2 r3 hk c (Or.inr ⟨rfl, vin, ?_⟩)))))
      unfold w_X2_see
      refine p_mKind_y hk ⟨fun z => absurd z i10, fun _ => p_left2 m1 m3 m2 s1 hk ?_⟩
      rw [iI_eq0 ⟨by omega, by omega⟩]
      exact ⟨fun _ => blkn i20 (InvL_mk rfl hS hR), fun z => absurd (by omega) z⟩
    · have s1' : ∀ j, j < 34 → h j + l j + nup s k (s k + 1) j ≤ 4 := (St_see hS (k := k) (by omega)).1
      refine Or.inl (p_reqKind_y hk (p_reqLeft_y r1 r2 r3 hk (by omega) ⟨iI_in' (by omega) (by omega), iI_in' (by omega) (by omega), ?_⟩))
      rw [iI_ix k (by omega)]
      refine p_left1 r1 r2 (rowN_upd1 r3 hk) s1' hk ⟨v01, vin, ?_⟩
      unfold w_X2_see
      refine p_mKind_y hk ⟨fun z => absurd z i10, fun _ => p_left2 m1 m3 m2 s1 hk ?_⟩
      rw [iI_eq0 ⟨by omega, by omega⟩, iI_ix k (by omega)]
      exact ⟨fun z => absurd z (by omega), fun _ => ⟨iI_in' (by omega) (by omega), iI_in' (by omega) (by omega), p_left2 m1 m3 (rowN_upd1 m2 hk) s1' hk (blk0 (ou0 _ _) (InvL_mk rfl (St_see hS (by omega)) ⟨⟨r1, r2, rowN_upd1 r3 hk, r4, r5, r6⟩, m1, rowN_upd1 m2 hk, m3, m4, m5, m6⟩))⟩⟩
  · refine Or.inr (Or.inr (p_reqKind_n hp (Or.inl ⟨rfl, vin, ?_⟩)))
    unfold w_X2_see
    exact p_mKind_n hp ⟨fun _ => blkn i10 (InvL_mk rfl hS hR), fun z => absurd rfl z⟩
theorem inv_c5 (hS : St h l s σ κ ω M sw rw B Lm) (hR : Rw h l s σ κ ω M hd la se so ki op hM sM lM oM kM zM) : w_L_c5 L xs (iI (i : Int)) InvL (iI (sumN 34 h : Nat)) (iI M) (iI sw) (iI rw) (iI B) (iI Lm) hd la se so ki op glm rom hel nw nx thr (iI M) (iI sw) (iI rw) (iI B) (iI Lm) hM sM lM oM kM zM rM gM bM xM ou := by
  obtain ⟨s1, s2, s3, s4, s5, s6, s7, s8, s9, s10, s11⟩ := id hS
  obtain ⟨⟨r1, r2, r3, r4, r5, r6⟩, ⟨m1, m2, m3, m4, m5, m6⟩⟩ := id hR
  have hσ : ∀ i, i < M → σ i ≤ 2 := fun i hi => (s4 i hi).1
  have hκ : ∀ i, i < M → κ i < 34 := fun i hi => (s4 i hi).2.1
  have hω : ∀ i, i < M → ω i ≤ 1 := fun i hi => (s4 i hi).2.2
  have hsw : sw < 100 := by omega
  have hrw : rw < 100 := by omega
  have h4 : ∀ k, k < 34 → h k ≤ 4 := fun k hk => by have := s1 k hk; omega
  have l4 : ∀ k, k < 34 → l k ≤ 4 := fun k hk => by have := s1 k hk; omega
  have hl4 : ∀ k, k < 34 → h k + l k ≤ 4 := fun k hk => by have := s1 k hk; omega
  have l16 : sumN 34 l ≤ 16 := by
    have := sumN_bd (n := M) (f := lsz σ) (c := 4) (fun k _ => by unfold lsz; split <;> omega)
    omega
  unfold w_L_c5 w_X1_begin
  refine p_sizeNow (p_fill (by omega) (fun f1 e1 => p_fill (by omega) (fun f2 e2 => p_fill (by omega) (fun f3 e3 => p_mBegin m1 (fun hM sM lM q1 q2 q3 => ⟨fun _ => ?_, fun z => absurd rfl z⟩)))))
  exact ⟨fun _ => 0, fun _ => 0, fun _ => 0, σ, κ, ω, 0, sw, rw, B, Lm, ⟨by decide, n0, rfl, rfl, rfl, rfl⟩, ⟨n0, rfl, rfl, rfl, rfl⟩, St_new hS, ⟨fun k hk => e1 k hk, fun k hk => e2 k hk, fun k hk => e3 k hk, fun k hk => absurd hk (Nat.not_lt_zero k), fun k hk => absurd hk (Nat.not_lt_zero k), fun k hk => absurd hk (Nat.not_lt_zero k)⟩, q1, q2, q3, fun k hk => absurd hk (Nat.not_lt_zero k), fun k hk => absurd hk (Nat.not_lt_zero k), fun k hk => absurd hk (Nat.not_lt_zero k)⟩
end WRITE
