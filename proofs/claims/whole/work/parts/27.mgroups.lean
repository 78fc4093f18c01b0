section MGR
variable {post : Int32 → (Nat → Int32) → (Nat → Int32) → Prop} {hM lM bM : Nat → Int32} {h l B : Nat → Nat} {k a b m G M : Nat}
def Pq (h l : Nat → Nat) (G k : Nat) (B : Nat → Nat) (a b m q0 i v : Nat) : Prop := ∃ q, q0 ≤ q ∧ q < 2 ∧ B (mix a b m q) < 99 ∧ mtr1 h l G k B a b m q i v
theorem p_mg_b70 (hh : rowN 34 hM h) (hl : rowN 34 lM l) (hb2 : rowN 250 bM B) (hB : ∀ i, B i < 10000) (h4 : h k ≤ 4) (l4 : l k ≤ 4) (hk : k < 34) (ha : a < 5) (hb : b < 5) (hG : G + M = 4) (hm : m ≤ G)
    {K22 : Int32 → (Nat → Int32) → (Nat → Int32) → Prop} {K37 : Int32 → Int32 → (Nat → Int32) → (Nat → Int32) → Prop} {K44 : Int32 → Int32 → Int32 → (Nat → Int32) → (Nat → Int32) → Prop} {K56 : Int32 → Int32 → Int32 → Int32 → (Nat → Int32) → (Nat → Int32) → Prop} :
    ∀ (d q0 : Nat) (X : Nat → Nat) (xM : Nat → Int32), q0 + d = 2 → rowN 250 xM X → (∀ i, X i < 10000) →
    (∀ Y yM, rowN 250 yM Y → (∀ i, Y i < 10000) → tmin (Pq h l G k B a b m q0) X Y → K56 (iI k) (iI a) (iI b) (iI ((m + 1 : Nat) : Int)) bM yM) →
    w_X2_missingGroups_b70 post (iI M) hM lM K22 K37 K44 K56 (d + 1) (iI k) (iI a) (iI b) (iI m) (iI q0) bM xM := by
  intro d
  induction d with
  | zero =>
    intro q0 X xM hp hx hX hq
    rw [w_X2_missingGroups_b70, n2, iI_le' (a := 2) (b := q0) (by omega) (by omega)]
    refine ⟨fun _ => ?_, fun c => absurd (by omega) c⟩
    unfold w_X2_missingGroups_b112
    rw [iI_inc]
    exact hq X xM hx hX (tmin_nil X (fun i v z => by obtain ⟨q, z1, z2, _⟩ := z; omega))
  | succ d ih =>
    intro q0 X xM hp hx hX hq
    rw [w_X2_missingGroups_b70, n2, n99, iI_le' (a := 2) (b := q0) (by omega) (by omega)]
    have hmx : mix a b m q0 < 250 := mix_lt ha hb (by omega) (by omega)
    refine ⟨fun c => absurd c (by omega), fun _ => p_state ⟨iI_in' hmx (by omega), ?_⟩⟩
    rw [iI_ix _ (by omega), hb2 _ hmx, iI_le' (a := 99) (b := B (mix a b m q0)) (by omega) (by have := hB (mix a b m q0); omega)]
    refine ⟨fun c => ?_, fun c => ?_⟩
    · unfold w_X2_missingGroups_b106
      rw [iI_inc]
      refine ih (q0 + 1) X xM (by omega) hx hX (fun Y yM hy hY hT => hq Y yM hy hY (tmin_congr hT (fun i v => ?_)))
      constructor
      · rintro ⟨q, z1, z2, z3, z4⟩
        rcases Nat.eq_or_lt_of_le z1 with e | e
        · subst e; omega
        · exact ⟨q, e, z2, z3, z4⟩
      · rintro ⟨q, z1, z2⟩
        exact ⟨q, by omega, z2⟩
    · refine p_step hh hl hb2 h4 l4 hk ha hb hG hm (by omega) (by omega) hx hX (fun Y yM hy hY hT => ?_)
      unfold w_X2_missingGroups_b106
      rw [iI_inc]
      refine ih (q0 + 1) Y yM (by omega) hy hY (fun Z zM hz hZ hT2 => hq Z zM hz hZ (tmin_comp hT hT2 (fun i v => ?_)))
      constructor
      · rintro ⟨q, z1, z2, z3, z4⟩
        rcases Nat.eq_or_lt_of_le z1 with e | e
        · subst e; exact Or.inl z4
        · exact Or.inr ⟨q, e, z2, z3, z4⟩
      · rintro (z | ⟨q, z1, z2⟩)
        · exact ⟨q0, Nat.le_refl _, by omega, by omega, z⟩
        · exact ⟨q, by omega, z2⟩
def Pm (h l : Nat → Nat) (G k : Nat) (B : Nat → Nat) (a b m0 i v : Nat) : Prop := ∃ m, m0 ≤ m ∧ m ≤ G ∧ Pq h l G k B a b m 0 i v
theorem p_mg_b56 (hh : rowN 34 hM h) (hl : rowN 34 lM l) (hb2 : rowN 250 bM B) (hB : ∀ i, B i < 10000) (h4 : h k ≤ 4) (l4 : l k ≤ 4) (hk : k < 34) (ha : a < 5) (hb : b < 5) (hG : G + M = 4)
    {K22 : Int32 → (Nat → Int32) → (Nat → Int32) → Prop} {K37 : Int32 → Int32 → (Nat → Int32) → (Nat → Int32) → Prop} {K44 : Int32 → Int32 → Int32 → (Nat → Int32) → (Nat → Int32) → Prop} :
    ∀ (d m0 : Nat) (X : Nat → Nat) (xM : Nat → Int32), (m0 + d = G + 1 ∨ G < m0 ∧ d = 0 ∧ m0 < 100) → rowN 250 xM X → (∀ i, X i < 10000) →
    (∀ Y yM, rowN 250 yM Y → (∀ i, Y i < 10000) → tmin (Pm h l G k B a b m0) X Y → K44 (iI k) (iI a) (iI ((b + 1 : Nat) : Int)) bM yM) →
    w_X2_missingGroups_b56 post (iI M) hM lM K22 K37 K44 (d + 1) (iI k) (iI a) (iI b) (iI m0) bM xM := by
  intro d
  induction d with
  | zero =>
    intro m0 X xM hp hx hX hq
    rw [w_X2_missingGroups_b56, n4, iI_sub' (show M ≤ 4 by omega), iI_lt' (a := 4 - M) (b := m0) (by omega) (by omega)]
    refine ⟨fun _ => ?_, fun c => absurd (by omega) c⟩
    unfold w_X2_missingGroups_b118
    rw [iI_inc]
    exact hq X xM hx hX (tmin_nil X (fun i v z => by obtain ⟨q, z1, z2, _⟩ := z; omega))
  | succ d ih =>
    intro m0 X xM hp hx hX hq
    rw [w_X2_missingGroups_b56, n4, iI_sub' (show M ≤ 4 by omega), iI_lt' (a := 4 - M) (b := m0) (by omega) (by omega)]
    refine ⟨fun c => absurd c (by omega), fun _ => ⟨3, ?_⟩⟩
    rw [n0]
    refine p_mg_b70 hh hl hb2 hB h4 l4 hk ha hb hG (by omega) 2 0 X xM (by omega) hx hX (fun Y yM hy hY hT => ?_)
    refine ih (m0 + 1) Y yM (by omega) hy hY (fun Z zM hz hZ hT2 => hq Z zM hz hZ (tmin_comp hT hT2 (fun i v => ?_)))
    constructor
    · rintro ⟨m, z1, z2, z3⟩
      rcases Nat.eq_or_lt_of_le z1 with e | e
      · subst e; exact Or.inl z3
      · exact Or.inr ⟨m, e, z2, z3⟩
    · rintro (z | ⟨m, z1, z2⟩)
      · exact ⟨m0, Nat.le_refl _, by omega, z⟩
      · exact ⟨m, by omega, z2⟩
def Pb (h l : Nat → Nat) (G k : Nat) (B : Nat → Nat) (a b0 i v : Nat) : Prop := ∃ b, b0 ≤ b ∧ a + b < 5 ∧ Pm h l G k B a b (a + b) i v
theorem p_mg_b44 (hh : rowN 34 hM h) (hl : rowN 34 lM l) (hb2 : rowN 250 bM B) (hB : ∀ i, B i < 10000) (h4 : h k ≤ 4) (l4 : l k ≤ 4) (hk : k < 34) (ha : a < 5) (hG : G + M = 4)
    {K22 : Int32 → (Nat → Int32) → (Nat → Int32) → Prop} {K37 : Int32 → Int32 → (Nat → Int32) → (Nat → Int32) → Prop} :
    ∀ (d b0 : Nat) (X : Nat → Nat) (xM : Nat → Int32), a + b0 + d = 5 → rowN 250 xM X → (∀ i, X i < 10000) →
    (∀ Y yM, rowN 250 yM Y → (∀ i, Y i < 10000) → tmin (Pb h l G k B a b0) X Y → K37 (iI k) (iI ((a + 1 : Nat) : Int)) bM yM) →
    w_X2_missingGroups_b44 post (iI M) hM lM K22 K37 (d + 1) (iI k) (iI a) (iI b0) bM xM := by
  intro d
  induction d with
  | zero =>
    intro b0 X xM hp hx hX hq
    rw [w_X2_missingGroups_b44, n5, iI_add' a b0, iI_le' (a := 5) (b := a + b0) (by omega) (by omega)]
    refine ⟨fun _ => ?_, fun c => absurd (by omega) c⟩
    unfold w_X2_missingGroups_b124
    rw [iI_inc]
    exact hq X xM hx hX (tmin_nil X (fun i v z => by obtain ⟨q, z1, z2, _⟩ := z; omega))
  | succ d ih =>
    intro b0 X xM hp hx hX hq
    rw [w_X2_missingGroups_b44, n5, iI_add' a b0, iI_le' (a := 5) (b := a + b0) (by omega) (by omega)]
    refine ⟨fun c => absurd c (by omega), fun _ => ⟨G + 1 - (a + b0) + 1, ?_⟩⟩
    refine p_mg_b56 hh hl hb2 hB h4 l4 hk ha (by omega) hG (G + 1 - (a + b0)) (a + b0) X xM (by omega) hx hX (fun Y yM hy hY hT => ?_)
    refine ih (b0 + 1) Y yM (by omega) hy hY (fun Z zM hz hZ hT2 => hq Z zM hz hZ (tmin_comp hT hT2 (fun i v => ?_)))
    constructor
    · rintro ⟨b, z1, z2, z3⟩
      rcases Nat.eq_or_lt_of_le z1 with e | e
      · subst e; exact Or.inl z3
      · exact Or.inr ⟨b, e, z2, z3⟩
    · rintro (z | ⟨b, z1, z2⟩)
      · exact ⟨b0, Nat.le_refl _, by omega, z⟩
      · exact ⟨b, by omega, z2⟩
def Pa (h l : Nat → Nat) (G k : Nat) (B : Nat → Nat) (a0 i v : Nat) : Prop := ∃ a, a0 ≤ a ∧ a < 5 ∧ Pb h l G k B a 0 i v
theorem p_mg_b37 (hh : rowN 34 hM h) (hl : rowN 34 lM l) (hb2 : rowN 250 bM B) (hB : ∀ i, B i < 10000) (h4 : h k ≤ 4) (l4 : l k ≤ 4) (hk : k < 34) (hG : G + M = 4)
    {K22 : Int32 → (Nat → Int32) → (Nat → Int32) → Prop} :
    ∀ (d a0 : Nat) (X : Nat → Nat) (xM : Nat → Int32), a0 + d = 5 → rowN 250 xM X → (∀ i, X i < 10000) →
    (∀ Y yM, rowN 250 yM Y → (∀ i, Y i < 10000) → tmin (Pa h l G k B a0) X Y → K22 (iI ((k + 1 : Nat) : Int)) yM bM) →
    w_X2_missingGroups_b37 post (iI M) hM lM K22 (d + 1) (iI k) (iI a0) bM xM := by
  intro d
  induction d with
  | zero =>
    intro a0 X xM hp hx hX hq
    rw [w_X2_missingGroups_b37, n5, iI_le' (a := 5) (b := a0) (by omega) (by omega)]
    refine ⟨fun _ => ?_, fun c => absurd (by omega) c⟩
    unfold w_X2_missingGroups_b130
    rw [iI_inc]
    exact hq X xM hx hX (tmin_nil X (fun i v z => by obtain ⟨q, z1, z2, _⟩ := z; omega))
  | succ d ih =>
    intro a0 X xM hp hx hX hq
    rw [w_X2_missingGroups_b37, n5, iI_le' (a := 5) (b := a0) (by omega) (by omega)]
    refine ⟨fun c => absurd c (by omega), fun _ => ⟨5 - a0 + 1, ?_⟩⟩
    rw [n0]
    refine p_mg_b44 hh hl hb2 hB h4 l4 hk (by omega) hG (5 - a0) 0 X xM (by omega) hx hX (fun Y yM hy hY hT => ?_)
    refine ih (a0 + 1) Y yM (by omega) hy hY (fun Z zM hz hZ hT2 => hq Z zM hz hZ (tmin_comp hT hT2 (fun i v => ?_)))
    constructor
    · rintro ⟨a, z1, z2, z3⟩
      rcases Nat.eq_or_lt_of_le z1 with e | e
      · subst e; exact Or.inl z3
      · exact Or.inr ⟨a, e, z2, z3⟩
    · rintro (z | ⟨a, z1, z2⟩)
      · exact ⟨a0, Nat.le_refl _, by omega, z⟩
      · exact ⟨a, by omega, z2⟩
theorem Pa_mtr (i v : Nat) : mtr h l G k B i v ↔ Pa h l G k B 0 i v := by
  constructor
  · rintro ⟨a, b, m, q, r, t, p, c1, c2, c3, c4, c5, c6, c7, c8, c9, c10, c11, c12⟩
    exact ⟨a, Nat.zero_le _, by omega, b, Nat.zero_le _, c1, m, c2, c3, q, Nat.zero_le _, c4, c5, r, t, p, c6, c7, c8, c9, c10, c11, c12⟩
  · rintro ⟨a, -, -, b, -, c1, m, c2, c3, q, -, c4, c5, r, t, p, c6, c7, c8, c9, c10, c11, c12⟩
    exact ⟨a, b, m, q, r, t, p, c1, c2, c3, c4, c5, c6, c7, c8, c9, c10, c11, c12⟩
theorem p_mg_b22 (hh : rowN 34 hM h) (hl : rowN 34 lM l) (h4 : ∀ k, k < 34 → h k ≤ 4) (l4 : ∀ k, k < 34 → l k ≤ 4) (hG : G + M = 4)
    (hq : ∀ B bM xM, rowN 250 bM B → (∀ i, B i < 10000) → mtab h l G 34 B → w_X2_missingGroups_b154 post (iI M) hM lM bM xM) :
    ∀ (d k : Nat) (B : Nat → Nat) (bM xM : Nat → Int32), k + d = 34 → rowN 250 bM B → (∀ i, B i < 10000) → mtab h l G k B → w_X2_missingGroups_b22 post (iI M) hM lM (d + 1) (iI k) bM xM := by
  intro d
  induction d with
  | zero =>
    intro k B bM xM hk hb hB hT
    rw [w_X2_missingGroups_b22, n34, iI_le' (a := 34) (b := k) (by omega) (by omega)]
    have e : k = 34 := by omega
    subst e
    exact ⟨fun _ => hq B bM xM hb hB hT, fun c => absurd (by omega) c⟩
  | succ d ih =>
    intro k B bM xM hk hb hB hT
    rw [w_X2_missingGroups_b22, n34, iI_le' (a := 34) (b := k) (by omega) (by omega)]
    refine ⟨fun c => absurd c (by omega), fun _ => p_clear (fun cc hcc => ⟨6, ?_⟩)⟩
    rw [n0]
    refine p_mg_b37 hh hl hb hB (h4 k (by omega)) (l4 k (by omega)) (by omega) hG 5 0 (fun _ => 99) cc (by omega) hcc (fun _ => by omega) (fun Y yM hy hY hT2 => ?_)
    exact ih (k + 1) Y yM bM (by omega) hy hY (mtab_step (by omega) hT (tmin_congr hT2 Pa_mtr))
/-- the reference's least number for groups and a pair -/
theorem p_missingGroups {bM xM : Nat → Int32} (hh : rowN 34 hM h) (hl : rowN 34 lM l) (h4 : ∀ k, k < 34 → h k ≤ 4) (l4 : ∀ k, k < 34 → l k ≤ 4) (hl16 : sumN 34 l ≤ 16) (hG : G + M = 4)
    (hq : ∀ v bM' xM', isMin h l G v → v ≤ 14 → post (iI (v : Nat)) bM' xM') : w_X2_missingGroups (iI M) hM lM bM xM post := by
  unfold w_X2_missingGroups
  refine p_clear (fun cc hcc => ?_)
  rw [n0]
  refine p_state ?_
  rw [show mix 0 0 0 0 = 0 from rfl]
  refine ⟨iI_in' (by omega) (by omega), 35, ?_⟩
  rw [iI_ix 0 (by omega)]
  refine p_mg_b22 hh hl h4 l4 hG (fun B bM xM hb hB hT => ?_) 34 0 (nup (fun _ => 99) 0 0) _ xM (by omega) (rowN_upd hcc rfl) (fun i => by by_cases e : i = 0 <;> simp [nup, e]) (mtab_zero h l G (nup_eq _ _ _) (fun i _ hi => nup_ne _ _ hi))
  unfold w_X2_missingGroups_b154
  rw [n0, n1, n4, iI_sub' (show M ≤ 4 by omega), show 4 - M = G by omega]
  have hmx : mix 0 0 G 1 < 250 := mix_lt (by omega) (by omega) (by omega) (by omega)
  refine p_state ⟨iI_in' hmx (by omega), ?_⟩
  rw [iI_ix _ (by omega), hb _ hmx]
  have hm := mtab_end (by omega) hT l4 hl16
  refine hq _ bM xM hm ?_
  obtain ⟨⟨r, t, p, g1, g2, g3, g4⟩, -⟩ := hm
  have := cst_le (h := h) g1
  omega
end MGR
