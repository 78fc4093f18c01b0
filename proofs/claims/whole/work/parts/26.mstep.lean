/-! the reference's table: its loops -/
theorem iI_inc (k : Nat) : iI (k : Int) + 1 = iI ((k + 1 : Nat) : Int) := by rw [iI_l1, iI_add]; rfl
theorem iI_add' (a b : Nat) : iI (a : Int) + iI (b : Int) = iI ((a + b : Nat) : Int) := by rw [iI_add]; rfl
theorem iI_mul' (a b : Nat) : iI (a : Int) * iI (b : Int) = iI ((a * b : Nat) : Int) := by rw [iI_mul]; rfl
theorem iI_sub' {a b : Nat} (h : b ≤ a) : iI (a : Int) - iI (b : Int) = iI ((a - b : Nat) : Int) := by rw [iI_sub]; congr 1; omega
theorem iI_le' {a b : Nat} (ha : a < 2147483648) (hb : b < 2147483648) : iI (a : Int) ≤ iI (b : Int) ↔ a ≤ b := by rw [iI_le ⟨by omega, by omega⟩ ⟨by omega, by omega⟩]; omega
theorem iI_lt' {a b : Nat} (ha : a < 2147483648) (hb : b < 2147483648) : iI (a : Int) < iI (b : Int) ↔ a < b := by rw [iI_lt ⟨by omega, by omega⟩ ⟨by omega, by omega⟩]; omega
theorem iI_eq' {a b : Nat} (ha : a < 2147483648) (hb : b < 2147483648) : iI (a : Int) = iI (b : Int) ↔ a = b := by rw [iI_eq ⟨by omega, by omega⟩ ⟨by omega, by omega⟩]; omega
theorem n0 : (0 : Int32) = iI ((0 : Nat) : Int) := by decide
theorem n1 : (1 : Int32) = iI ((1 : Nat) : Int) := by decide
theorem n2 : (2 : Int32) = iI ((2 : Nat) : Int) := by decide
theorem n3 : (3 : Int32) = iI ((3 : Nat) : Int) := by decide
theorem n4 : (4 : Int32) = iI ((4 : Nat) : Int) := by decide
theorem n5 : (5 : Int32) = iI ((5 : Nat) : Int) := by decide
theorem n6 : (6 : Int32) = iI ((6 : Nat) : Int) := by decide
theorem n7 : (7 : Int32) = iI ((7 : Nat) : Int) := by decide
theorem n9 : (9 : Int32) = iI ((9 : Nat) : Int) := by decide
theorem n13 : (13 : Int32) = iI ((13 : Nat) : Int) := by decide
theorem n14 : (14 : Int32) = iI ((14 : Nat) : Int) := by decide
theorem n18 : (18 : Int32) = iI ((18 : Nat) : Int) := by decide
theorem n27 : (27 : Int32) = iI ((27 : Nat) : Int) := by decide
theorem n34 : (34 : Int32) = iI ((34 : Nat) : Int) := by decide
theorem n90 : (90 : Int32) = iI ((90 : Nat) : Int) := by decide
theorem n99 : (99 : Int32) = iI ((99 : Nat) : Int) := by decide
theorem n250 : (250 : Int32) = iI ((250 : Nat) : Int) := by decide
theorem p_clear_b2 {post : (Nat → Int32) → Prop} (hq : ∀ cc', rowN 250 cc' (fun _ => 99) → post cc') : ∀ (d k : Nat) (cc : Nat → Int32), k + d = 250 → (∀ j, j < k → cc j = iI ((99 : Nat) : Int)) → w_X2_clear_b2 post (d + 1) (iI (k : Int)) cc := by
  intro d
  induction d with
  | zero =>
    intro k cc hk hc
    rw [w_X2_clear_b2, n250, iI_le' (by omega) (by omega)]
    exact ⟨fun _ => hq cc (fun j hj => hc j (by omega)), fun c => absurd (by omega) c⟩
  | succ d ih =>
    intro k cc hk hc
    rw [w_X2_clear_b2, n250, iI_le' (by omega) (by omega), iI_ix k (by omega), iI_inc]
    refine ⟨fun c => absurd c (by omega), fun _ => ⟨iI_in' (by omega) (by omega), ih (k + 1) _ (by omega) (fun j hj => ?_)⟩⟩
    by_cases e : j = k
    · subst e; simp [upd, n99]
    · simp only [upd, if_neg e]; exact hc j (by omega)
theorem p_clear {cc : Nat → Int32} {post : (Nat → Int32) → Prop} (hq : ∀ cc', rowN 250 cc' (fun _ => 99) → post cc') : w_X2_clear cc post :=
  ⟨251, by rw [n0]; exact p_clear_b2 hq 250 0 cc (by omega) (fun j hj => absurd hj (by omega))⟩
theorem p_state {a b m q : Nat} {post : Int32 → Prop} (h : post (iI (mix a b m q))) : w_X2_state (iI a) (iI b) (iI m) (iI q) post := by
  unfold w_X2_state
  rw [n5, n2, iI_mul', iI_add', iI_mul', iI_add', iI_mul', iI_add']
  exact h
theorem p_mbr {k : Nat} (hk : k < 34) {post : Int32 → Prop} (h1 : br k → post 1) (h0 : ¬ br k → post 0) : w_X2_beginsRow (iI k) post := by
  unfold w_X2_beginsRow
  rw [n27, n9, n7, iI_le' (by omega) (by omega), iI_mod (by omega) (by omega), iI_le' (by omega) (by omega)]
  refine ⟨fun c => h0 (fun z => by omega), fun c => ⟨fun c2 => h0 (fun z => by omega), fun c2 => h1 ⟨by omega, by omega⟩⟩⟩
theorem min_expr {so w hk x : Nat} (h1 : so < 1000) (h2 : w < 1000) (h3 : hk < 1000) (h4 : x < 100000) :
    (if iI (so : Int) + (if (0 : Int32) < iI (w : Int) - iI (hk : Int) then iI (w : Int) - iI (hk : Int) else 0) < iI (x : Int) then iI (so : Int) + (if (0 : Int32) < iI (w : Int) - iI (hk : Int) then iI (w : Int) - iI (hk : Int) else 0) else iI (x : Int)) = iI ((min x (so + (w - hk)) : Nat) : Int) := by
  have e1 : (if (0 : Int32) < iI (w : Int) - iI (hk : Int) then iI (w : Int) - iI (hk : Int) else 0) = iI ((w - hk : Nat) : Int) := by
    rw [iI_sub]
    by_cases c : hk < w
    · rw [if_pos ((iI_0lt ⟨by omega, by omega⟩).mpr (by omega))]
      congr 1; omega
    · rw [if_neg (fun z => c (by have := (iI_0lt ⟨by omega, by omega⟩).mp z; omega)), n0]
      congr 1; omega
  rw [e1, iI_add']
  by_cases c : so + (w - hk) < x
  · rw [if_pos ((iI_lt' (by omega) (by omega)).mpr c), show min x (so + (w - hk)) = so + (w - hk) by omega]
  · rw [if_neg (fun z => c ((iI_lt' (by omega) (by omega)).mp z)), show min x (so + (w - hk)) = x by omega]
section MSTEP
variable {post : (Nat → Int32) → Prop} {mel : Int32} {hM lM bM : Nat → Int32} {h l : Nat → Nat} {k a b m q G so g : Nat}
def P70 (h l : Nat → Nat) (k a b m q so r t p0 i v : Nat) : Prop := ∃ p, p0 ≤ p ∧ p + q < 2 ∧ r + a + b + 3 * t + 2 * p + l k ≤ 4 ∧ i = mix r a (m + r + t) (q + p) ∧ v = so + (r + a + b + 3 * t + 2 * p - h k)
theorem p_step_b70 (hh : rowN 34 hM h) (hl : rowN 34 lM l) (h4 : h k ≤ 4) (l4 : l k ≤ 4) (hk : k < 34) (ha : a < 5) (hb : b < 5) (hm : m < 5) (hso : so < 1000) {r t : Nat} (hr : r + t + m ≤ 4) (ht : t < 2) {v7 : Int32}
    {K30 : Int32 → Int32 → Int32 → (Nat → Int32) → Prop} {K51 : Int32 → Int32 → Int32 → Int32 → (Nat → Int32) → Prop} : ∀ (d p0 : Nat) (X : Nat → Nat) (xM : Nat → Int32), p0 + q + d = 2 → rowN 250 xM X → (∀ i, X i < 10000) →
    (∀ Y yM, rowN 250 yM Y → (∀ i, Y i < 10000) → tmin (P70 h l k a b m q so r t p0) X Y → w_X2_step_b173 post mel hM lM bM (iI k) (iI a) (iI b) (iI m) (iI q) K30 K51 (iI so) v7 (iI r) (iI t) yM) →
    w_X2_step_b70 post mel hM lM bM (iI k) (iI a) (iI b) (iI m) (iI q) K30 K51 (d + 1) (iI so) v7 (iI r) (iI t) (iI p0) xM := by
  intro d
  induction d with
  | zero =>
    intro p0 X xM hp hx hX hq
    rw [w_X2_step_b70, n2, iI_add' p0 q, iI_le' (a := 2) (b := p0 + q) (by omega) (by omega)]
    exact ⟨fun _ => hq X xM hx hX (tmin_nil X (fun i v z => by obtain ⟨p, z1, z2, _⟩ := z; omega)), fun c => absurd (by omega) c⟩
  | succ d ih =>
    intro p0 X xM hp hx hX hq
    rw [w_X2_step_b70, n2, n3, n4, iI_add' p0 q, iI_le' (a := 2) (b := p0 + q) (by omega) (by omega), iI_ix k (by omega), hl k hk, hh k hk]
    refine ⟨fun c => absurd c (by omega), fun _ t9 e9 => ⟨iI_in' hk (by omega), ?_⟩⟩
    have e9' : t9 = iI ((r + a + b + 3 * t + 2 * p0 : Nat) : Int) := by
      rw [e9, iI_add' r a, iI_add' (r + a) b, iI_mul' 3 t, iI_add' (r + a + b) (3 * t), iI_mul' 2 p0, iI_add' (r + a + b + 3 * t) (2 * p0)]
    clear e9
    subst e9'
    rw [iI_add' (r + a + b + 3 * t + 2 * p0) (l k), iI_le' (a := r + a + b + 3 * t + 2 * p0 + l k) (b := 4) (by omega) (by omega)]
    refine ⟨fun c => ?_, fun c => ?_⟩
    · rw [iI_add' m r, iI_add' (m + r) t, iI_add' q p0]
      refine p_state ?_
      have hmx : mix r a (m + r + t) (q + p0) < 250 := mix_lt (by omega) ha (by omega) (by omega)
      refine ⟨iI_in' hmx (by omega), iI_in' hk (by omega), iI_in' hmx (by omega), ?_⟩
      rw [iI_ix _ (by omega), hx _ hmx, min_expr hso (by omega) (by omega) (by have := hX (mix r a (m + r + t) (q + p0)); omega)]
      unfold w_X2_step_b167
      rw [iI_inc]
      refine ih (p0 + 1) (nup X (mix r a (m + r + t) (q + p0)) (min (X (mix r a (m + r + t) (q + p0))) (so + (r + a + b + 3 * t + 2 * p0 - h k)))) _ (by omega) (rowN_upd hx rfl) (fun i => ?_) (fun Y yM hy hY hT => hq Y yM hy hY (tmin_comp (tmin_one X _ _) hT (fun i v => ?_)))
      · by_cases e : i = mix r a (m + r + t) (q + p0)
        · subst e; rw [nup_eq]; have := hX (mix r a (m + r + t) (q + p0)); omega
        · rw [nup_ne _ _ e]; exact hX i
      · constructor
        · rintro ⟨p, z1, z2, z3, z4, z5⟩
          rcases Nat.eq_or_lt_of_le z1 with e | e
          · subst e; exact Or.inl ⟨z4, z5⟩
          · exact Or.inr ⟨p, e, z2, z3, z4, z5⟩
        · rintro (⟨e1, e2⟩ | ⟨p, z1, z2, z3⟩)
          · exact ⟨p0, Nat.le_refl _, by omega, c, e1, e2⟩
          · exact ⟨p, by omega, z2, z3⟩
    · unfold w_X2_step_b167
      rw [iI_inc]
      refine ih (p0 + 1) X xM (by omega) hx hX (fun Y yM hy hY hT => hq Y yM hy hY (tmin_congr hT (fun i v => ?_)))
      constructor
      · rintro ⟨p, z1, z2, z3, z4⟩
        rcases Nat.eq_or_lt_of_le z1 with e | e
        · subst e; exact absurd z3 c
        · exact ⟨p, e, z2, z3, z4⟩
      · rintro ⟨p, z1, z2⟩
        exact ⟨p, by omega, z2⟩
def P51 (h l : Nat → Nat) (k a b m q so g r t0 i v : Nat) : Prop := ∃ t, t0 ≤ t ∧ t < 2 ∧ r + t ≤ g ∧ P70 h l k a b m q so r t 0 i v
theorem p_step_b51 (hh : rowN 34 hM h) (hl : rowN 34 lM l) (h4 : h k ≤ 4) (l4 : l k ≤ 4) (hk : k < 34) (ha : a < 5) (hb : b < 5) (hm : m + g ≤ 4) (hq2 : q < 2) (hso : so < 1000) {r : Nat} (hr : r ≤ g)
    {K30 : Int32 → Int32 → Int32 → (Nat → Int32) → Prop} : ∀ (d t0 : Nat) (X : Nat → Nat) (xM : Nat → Int32), t0 + d = 2 → rowN 250 xM X → (∀ i, X i < 10000) →
    (∀ Y yM, rowN 250 yM Y → (∀ i, Y i < 10000) → tmin (P51 h l k a b m q so g r t0) X Y → w_X2_step_b179 post mel hM lM bM (iI k) (iI a) (iI b) (iI m) (iI q) K30 (iI so) (iI g) (iI r) yM) →
    w_X2_step_b51 post mel hM lM bM (iI k) (iI a) (iI b) (iI m) (iI q) K30 (d + 1) (iI so) (iI g) (iI r) (iI t0) xM := by
  intro d
  induction d with
  | zero =>
    intro t0 X xM hp hx hX hq
    rw [w_X2_step_b51, n2, iI_le' (a := 2) (b := t0) (by omega) (by omega)]
    exact ⟨fun _ => hq X xM hx hX (tmin_nil X (fun i v z => by obtain ⟨t, z1, z2, _⟩ := z; omega)), fun c => absurd (by omega) c⟩
  | succ d ih =>
    intro t0 X xM hp hx hX hq
    rw [w_X2_step_b51, n2, iI_le' (a := 2) (b := t0) (by omega) (by omega), iI_add' r t0, iI_lt' (a := g) (b := r + t0) (by omega) (by omega)]
    refine ⟨fun c => absurd c (by omega), fun _ => ⟨fun c => ?_, fun c => ?_⟩⟩
    · exact hq X xM hx hX (tmin_nil X (fun i v z => by obtain ⟨t, z1, z2, z3, _⟩ := z; omega))
    · refine ⟨2 - q + 1, ?_⟩
      rw [n0]
      refine p_step_b70 hh hl h4 l4 hk ha hb (by omega) hso (by omega) (by omega) (2 - q) 0 X xM (by omega) hx hX (fun Y yM hy hY hT => ?_)
      unfold w_X2_step_b173
      rw [iI_inc]
      refine ih (t0 + 1) Y yM (by omega) hy hY (fun Z zM hz hZ hT2 => hq Z zM hz hZ (tmin_comp hT hT2 (fun i v => ?_)))
      constructor
      · rintro ⟨t, z1, z2, z3, z4⟩
        rcases Nat.eq_or_lt_of_le z1 with e | e
        · subst e; exact Or.inl z4
        · exact Or.inr ⟨t, e, z2, z3, z4⟩
      · rintro (z | ⟨t, z1, z2⟩)
        · exact ⟨t0, Nat.le_refl _, by omega, by omega, z⟩
        · exact ⟨t, by omega, z2⟩
def P30 (h l : Nat → Nat) (k a b m q so g lim r0 i v : Nat) : Prop := ∃ r, r0 ≤ r ∧ r ≤ lim ∧ P51 h l k a b m q so g r 0 i v
theorem p_step_b30 (hh : rowN 34 hM h) (hl : rowN 34 lM l) (h4 : h k ≤ 4) (l4 : l k ≤ 4) (hk : k < 34) (ha : a < 5) (hb : b < 5) (hm : m + g ≤ 4) (hq2 : q < 2) (hso : so < 1000) {lim : Nat} (hlim : lim = if br k then g else 0) :
    ∀ (d r0 : Nat) (X : Nat → Nat) (xM : Nat → Int32), r0 + d = lim + 1 → rowN 250 xM X → (∀ i, X i < 10000) →
    (∀ Y yM, rowN 250 yM Y → (∀ i, Y i < 10000) → tmin (P30 h l k a b m q so g lim r0) X Y → post yM) →
    w_X2_step_b30 post mel hM lM bM (iI k) (iI a) (iI b) (iI m) (iI q) (d + 1) (iI so) (iI g) (iI r0) xM := by
  have hlg : lim ≤ g := by rw [hlim]; split <;> omega
  intro d
  induction d with
  | zero =>
    intro r0 X xM hp hx hX hq
    have hend : post xM := hq X xM hx hX (tmin_nil X (fun i v z => by obtain ⟨t, z1, z2, _⟩ := z; omega))
    rw [w_X2_step_b30]
    refine p_mbr hk (fun hbr => ⟨fun c => absurd c i10, fun _ => ?_⟩) (fun hbr => ⟨fun _ => ?_, fun c => absurd rfl c⟩)
    · unfold w_X2_step_b45
      rw [iI_lt' (a := g) (b := r0) (by omega) (by omega)]
      rw [if_pos hbr] at hlim
      exact ⟨fun _ => hend, fun c => absurd (by omega) c⟩
    · unfold w_X2_step_b45
      rw [if_neg hbr] at hlim
      rw [n0, iI_lt' (a := 0) (b := r0) (by omega) (by omega)]
      exact ⟨fun _ => hend, fun c => absurd (by omega) c⟩
  | succ d ih =>
    intro r0 X xM hp hx hX hq
    have hgo : ∃ n9, w_X2_step_b51 post mel hM lM bM (iI k) (iI a) (iI b) (iI m) (iI q) (w_X2_step_b30 post mel hM lM bM (iI k) (iI a) (iI b) (iI m) (iI q) (d + 1)) n9 (iI so) (iI g) (iI r0) (0 : Int32) xM := by
      refine ⟨3, ?_⟩
      rw [n0]
      refine p_step_b51 hh hl h4 l4 hk ha hb hm hq2 hso (by omega) 2 0 X xM (by omega) hx hX (fun Y yM hy hY hT => ?_)
      unfold w_X2_step_b179
      rw [iI_inc]
      refine ih (r0 + 1) Y yM (by omega) hy hY (fun Z zM hz hZ hT2 => hq Z zM hz hZ (tmin_comp hT hT2 (fun i v => ?_)))
      constructor
      · rintro ⟨r, z1, z2, z3⟩
        rcases Nat.eq_or_lt_of_le z1 with e | e
        · subst e; exact Or.inl z3
        · exact Or.inr ⟨r, e, z2, z3⟩
      · rintro (z | ⟨r, z1, z2⟩)
        · exact ⟨r0, Nat.le_refl _, by omega, z⟩
        · exact ⟨r, by omega, z2⟩
    rw [w_X2_step_b30]
    refine p_mbr hk (fun hbr => ⟨fun c => absurd c i10, fun _ => ?_⟩) (fun hbr => ⟨fun _ => ?_, fun c => absurd rfl c⟩)
    · unfold w_X2_step_b45
      rw [iI_lt' (a := g) (b := r0) (by omega) (by omega)]
      rw [if_pos hbr] at hlim
      exact ⟨fun c => absurd c (by omega), fun _ => hgo⟩
    · unfold w_X2_step_b45
      rw [if_neg hbr] at hlim
      rw [n0, iI_lt' (a := 0) (b := r0) (by omega) (by omega)]
      exact ⟨fun c => absurd c (by omega), fun _ => by rw [← n0]; exact hgo⟩
/-- from one state: all that can stand at kind k -/
def mtr1 (h l : Nat → Nat) (G k : Nat) (B : Nat → Nat) (a b m q i v : Nat) : Prop := ∃ r t p, (0 < r → br k) ∧ t < 2 ∧ p + q < 2 ∧ r + t ≤ G - m ∧ r + a + b + 3 * t + 2 * p + l k ≤ 4 ∧ i = mix r a (m + r + t) (q + p) ∧ v = B (mix a b m q) + (r + a + b + 3 * t + 2 * p - h k)
theorem p_step {M : Nat} {B X : Nat → Nat} {xM : Nat → Int32} (hh : rowN 34 hM h) (hl : rowN 34 lM l) (hb2 : rowN 250 bM B) (h4 : h k ≤ 4) (l4 : l k ≤ 4) (hk : k < 34) (ha : a < 5) (hb : b < 5) (hG : G + M = 4) (hm : m ≤ G) (hq2 : q < 2) (hso : B (mix a b m q) < 1000) (hx : rowN 250 xM X) (hX : ∀ i, X i < 10000)
    (hq : ∀ Y yM, rowN 250 yM Y → (∀ i, Y i < 10000) → tmin (mtr1 h l G k B a b m q) X Y → post yM) : w_X2_step (iI M) hM lM bM xM (iI k) (iI a) (iI b) (iI m) (iI q) post := by
  unfold w_X2_step
  have hmx : mix a b m q < 250 := mix_lt ha hb (by omega) hq2
  refine p_state ⟨iI_in' hmx (by omega), (if br k then G - m else 0) + 1 + 1, ?_⟩
  rw [iI_ix _ (by omega), hb2 _ hmx, n4, iI_sub' (show M ≤ 4 by omega), iI_sub' (show m ≤ 4 - M by omega), n0, show 4 - M - m = G - m by omega]
  refine p_step_b30 (g := G - m) hh hl h4 l4 hk ha hb (by omega) hq2 hso rfl _ 0 X xM (by omega) hx hX (fun Y yM hy hY hT => hq Y yM hy hY (tmin_congr hT (fun i v => ?_)))
  constructor
  · rintro ⟨r, t, p, c1, c2, c3, c4, c5, c6, c7⟩
    refine ⟨r, Nat.zero_le _, ?_, t, Nat.zero_le _, c2, c4, p, Nat.zero_le _, c3, c5, c6, c7⟩
    by_cases e : br k
    · rw [if_pos e]; omega
    · rw [if_neg e]
      rcases Nat.eq_zero_or_pos r with z | z
      · omega
      · exact absurd (c1 z) e
  · rintro ⟨r, -, c0, t, -, c2, c4, p, -, c3, c5, c6, c7⟩
    refine ⟨r, t, p, fun z => ?_, c2, c3, c4, c5, c6, c7⟩
    by_cases e : br k
    · exact e
    · rw [if_neg e] at c0; omega
end MSTEP
