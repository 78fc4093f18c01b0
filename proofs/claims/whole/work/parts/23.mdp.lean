/-! tables that are filled by transitions: the least (the greatest) that reaches a place -/
def tmin (P : Nat → Nat → Prop) (X Y : Nat → Nat) : Prop := (∀ i, Y i ≤ X i) ∧ (∀ i v, P i v → Y i ≤ v) ∧ ∀ i, Y i = X i ∨ P i (Y i)
theorem tmin_nil {P : Nat → Nat → Prop} (X : Nat → Nat) (h : ∀ i v, ¬ P i v) : tmin P X X := ⟨fun _ => Nat.le_refl _, fun i v q => absurd q (h i v), fun _ => Or.inl rfl⟩
theorem tmin_one (X : Nat → Nat) (i0 v0 : Nat) : tmin (fun i v => i = i0 ∧ v = v0) X (nup X i0 (min (X i0) v0)) := by
  refine ⟨fun i => ?_, fun i v q => ?_, fun i => ?_⟩
  · by_cases e : i = i0
    · subst e; rw [nup_eq]; omega
    · rw [nup_ne _ _ e]; exact Nat.le_refl _
  · rw [q.1, nup_eq, q.2]; omega
  · by_cases e : i = i0
    · subst e
      rw [nup_eq]
      rcases Nat.le_total (X i) v0 with z | z
      · exact Or.inl (Nat.min_eq_left z)
      · exact Or.inr ⟨rfl, Nat.min_eq_right z⟩
    · exact Or.inl (nup_ne _ _ e)
theorem tmin_comp {P Q R : Nat → Nat → Prop} {X Y Z : Nat → Nat} (a : tmin P X Y) (b : tmin Q Y Z) (h : ∀ i v, R i v ↔ P i v ∨ Q i v) : tmin R X Z := by
  refine ⟨fun i => Nat.le_trans (b.1 i) (a.1 i), fun i v q => ?_, fun i => ?_⟩
  · rcases (h i v).mp q with q | q
    · exact Nat.le_trans (b.1 i) (a.2.1 i v q)
    · exact b.2.1 i v q
  · rcases b.2.2 i with e | e
    · rcases a.2.2 i with e2 | e2
      · exact Or.inl (e.trans e2)
      · exact Or.inr ((h _ _).mpr (Or.inl (by rw [e]; exact e2)))
    · exact Or.inr ((h _ _).mpr (Or.inr e))
theorem tmin_congr {P Q : Nat → Nat → Prop} {X Y : Nat → Nat} (a : tmin P X Y) (h : ∀ i v, Q i v ↔ P i v) : tmin Q X Y := ⟨a.1, fun i v q => a.2.1 i v ((h i v).mp q), fun i => (a.2.2 i).imp id (fun q => (h _ _).mpr q)⟩
def tmax (P : Nat → Nat → Prop) (X Y : Nat → Nat) : Prop := (∀ i, X i ≤ Y i) ∧ (∀ i v, P i v → v ≤ Y i) ∧ ∀ i, Y i = X i ∨ P i (Y i)
theorem tmax_nil {P : Nat → Nat → Prop} (X : Nat → Nat) (h : ∀ i v, ¬ P i v) : tmax P X X := ⟨fun _ => Nat.le_refl _, fun i v q => absurd q (h i v), fun _ => Or.inl rfl⟩
theorem tmax_one (X : Nat → Nat) (i0 v0 : Nat) : tmax (fun i v => i = i0 ∧ v = v0) X (nup X i0 (max (X i0) v0)) := by
  refine ⟨fun i => ?_, fun i v q => ?_, fun i => ?_⟩
  · by_cases e : i = i0
    · subst e; rw [nup_eq]; omega
    · rw [nup_ne _ _ e]; exact Nat.le_refl _
  · rw [q.1, nup_eq, q.2]; omega
  · by_cases e : i = i0
    · subst e
      rw [nup_eq]
      rcases Nat.le_total v0 (X i) with z | z
      · exact Or.inl (Nat.max_eq_left z)
      · exact Or.inr ⟨rfl, Nat.max_eq_right z⟩
    · exact Or.inl (nup_ne _ _ e)
theorem tmax_comp {P Q R : Nat → Nat → Prop} {X Y Z : Nat → Nat} (a : tmax P X Y) (b : tmax Q Y Z) (h : ∀ i v, R i v ↔ P i v ∨ Q i v) : tmax R X Z := by
  refine ⟨fun i => Nat.le_trans (a.1 i) (b.1 i), fun i v q => ?_, fun i => ?_⟩
  · rcases (h i v).mp q with q | q
    · exact Nat.le_trans (a.2.1 i v q) (b.1 i)
    · exact b.2.1 i v q
  · rcases b.2.2 i with e | e
    · rcases a.2.2 i with e2 | e2
      · exact Or.inl (e.trans e2)
      · exact Or.inr ((h _ _).mpr (Or.inl (by rw [e]; exact e2)))
    · exact Or.inr ((h _ _).mpr (Or.inr e))
theorem tmax_congr {P Q : Nat → Nat → Prop} {X Y : Nat → Nat} (a : tmax P X Y) (h : ∀ i v, Q i v ↔ P i v) : tmax Q X Y := ⟨a.1, fun i v q => a.2.1 i v ((h i v).mp q), fun i => (a.2.2 i).imp id (fun q => (h _ _).mpr q)⟩
/-! the model's table: place of a state -/
def mix (a b m q : Nat) : Nat := ((a * 5 + b) * 5 + m) * 2 + q
theorem mix_inj {a b m q a' b' m' q' : Nat} (hb : b < 5) (hm : m < 5) (hq : q < 2) (hb' : b' < 5) (hm' : m' < 5) (hq' : q' < 2) (h : mix a b m q = mix a' b' m' q') : a = a' ∧ b = b' ∧ m = m' ∧ q = q' := by
  unfold mix at h; omega
theorem mix_lt {a b m q : Nat} (ha : a < 5) (hb : b < 5) (hm : m < 5) (hq : q < 2) : mix a b m q < 250 := by unfold mix; omega
/-- all that can stand at kind k, behind what was begun: to a place, with what is wanting -/
def mtr (h l : Nat → Nat) (G k : Nat) (B : Nat → Nat) (i v : Nat) : Prop :=
  ∃ a b m q r t p, a + b < 5 ∧ a + b ≤ m ∧ m ≤ G ∧ q < 2 ∧ B (mix a b m q) < 99 ∧ (0 < r → br k) ∧ t < 2 ∧ p + q < 2 ∧ r + t ≤ G - m ∧ r + a + b + 3 * t + 2 * p + l k ≤ 4 ∧
    i = mix r a (m + r + t) (q + p) ∧ v = B (mix a b m q) + (r + a + b + 3 * t + 2 * p - h k)
/-- the last kinds' ROWs -/
def lst (f : Nat → Nat) (n : Nat) : Nat := match n with
  | 0 => 0
  | n + 1 => f n
theorem lst_shf (f : Nat → Nat) (n : Nat) : shf f n = lst f n := by cases n <;> rfl
theorem lst_shf2 (f : Nat → Nat) (n : Nat) : shf (shf f) n = lst (shf f) n := lst_shf (shf f) n
/-- the model's table behind n kinds says the least that is wanting, of every way to stand there -/
def mtab (h l : Nat → Nat) (G n : Nat) (B : Nat → Nat) : Prop :=
  (∀ a b m q, a < 5 → b < 5 → m < 5 → q < 2 → B (mix a b m q) < 99 → ∃ r t p, vld l n r t p ∧ lst r n = a ∧ lst (shf r) n = b ∧ grp n r t = m ∧ sumN n p = q ∧ m ≤ G ∧ cst h n r t p = B (mix a b m q)) ∧
  (∀ r t p, vld l n r t p → grp n r t ≤ G → sumN n p ≤ 1 → B (mix (lst r n) (lst (shf r) n) (grp n r t) (sumN n p)) ≤ cst h n r t p)
theorem wnt_congr {r t p r' t' p' : Nat → Nat} {k : Nat} (hr : ∀ j, j ≤ k → r j = r' j) (ht : t k = t' k) (hp : p k = p' k) : wnt r t p k = wnt r' t' p' k := by
  unfold wnt
  have e1 : shf r k = shf r' k := by cases k with
    | zero => rfl
    | succ k => exact hr k (by omega)
  have e2 : shf (shf r) k = shf (shf r') k := by cases k with
    | zero => rfl
    | succ k => cases k with
      | zero => rfl
      | succ k => exact hr k (by omega)
  rw [hr k (Nat.le_refl _), e1, e2, ht, hp]
theorem cst_le {h l r t p : Nat → Nat} {n : Nat} (q : vld l n r t p) : cst h n r t p ≤ 3 * grp n r t + 2 * sumN n p := by
  have e : cst h n r t p ≤ sumN n (fun k => r k + shf r k + shf (shf r) k + 3 * t k + 2 * p k) := sumN_le (fun k _ => by unfold wnt; omega)
  rw [sumN_add (fun k => r k + shf r k + shf (shf r) k + 3 * t k) (fun k => 2 * p k), sumN_add (fun k => r k + shf r k + shf (shf r) k) (fun k => 3 * t k), sumN_add (fun k => r k + shf r k) (shf (shf r)), sumN_add r (shf r), sumN_mul, sumN_mul] at e
  have e2 : sumN n (shf r) ≤ sumN n r := by
    cases n with
    | zero => exact Nat.le_refl _
    | succ n => rw [sumN_shf]; exact sumN_mono (by omega)
  have e3 : sumN n (shf (shf r)) ≤ sumN n (shf r) := by
    cases n with
    | zero => exact Nat.le_refl _
    | succ n => rw [sumN_shf]; exact sumN_mono (by omega)
  have e4 : grp n r t = sumN n r + sumN n t := sumN_add r t
  omega
theorem mtab_step {h l : Nat → Nat} {G n : Nat} {B Y : Nat → Nat} (hG : G ≤ 4) (hB : mtab h l G n B) (hY : tmin (mtr h l G n B) (fun _ => 99) Y) : mtab h l G (n + 1) Y := by
  obtain ⟨hS, hC⟩ := hB
  refine ⟨fun a b m q ha hb hm hq hlt => ?_, fun r t p hv hg hp => ?_⟩
  · rcases hY.2.2 (mix a b m q) with e | ⟨a0, b0, m0, q0, r, t, p, c1, c2, c3, c4, c5, c6, c7, c8, c9, c10, c11, c12⟩
    · have e : Y (mix a b m q) = 99 := e
      omega
    · obtain ⟨i1, i2, i3, i4⟩ := mix_inj hb hm hq (by omega) (by omega) (by omega) c11
      obtain ⟨r0, t0, p0, g1, g2, g3, g4, g5, g6, g7⟩ := hS a0 b0 m0 q0 (by omega) (by omega) (by omega) c4 c5
      have er : ∀ j, j < n → nup r0 n r j = r0 j := fun j hj => nup_ne _ _ (by omega)
      have et : ∀ j, j < n → nup t0 n t j = t0 j := fun j hj => nup_ne _ _ (by omega)
      have ep : ∀ j, j < n → nup p0 n p j = p0 j := fun j hj => nup_ne _ _ (by omega)
      have ew : ∀ j, j < n → wnt (nup r0 n r) (nup t0 n t) (nup p0 n p) j = wnt r0 t0 p0 j := fun j hj => wnt_congr (fun i hi => er i (by omega)) (et j hj) (ep j hj)
      have es1 : shf (nup r0 n r) n = a0 := by
        rw [lst_shf, ← g2]; cases n with
        | zero => rfl
        | succ n => exact nup_ne _ _ (by omega)
      have es2 : shf (shf (nup r0 n r)) n = b0 := by
        rw [lst_shf2, ← g3]; cases n with
        | zero => rfl
        | succ n => cases n with
          | zero => rfl
          | succ n => exact nup_ne _ _ (by omega)
      have ewn : wnt (nup r0 n r) (nup t0 n t) (nup p0 n p) n = r + a0 + b0 + 3 * t + 2 * p := by
        unfold wnt; rw [es1, es2, nup_eq, nup_eq, nup_eq]
      refine ⟨nup r0 n r, nup t0 n t, nup p0 n p, fun j hj => ?_, ?_, ?_, ?_, ?_, by omega, ?_⟩
      · by_cases e : j = n
        · subst e
          rw [ewn, nup_eq, nup_eq, nup_eq]
          exact ⟨by omega, c6, by omega, by omega⟩
        · have := g1 j (by omega)
          rw [ew j (by omega), er j (by omega), et j (by omega), ep j (by omega)]
          exact this
      · show nup r0 n r n = a
        rw [nup_eq, i1]
      · show shf (nup r0 n r) n = b
        rw [es1, i2]
      · show sumN n (fun k => nup r0 n r k + nup t0 n t k) + (nup r0 n r n + nup t0 n t n) = m
        rw [sumN_congr (g := fun k => r0 k + t0 k) (fun j hj => by rw [er j hj, et j hj]), nup_eq, nup_eq]
        show grp n r0 t0 + (r + t) = m
        omega
      · show sumN n (nup p0 n p) + nup p0 n p n = q
        rw [sumN_congr (g := p0) ep, nup_eq]; omega
      · show sumN n (fun k => wnt (nup r0 n r) (nup t0 n t) (nup p0 n p) k - h k) + (wnt (nup r0 n r) (nup t0 n t) (nup p0 n p) n - h n) = Y (mix a b m q)
        rw [sumN_congr (g := fun k => wnt r0 t0 p0 k - h k) (fun j hj => by rw [ew j hj]), ewn, c12]
        show cst h n r0 t0 p0 + _ = _
        rw [g7]
  · have hv0 : vld l n r t p := fun j hj => hv j (by omega)
    obtain ⟨v1, v2, v3, v4⟩ := hv n (by omega)
    have eg : grp (n + 1) r t = grp n r t + (r n + t n) := rfl
    have epn : sumN (n + 1) p = sumN n p + p n := rfl
    have hc := hC r t p hv0 (by omega) (by omega)
    have hle := cst_le (h := h) hv0
    have ew : wnt r t p n = r n + lst r n + lst (shf r) n + 3 * t n + 2 * p n := by unfold wnt; rw [lst_shf, lst_shf2]
    have hab : lst r n + lst (shf r) n ≤ grp n r t := by
      cases n with
      | zero => exact Nat.le_refl _
      | succ n =>
        cases n with
        | zero => show r 0 + 0 ≤ 0 + (r 0 + t 0); omega
        | succ n => show r (n + 1) + r n ≤ sumN n (fun k => r k + t k) + (r n + t n) + (r (n + 1) + t (n + 1)); omega
    refine Nat.le_trans (hY.2.1 (mix (lst r (n + 1)) (lst (shf r) (n + 1)) (grp (n + 1) r t) (sumN (n + 1) p)) (B (mix (lst r n) (lst (shf r) n) (grp n r t) (sumN n p)) + (r n + lst r n + lst (shf r) n + 3 * t n + 2 * p n - h n))
      ⟨lst r n, lst (shf r) n, grp n r t, sumN n p, r n, t n, p n, by omega, hab, by omega, by omega, by omega, v2, by omega, by omega, by omega, by omega, ?_, rfl⟩) ?_
    · show mix (r n) (shf r n) (grp n r t + (r n + t n)) (sumN n p + p n) = _
      rw [lst_shf]; congr 1; omega
    · show _ ≤ cst h n r t p + (wnt r t p n - h n)
      rw [ew]; omega
theorem mtab_zero (h l : Nat → Nat) (G : Nat) {B : Nat → Nat} (h0 : B 0 = 0) (h1 : ∀ i, i < 250 → i ≠ 0 → B i = 99) : mtab h l G 0 B := by
  refine ⟨fun a b m q ha hb hm hq hlt => ?_, fun r t p hv hg hp => ?_⟩
  · have e : mix a b m q = 0 := by
      rcases Nat.eq_zero_or_pos (mix a b m q) with e | e
      · exact e
      · have := h1 _ (mix_lt ha hb hm hq) (by omega); omega
    have : a = 0 ∧ b = 0 ∧ m = 0 ∧ q = 0 := by unfold mix at e; omega
    obtain ⟨rfl, rfl, rfl, rfl⟩ := this
    exact ⟨fun _ => 0, fun _ => 0, fun _ => 0, fun j hj => absurd hj (by omega), rfl, rfl, rfl, rfl, Nat.zero_le _, by rw [e, h0]; rfl⟩
  · show B (mix 0 0 0 0) ≤ 0
    exact Nat.le_of_eq h0
theorem wnt0 (k : Nat) : wnt (fun _ => 0) (fun _ => 0) (fun _ => 0) k = 0 := by
  cases k with
  | zero => rfl
  | succ k => cases k with
    | zero => rfl
    | succ k => rfl
theorem vld0 {l : Nat → Nat} {n : Nat} (h4 : ∀ k, k < n → l k ≤ 4) : vld l n (fun _ => 0) (fun _ => 0) (fun _ => 0) := fun k hk => by
  rw [wnt0]
  exact ⟨by have := h4 k hk; omega, fun z => absurd z (Nat.lt_irrefl 0), Nat.zero_le _, Nat.zero_le _⟩
theorem mtab_end {h l : Nat → Nat} {G : Nat} {B : Nat → Nat} (hG : G ≤ 4) (hB : mtab h l G 34 B) (h4 : ∀ k, k < 34 → l k ≤ 4) (hl : sumN 34 l ≤ 16) : isMin h l G (B (mix 0 0 G 1)) := by
  have hz : ∀ r t p, vld l 34 r t p → lst r 34 = 0 ∧ lst (shf r) 34 = 0 := by
    intro r t p q
    constructor
    · show r 33 = 0
      rcases Nat.eq_zero_or_pos (r 33) with e | e
      · exact e
      · exact absurd ((q 33 (by omega)).2.1 e).1 (by omega)
    · show r 32 = 0
      rcases Nat.eq_zero_or_pos (r 32) with e | e
      · exact e
      · exact absurd ((q 32 (by omega)).2.1 e).1 (by omega)
  have hC : ∀ r t p, vld l 34 r t p → grp 34 r t = G → sumN 34 p = 1 → B (mix 0 0 G 1) ≤ cst h 34 r t p := by
    intro r t p q hg hp
    have := hB.2 r t p q (by omega) (by omega)
    rw [(hz r t p q).1, (hz r t p q).2, hg, hp] at this
    exact this
  obtain ⟨r, t, p, g1, g2, g3, g4⟩ := fill_up (h := h) hG hl G (fun _ => 0) (fun _ => 0) (fun _ => 0) (vld0 h4) (by show sumN 34 (fun _ => 0 + 0) + G = G; rw [sumN_zero (fun _ _ => rfl)]; omega) (by rw [sumN_zero (fun _ _ => rfl)]; omega)
  have hlt : B (mix 0 0 G 1) < 99 := by
    have a := hC r t p g1 g2 g3
    have b := cst_le (h := h) g1
    omega
  obtain ⟨r', t', p', k1, k2, k3, k4, k5, k6, k7⟩ := hB.1 0 0 G 1 (by omega) (by omega) (by omega) (by omega) hlt
  exact ⟨⟨r', t', p', k1, k4, k5, k7⟩, hC⟩
