def cix (g q a b : Nat) : Nat := 18 * g + 9 * q + 3 * a + b
theorem cix_inj {g q a b g' q' a' b' : Nat} (hq : q < 2) (ha : a < 3) (hb : b < 3) (hq' : q' < 2) (ha' : a' < 3) (hb' : b' < 3) (h : cix g q a b = cix g' q' a' b') : g = g' ∧ q = q' ∧ a = a' ∧ b = b' := by
  unfold cix at h; omega
theorem cix_lt {g q a b : Nat} (hg : g < 5) (hq : q < 2) (ha : a < 3) (hb : b < 3) : cix g q a b < 90 := by unfold cix; omega
theorem cix_of {i : Nat} (hi : i < 90) : i / 18 < 5 ∧ i % 18 / 9 < 2 ∧ i % 9 / 3 < 3 ∧ i % 3 < 3 ∧ cix (i / 18) (i % 18 / 9) (i % 9 / 3) (i % 3) = i := by
  unfold cix; omega
def ctr (h l : Nat → Nat) (G k : Nat) (X : Nat → Nat) (i v : Nat) : Prop :=
  ∃ g q a b r t p, g < 5 ∧ q < 2 ∧ a < 3 ∧ b < 3 ∧ X (cix g q a b) ≠ 0 ∧ r ≤ 2 ∧ (0 < r → br k ∧ 0 < h k + h (k + 1) + h (k + 2)) ∧ t + p ≤ 1 ∧ (0 < t + p → 0 < h k) ∧
    b + a + r + 2 * p + 3 * t + l k ≤ 4 ∧ q + p ≤ 1 ∧ g + r + t ≤ G ∧ i = cix (g + r + t) (q + p) r a ∧ v = X (cix g q a b) + min (b + a + r + 2 * p + 3 * t) (h k)
def ctab (h l : Nat → Nat) (G n : Nat) (X : Nat → Nat) : Prop :=
  (∀ g q a b, g < 5 → q < 2 → a < 3 → b < 3 → X (cix g q a b) ≠ 0 → ∃ r t p, cvld h l n r t p ∧ lst r n = a ∧ lst (shf r) n = b ∧ grp n r t = g ∧ sumN n p = q ∧ g ≤ G ∧ hld h n r t p + 1 = X (cix g q a b)) ∧
  (∀ r t p, cvld h l n r t p → grp n r t ≤ G → sumN n p ≤ 1 → hld h n r t p + 1 ≤ X (cix (grp n r t) (sumN n p) (lst r n) (lst (shf r) n)))
theorem ctab_step {h l : Nat → Nat} {G n : Nat} {B Y : Nat → Nat} (hG : G ≤ 4) (hB : ctab h l G n B) (hY : tmax (ctr h l G n B) (fun _ => 0) Y) : ctab h l G (n + 1) Y := by
  obtain ⟨hS, hC⟩ := hB
  refine ⟨fun g q a b hg hq ha hb hne => ?_, fun r t p hv hg hp => ?_⟩
  · rcases hY.2.2 (cix g q a b) with e | ⟨g0, q0, a0, b0, r, t, p, c1, c2, c3, c4, c5, c6, c7, c8, c9, c10, c11, c12, c13, c14⟩
    · exact absurd e hne
    · obtain ⟨i1, i2, i3, i4⟩ := cix_inj hq ha hb (by omega) (by omega) c3 c13
      obtain ⟨r0, t0, p0, g1, g2, g3, g4, g5, g6, g7⟩ := hS g0 q0 a0 b0 c1 c2 c3 c4 c5
      have er : ∀ j, j < n → nup r0 n r j = r0 j := fun j hj => nup_ne _ _ (by omega)
      have et : ∀ j, j < n → nup t0 n t j = t0 j := fun j hj => nup_ne _ _ (by omega)
      have ep : ∀ j, j < n → nup p0 n p j = p0 j := fun j hj => nup_ne _ _ (by omega)
      have ew : ∀ j, j < n → wnt (nup r0 n r) (nup t0 n t) (nup p0 n p) j = wnt r0 t0 p0 j := fun j hj => wnt_congr (fun i hi => er i (by omega)) (et j hj) (ep j hj)
      have es1 : shf (nup r0 n r) n = a0 := by
        rw [lst_shf, ← g2]; cases n with
        | zero => rfl
        | succ n => exact nup_ne _ _ (by omega)
      have es2 : shf (shf (nup r0 n r)) n = b0 := by
        rw [lst_shf2, ← g3]; cases n with
        | zero => rfl
        | succ n => cases n with
          | zero => rfl
          | succ n => exact nup_ne _ _ (by omega)
      have ewn : wnt (nup r0 n r) (nup t0 n t) (nup p0 n p) n = b0 + a0 + r + 2 * p + 3 * t := by
        unfold wnt; rw [es1, es2, nup_eq, nup_eq, nup_eq]; omega
      refine ⟨nup r0 n r, nup t0 n t, nup p0 n p, fun j hj => ?_, ?_, ?_, ?_, ?_, by omega, ?_⟩
      · by_cases e : j = n
        · subst e
          rw [ewn, nup_eq, nup_eq, nup_eq]
          exact ⟨by omega, c6, c7, by omega, by omega, fun z => c9 (by omega), fun z => c9 (by omega)⟩
        · have := g1 j (by omega)
          rw [ew j (by omega), er j (by omega), et j (by omega), ep j (by omega)]
          exact this
      · show nup r0 n r n = a
        rw [nup_eq, i3]
      · show shf (nup r0 n r) n = b
        rw [es1, i4]
      · show sumN n (fun k => nup r0 n r k + nup t0 n t k) + (nup r0 n r n + nup t0 n t n) = g
        rw [sumN_congr (g := fun k => r0 k + t0 k) (fun j hj => by rw [er j hj, et j hj]), nup_eq, nup_eq]
        show grp n r0 t0 + (r + t) = g
        omega
      · show sumN n (nup p0 n p) + nup p0 n p n = q
        rw [sumN_congr (g := p0) ep, nup_eq]; omega
      · show sumN n (fun k => min (wnt (nup r0 n r) (nup t0 n t) (nup p0 n p) k) (h k)) + min (wnt (nup r0 n r) (nup t0 n t) (nup p0 n p) n) (h n) + 1 = Y (cix g q a b)
        rw [sumN_congr (g := fun k => min (wnt r0 t0 p0 k) (h k)) (fun j hj => by rw [ew j hj]), ewn, c14]
        show hld h n r0 t0 p0 + _ + 1 = _
        omega
  · have hv0 : cvld h l n r t p := fun j hj => hv j (by omega)
    obtain ⟨v1, v2, v3, v4, v5, v6, v7⟩ := hv n (by omega)
    have eg : grp (n + 1) r t = grp n r t + (r n + t n) := rfl
    have epn : sumN (n + 1) p = sumN n p + p n := rfl
    have hc := hC r t p hv0 (by omega) (by omega)
    have ew : wnt r t p n = lst (shf r) n + lst r n + r n + 2 * p n + 3 * t n := by unfold wnt; rw [lst_shf, lst_shf2]; omega
    have ha : lst r n < 3 := by
      cases n with
      | zero => exact Nat.zero_lt_succ _
      | succ n => have := (hv n (by omega)).2.1; show r n < 3; omega
    have hb : lst (shf r) n < 3 := by
      cases n with
      | zero => exact Nat.zero_lt_succ _
      | succ n => cases n with
        | zero => exact Nat.zero_lt_succ _
        | succ n => have := (hv n (by omega)).2.1; show r n < 3; omega
    refine Nat.le_trans ?_ (hY.2.1 (cix (grp (n + 1) r t) (sumN (n + 1) p) (lst r (n + 1)) (lst (shf r) (n + 1))) (B (cix (grp n r t) (sumN n p) (lst r n) (lst (shf r) n)) + min (lst (shf r) n + lst r n + r n + 2 * p n + 3 * t n) (h n))
      ⟨grp n r t, sumN n p, lst r n, lst (shf r) n, r n, t n, p n, by omega, by omega, ha, hb, by omega, v2, v3, by omega, fun z => by rcases Nat.eq_zero_or_pos (t n) with e | e; exact v7 (by omega); exact v6 e, by omega, by omega, by omega, ?_, rfl⟩)
    · show hld h n r t p + min (wnt r t p n) (h n) + 1 ≤ _
      rw [ew]; omega
    · show cix (grp n r t + (r n + t n)) (sumN n p + p n) (r n) (shf r n) = _
      rw [lst_shf]; congr 1; omega
theorem ctab_zero (h l : Nat → Nat) (G : Nat) {B : Nat → Nat} (h0 : B 0 = 1) (h1 : ∀ i, i < 90 → i ≠ 0 → B i = 0) : ctab h l G 0 B := by
  refine ⟨fun g q a b hg hq ha hb hne => ?_, fun r t p hv hg hp => ?_⟩
  · have e : cix g q a b = 0 := by
      rcases Nat.eq_zero_or_pos (cix g q a b) with e | e
      · exact e
      · exact absurd (h1 _ (cix_lt hg hq ha hb) (by omega)) hne
    have : g = 0 ∧ q = 0 ∧ a = 0 ∧ b = 0 := by unfold cix at e; omega
    obtain ⟨rfl, rfl, rfl, rfl⟩ := this
    exact ⟨fun _ => 0, fun _ => 0, fun _ => 0, fun j hj => absurd hj (by omega), rfl, rfl, rfl, rfl, Nat.zero_le _, by rw [e, h0]; rfl⟩
  · show 0 + 1 ≤ B (cix 0 0 0 0)
    exact Nat.le_of_eq h0.symm
theorem ctab_end {h l : Nat → Nat} {G v : Nat} {B : Nat → Nat} (hG : G ≤ 4) (hB : ctab h l G 34 B) (h4 : ∀ k, k < 34 → l k ≤ 4) (hle : ∀ i, i < 90 → B i ≤ v + 1) (heq : ∃ i, i < 90 ∧ B i = v + 1) : isMax h l G v := by
  obtain ⟨i, hi, he⟩ := heq
  obtain ⟨d1, d2, d3, d4, d5⟩ := cix_of hi
  obtain ⟨r, t, p, k1, k2, k3, k4, k5, k6, k7⟩ := hB.1 _ _ _ _ d1 d2 d3 d4 (by rw [d5, he]; omega)
  refine ⟨⟨r, t, p, k1, by omega, by omega, by rw [d5] at k7; omega⟩, fun r t p hv hg hp => ?_⟩
  have hc := hB.2 r t p hv hg hp
  have ha : lst r 34 < 3 := by have := (hv 33 (by omega)).2.1; show r 33 < 3; omega
  have hb : lst (shf r) 34 < 3 := by have := (hv 32 (by omega)).2.1; show r 32 < 3; omega
  have := hle _ (cix_lt (g := grp 34 r t) (q := sumN 34 p) (by omega) (by omega) ha hb)
  omega
