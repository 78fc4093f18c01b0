/-- a ROW can begin with k -/
abbrev br (k : Nat) : Prop := k < 27 ∧ k % 9 ≤ 6
def shf (f : Nat → Nat) : Nat → Nat := fun k => match k with
  | 0 => 0
  | k + 1 => f k
theorem sumN_shf (f : Nat → Nat) : ∀ n, sumN (n + 1) (shf f) = sumN n f := by
  intro n
  induction n with
  | zero => rfl
  | succ n ih => rw [sumN, ih]; rfl
/-- what an arrangement wants of kind k: r ROWs begin, t THREEs, p pairs -/
def wnt (r t p : Nat → Nat) (k : Nat) : Nat := r k + shf r k + shf (shf r) k + 3 * t k + 2 * p k
def vld (l : Nat → Nat) (n : Nat) (r t p : Nat → Nat) : Prop := ∀ k, k < n → wnt r t p k + l k ≤ 4 ∧ (0 < r k → br k) ∧ t k ≤ 1 ∧ p k ≤ 1
def cst (h : Nat → Nat) (n : Nat) (r t p : Nat → Nat) : Nat := sumN n (fun k => wnt r t p k - h k)
def hld (h : Nat → Nat) (n : Nat) (r t p : Nat → Nat) : Nat := sumN n (fun k => min (wnt r t p k) (h k))
def grp (n : Nat) (r t : Nat → Nat) : Nat := sumN n (fun k => r k + t k)
def cvld (h l : Nat → Nat) (n : Nat) (r t p : Nat → Nat) : Prop := ∀ k, k < n → wnt r t p k + l k ≤ 4 ∧ r k ≤ 2 ∧ (0 < r k → br k ∧ 0 < h k + h (k + 1) + h (k + 2)) ∧ t k ≤ 1 ∧ p k ≤ 1 ∧ (0 < t k → 0 < h k) ∧ (0 < p k → 0 < h k)
theorem cvld.vld {h l : Nat → Nat} {n : Nat} {r t p : Nat → Nat} (q : cvld h l n r t p) : vld l n r t p := fun k hk => by
  obtain ⟨a, _, b, c, d, _⟩ := q k hk
  exact ⟨a, fun z => (b z).1, c, d⟩
def isMin (h l : Nat → Nat) (G v : Nat) : Prop := (∃ r t p, vld l 34 r t p ∧ grp 34 r t = G ∧ sumN 34 p = 1 ∧ cst h 34 r t p = v) ∧ ∀ r t p, vld l 34 r t p → grp 34 r t = G → sumN 34 p = 1 → v ≤ cst h 34 r t p
def isMax (h l : Nat → Nat) (G v : Nat) : Prop := (∃ r t p, cvld h l 34 r t p ∧ grp 34 r t ≤ G ∧ sumN 34 p ≤ 1 ∧ hld h 34 r t p = v) ∧ ∀ r t p, cvld h l 34 r t p → grp 34 r t ≤ G → sumN 34 p ≤ 1 → hld h 34 r t p ≤ v
theorem isMin_one {h l : Nat → Nat} {G v w : Nat} (a : isMin h l G v) (b : isMin h l G w) : v = w := by
  obtain ⟨⟨r, t, p, h1, h2, h3, h4⟩, h5⟩ := a
  obtain ⟨⟨r', t', p', g1, g2, g3, g4⟩, g5⟩ := b
  have e1 := h5 r' t' p' g1 g2 g3
  have e2 := g5 r t p h1 h2 h3
  omega
theorem sumN_mul {n : Nat} (c : Nat) (f : Nat → Nat) : sumN n (fun k => c * f k) = c * sumN n f := by
  induction n with
  | zero => rfl
  | succ n ih => rw [sumN, sumN, ih, Nat.mul_add]
theorem wnt_sum {l r t p : Nat → Nat} (h : vld l 34 r t p) : sumN 34 (wnt r t p) = 3 * grp 34 r t + 2 * sumN 34 p := by
  have h33 : r 33 = 0 := by
    rcases Nat.eq_zero_or_pos (r 33) with q | q
    · exact q
    · have := (h 33 (by omega)).2.1 q; exact absurd this.1 (by omega)
  have h32 : r 32 = 0 := by
    rcases Nat.eq_zero_or_pos (r 32) with q | q
    · exact q
    · have := (h 32 (by omega)).2.1 q; exact absurd this.1 (by omega)
  have e1 : sumN 34 (wnt r t p) = sumN 34 r + sumN 34 (shf r) + sumN 34 (shf (shf r)) + 3 * sumN 34 t + 2 * sumN 34 p := by
    show sumN 34 (fun k => r k + shf r k + shf (shf r) k + 3 * t k + 2 * p k) = _
    rw [sumN_add (fun k => r k + shf r k + shf (shf r) k + 3 * t k) (fun k => 2 * p k), sumN_add (fun k => r k + shf r k + shf (shf r) k) (fun k => 3 * t k), sumN_add (fun k => r k + shf r k) (shf (shf r)), sumN_add r (shf r), sumN_mul, sumN_mul]
  have e2 : sumN 34 (shf r) = sumN 33 r := sumN_shf r 33
  have e3 : sumN 34 (shf (shf r)) = sumN 32 r := by rw [sumN_shf (shf r) 33]; exact sumN_shf r 32
  have e4 : sumN 34 r = sumN 33 r + r 33 := rfl
  have e5 : sumN 33 r = sumN 32 r + r 32 := rfl
  have e6 : grp 34 r t = sumN 34 r + sumN 34 t := sumN_add r t
  omega
theorem hld_cst (h : Nat → Nat) (n : Nat) (r t p : Nat → Nat) : hld h n r t p + cst h n r t p = sumN n (wnt r t p) := by
  unfold hld cst
  rw [← sumN_add]
  exact sumN_congr (fun k _ => by omega)
theorem free_kind {f : Nat → Nat} {n : Nat} (h : sumN n f < n) : ∃ k, k < n ∧ f k = 0 := by
  induction n with
  | zero => omega
  | succ n ih =>
    rw [sumN] at h
    by_cases q : f n = 0
    · exact ⟨n, by omega, q⟩
    · obtain ⟨k, h1, h2⟩ := ih (by omega)
      exact ⟨k, by omega, h2⟩
theorem wnt_p (r t p : Nat → Nat) (k v j : Nat) : wnt r t (nup p k v) j = if j = k then wnt r t p j - 2 * p j + 2 * v else wnt r t p j := by
  unfold wnt
  by_cases e : j = k
  · subst e; rw [if_pos rfl, nup_eq]; omega
  · rw [if_neg e, nup_ne p v e]
theorem wnt_t (r t p : Nat → Nat) (k v j : Nat) : wnt r (nup t k v) p j = if j = k then wnt r t p j - 3 * t j + 3 * v else wnt r t p j := by
  unfold wnt
  by_cases e : j = k
  · subst e; rw [if_pos rfl, nup_eq]; omega
  · rw [if_neg e, nup_ne t v e]
theorem wnt_le_t {r t p : Nat → Nat} {k : Nat} (h : wnt r t p k = 0) : r k = 0 ∧ t k = 0 ∧ p k = 0 := by
  unfold wnt at h; omega
/-- a pair on a free kind -/
theorem add_pair {h l r t p : Nat → Nat} (q : vld l 34 r t p) {k : Nat} (hk : k < 34) (hf : wnt r t p k + l k = 0) :
    vld l 34 r t (nup p k 1) ∧ sumN 34 (nup p k 1) = sumN 34 p + 1 ∧ cst h 34 r t (nup p k 1) ≤ cst h 34 r t p + 2 := by
  obtain ⟨-, -, hp0⟩ := wnt_le_t (show wnt r t p k = 0 by omega)
  refine ⟨fun j hj => ?_, ?_, ?_⟩
  · obtain ⟨a, b, c, d⟩ := q j hj
    rw [wnt_p]
    by_cases e : j = k
    · subst e; rw [if_pos rfl, nup_eq]; exact ⟨by omega, b, c, by omega⟩
    · rw [if_neg e, nup_ne p 1 e]; exact ⟨a, b, c, d⟩
  · have := sumN_nup (f := p) hk 1; omega
  · have e : cst h 34 r t (nup p k 1) = sumN 34 (nup (fun j => wnt r t p j - h j) k (2 - h k)) := by
      refine sumN_congr (fun j _ => ?_)
      rw [wnt_p]
      by_cases e : j = k
      · subst e; rw [if_pos rfl, nup_eq]; omega
      · rw [if_neg e, nup_ne _ _ e]
    have e2 := sumN_nup (f := fun j => wnt r t p j - h j) hk (2 - h k)
    rw [e]; unfold cst; omega
/-- a THREE on a free kind -/
theorem add_three {h l r t p : Nat → Nat} (q : vld l 34 r t p) {k : Nat} (hk : k < 34) (hf : wnt r t p k + l k = 0) :
    vld l 34 r (nup t k 1) p ∧ grp 34 r (nup t k 1) = grp 34 r t + 1 ∧ cst h 34 r (nup t k 1) p ≤ cst h 34 r t p + 3 := by
  obtain ⟨-, ht0, -⟩ := wnt_le_t (show wnt r t p k = 0 by omega)
  refine ⟨fun j hj => ?_, ?_, ?_⟩
  · obtain ⟨a, b, c, d⟩ := q j hj
    rw [wnt_t]
    by_cases e : j = k
    · subst e; rw [if_pos rfl, nup_eq]; exact ⟨by omega, b, by omega, d⟩
    · rw [if_neg e, nup_ne t 1 e]; exact ⟨a, b, c, d⟩
  · have := sumN_nup (f := t) hk 1
    have e1 : grp 34 r (nup t k 1) = sumN 34 r + sumN 34 (nup t k 1) := sumN_add r (nup t k 1)
    have e2 : grp 34 r t = sumN 34 r + sumN 34 t := sumN_add r t
    omega
  · have e : cst h 34 r (nup t k 1) p = sumN 34 (nup (fun j => wnt r t p j - h j) k (3 - h k)) := by
      refine sumN_congr (fun j _ => ?_)
      rw [wnt_t]
      by_cases e : j = k
      · subst e; rw [if_pos rfl, nup_eq]; omega
      · rw [if_neg e, nup_ne _ _ e]
    have e2 := sumN_nup (f := fun j => wnt r t p j - h j) hk (3 - h k)
    rw [e]; unfold cst; omega
theorem has_free {l r t p : Nat → Nat} {G : Nat} (q : vld l 34 r t p) (hg : grp 34 r t ≤ 4) (hp : sumN 34 p ≤ 1) (hl : sumN 34 l ≤ 16) : ∃ k, k < 34 ∧ wnt r t p k + l k = 0 := by
  apply free_kind (f := fun k => wnt r t p k + l k)
  rw [sumN_add (wnt r t p) l, wnt_sum q]
  omega
/-- what is wanting can be put on free kinds -/
theorem fill_up {h l : Nat → Nat} {G : Nat} (hG : G ≤ 4) (hl : sumN 34 l ≤ 16) : ∀ (d : Nat) (r t p : Nat → Nat), vld l 34 r t p → grp 34 r t + d = G → sumN 34 p ≤ 1 →
    ∃ r' t' p', vld l 34 r' t' p' ∧ grp 34 r' t' = G ∧ sumN 34 p' = 1 ∧ cst h 34 r' t' p' ≤ cst h 34 r t p + 3 * d + 2 * (1 - sumN 34 p) := by
  intro d
  induction d with
  | zero =>
    intro r t p q hg hp
    by_cases e : sumN 34 p = 1
    · exact ⟨r, t, p, q, by omega, e, by omega⟩
    · obtain ⟨k, hk, hf⟩ := has_free (G := G) q (by omega) hp hl
      obtain ⟨a, b, c⟩ := add_pair (h := h) q hk hf
      exact ⟨r, t, nup p k 1, a, by omega, by omega, by omega⟩
  | succ d ih =>
    intro r t p q hg hp
    obtain ⟨k, hk, hf⟩ := has_free (G := G) q (by omega) hp hl
    obtain ⟨a, b, c⟩ := add_three (h := h) q hk hf
    obtain ⟨r', t', p', h1, h2, h3, h4⟩ := ih r (nup t k 1) p a (by omega) hp
    exact ⟨r', t', p', h1, h2, h3, by omega⟩
/-- the groups that touch the hand, and no ROW three times -/
def q3 (r : Nat → Nat) : Nat → Nat := fun k => if 3 ≤ r k then 1 else 0
def cr (h r : Nat → Nat) : Nat → Nat := fun k => if h k + h (k + 1) + h (k + 2) = 0 then 0 else r k - 3 * q3 r k
def ct (h r t : Nat → Nat) : Nat → Nat := fun k => if h k = 0 then 0 else t k + q3 r k + shf (q3 r) k + shf (shf (q3 r)) k
def cp (h p : Nat → Nat) : Nat → Nat := fun k => if h k = 0 then 0 else p k
theorem q3_le (r : Nat → Nat) (k : Nat) : 3 * q3 r k ≤ r k ∧ q3 r k ≤ 1 ∧ (r k ≤ 4 → r k - 3 * q3 r k ≤ 2) := by unfold q3; split <;> omega
theorem shf_q3 (r : Nat → Nat) (k : Nat) : 3 * shf (q3 r) k ≤ shf r k := by
  cases k with
  | zero => exact Nat.le_refl 0
  | succ k => exact (q3_le r k).1
theorem shf2_q3 (r : Nat → Nat) (k : Nat) : 3 * shf (shf (q3 r)) k ≤ shf (shf r) k := by
  cases k with
  | zero => exact Nat.le_refl 0
  | succ k => exact shf_q3 r k
theorem cr_le (h r : Nat → Nat) (k : Nat) : cr h r k ≤ r k - 3 * q3 r k := by unfold cr; split <;> omega
theorem shf_cr (h r : Nat → Nat) (k : Nat) : shf (cr h r) k ≤ shf r k - 3 * shf (q3 r) k ∧ (0 < h k → shf (cr h r) k = shf r k - 3 * shf (q3 r) k) := by
  cases k with
  | zero => exact ⟨Nat.le_refl 0, fun _ => rfl⟩
  | succ k =>
    refine ⟨cr_le h r k, fun hk => ?_⟩
    show cr h r k = r k - 3 * q3 r k
    unfold cr
    rw [if_neg (by omega)]
theorem shf2_cr (h r : Nat → Nat) (k : Nat) : shf (shf (cr h r)) k ≤ shf (shf r) k - 3 * shf (shf (q3 r)) k ∧ (0 < h k → shf (shf (cr h r)) k = shf (shf r) k - 3 * shf (shf (q3 r)) k) := by
  cases k with
  | zero => exact ⟨Nat.le_refl 0, fun _ => rfl⟩
  | succ k =>
    cases k with
    | zero => exact ⟨Nat.le_refl 0, fun _ => rfl⟩
    | succ k =>
      refine ⟨cr_le h r k, fun hk => ?_⟩
      have hk2 : 0 < h (k + 2) := hk
      show cr h r k = r k - 3 * q3 r k
      unfold cr
      rw [if_neg (by omega)]
theorem trim_wnt {h l r t p : Nat → Nat} (q : vld l 34 r t p) {k : Nat} (hk : k < 34) :
    wnt (cr h r) (ct h r t) (cp h p) k ≤ wnt r t p k ∧ (0 < h k → wnt (cr h r) (ct h r t) (cp h p) k = wnt r t p k) := by
  have a1 := q3_le r k
  have a2 := shf_q3 r k
  have a3 := shf2_q3 r k
  have b1 := cr_le h r k
  obtain ⟨b2, b2'⟩ := shf_cr h r k
  obtain ⟨b3, b3'⟩ := shf2_cr h r k
  unfold wnt
  by_cases e : h k = 0
  · have e1 : ct h r t k = 0 := by unfold ct; rw [if_pos e]
    have e2 : cp h p k = 0 := by unfold cp; rw [if_pos e]
    rw [e1, e2]
    exact ⟨by omega, fun z => by omega⟩
  · have e0 : cr h r k = r k - 3 * q3 r k := by unfold cr; rw [if_neg (by omega)]
    have e1 : ct h r t k = t k + q3 r k + shf (q3 r) k + shf (shf (q3 r)) k := by unfold ct; rw [if_neg e]
    have e2 : cp h p k = p k := by unfold cp; rw [if_neg e]
    have c2 := b2' (by omega)
    have c3 := b3' (by omega)
    rw [e0, e1, e2, c2, c3]
    exact ⟨by omega, fun _ => by omega⟩
theorem trim {h l r t p : Nat → Nat} (q : vld l 34 r t p) : cvld h l 34 (cr h r) (ct h r t) (cp h p) ∧ grp 34 (cr h r) (ct h r t) ≤ grp 34 r t ∧ sumN 34 (cp h p) ≤ sumN 34 p ∧ hld h 34 (cr h r) (ct h r t) (cp h p) = hld h 34 r t p := by
  have hr4 : ∀ k, k < 34 → r k ≤ 4 := fun k hk => by have := (q k hk).1; unfold wnt at this; omega
  refine ⟨fun k hk => ?_, ?_, ?_, ?_⟩
  · obtain ⟨a, b, c, d⟩ := q k hk
    obtain ⟨w1, w2⟩ := trim_wnt (h := h) q hk
    have z1 := cr_le h r k
    have z2 := q3_le r k
    have z3 := z2.2.2 (hr4 k hk)
    refine ⟨by omega, by omega, fun z => ⟨b (by omega), ?_⟩, ?_, ?_, ?_, ?_⟩
    · rcases Nat.eq_zero_or_pos (h k + h (k + 1) + h (k + 2)) with e | e
      · unfold cr at z; rw [if_pos e] at z; omega
      · exact e
    · by_cases e : h k = 0
      · unfold ct; rw [if_pos e]; omega
      · have := w2 (by omega)
        have e1 : 3 * ct h r t k ≤ wnt (cr h r) (ct h r t) (cp h p) k := by unfold wnt; omega
        omega
    · unfold cp; split <;> omega
    · intro z; unfold ct at z; split at z <;> omega
    · intro z; unfold cp at z; split at z <;> omega
  · have e1 : grp 34 (cr h r) (ct h r t) = sumN 34 (cr h r) + sumN 34 (ct h r t) := sumN_add _ _
    have e2 : grp 34 r t = sumN 34 r + sumN 34 t := sumN_add _ _
    have e3 : sumN 34 (cr h r) + 3 * sumN 34 (q3 r) ≤ sumN 34 r := by
      rw [← sumN_mul, ← sumN_add]
      exact sumN_le (fun k _ => by have := cr_le h r k; have := (q3_le r k).1; omega)
    have e4 : sumN 34 (ct h r t) ≤ sumN 34 t + sumN 34 (q3 r) + sumN 34 (shf (q3 r)) + sumN 34 (shf (shf (q3 r))) := by
      rw [← sumN_add, ← sumN_add, ← sumN_add]
      exact sumN_le (fun k _ => by unfold ct; split <;> omega)
    have e5 : sumN 34 (shf (q3 r)) = sumN 33 (q3 r) := sumN_shf _ 33
    have e6 : sumN 34 (shf (shf (q3 r))) = sumN 32 (q3 r) := by rw [sumN_shf (shf (q3 r)) 33]; exact sumN_shf _ 32
    have e7 : sumN 33 (q3 r) ≤ sumN 34 (q3 r) := sumN_mono (by omega)
    have e8 : sumN 32 (q3 r) ≤ sumN 34 (q3 r) := sumN_mono (by omega)
    omega
  · exact sumN_le (fun k _ => by unfold cp; split <;> omega)
  · exact sumN_congr (fun k hk => by
      obtain ⟨w1, w2⟩ := trim_wnt (h := h) q hk
      by_cases e : h k = 0
      · omega
      · rw [w2 (by omega)])
theorem isMax_isMin {h l : Nat → Nat} {G v : Nat} (hG : G ≤ 4) (hl : sumN 34 l ≤ 16) (hm : isMax h l G v) : v ≤ 3 * G + 2 ∧ isMin h l G (3 * G + 2 - v) := by
  obtain ⟨⟨r, t, p, h1, h2, h3, h4⟩, h5⟩ := hm
  have s1 := hld_cst h 34 r t p
  rw [wnt_sum h1.vld] at s1
  have hlow : ∀ r t p, vld l 34 r t p → grp 34 r t = G → sumN 34 p = 1 → 3 * G + 2 - v ≤ cst h 34 r t p := by
    intro r t p g1 g2 g3
    obtain ⟨c1, c2, c3, c4⟩ := trim (h := h) g1
    have := h5 _ _ _ c1 (by omega) (by omega)
    have s2 := hld_cst h 34 r t p
    rw [wnt_sum g1] at s2
    omega
  refine ⟨by omega, ?_, hlow⟩
  obtain ⟨r', t', p', g1, g2, g3, g4⟩ := fill_up (h := h) hG hl (G - grp 34 r t) r t p h1.vld (by omega) h3
  exact ⟨r', t', p', g1, g2, g3, by have := hlow r' t' p' g1 g2 g3; omega⟩
/-- with a tile less in the hand no fewer are missing -/
theorem isMin_mono {h h' l : Nat → Nat} {G v w : Nat} (hh : ∀ k, k < 34 → h' k ≤ h k) (a : isMin h l G v) (b : isMin h' l G w) : v ≤ w := by
  obtain ⟨⟨r, t, p, g1, g2, g3, g4⟩, -⟩ := b
  have h1 := a.2 r t p g1 g2 g3
  have h2 : cst h 34 r t p ≤ cst h' 34 r t p := sumN_le (fun k hk => by have := hh k hk; omega)
  omega
