/-! how the number of missing tiles moves (no melds) -/
abbrev zN : Nat → Nat := fun _ => 0
theorem sumN_lt {n : Nat} {f g : Nat → Nat} (q : sumN n f < sumN n g) : ∃ k, k < n ∧ f k < g k := by
  induction n with
  | zero => exact absurd q (Nat.lt_irrefl _)
  | succ n ih =>
    rw [sumN, sumN] at q
    by_cases e : f n < g n
    · exact ⟨n, by omega, e⟩
    · obtain ⟨k, a, b⟩ := ih (by omega)
      exact ⟨k, by omega, b⟩
theorem hld_le (h r t p : Nat → Nat) : hld h 34 r t p ≤ sumN 34 h := sumN_le (fun k _ => Nat.min_le_right _ _)
theorem prH_sum (h : Nat → Nat) : prH h ≤ sumN 34 h := by
  have e : 2 * sumN 34 (i2 h) + sumN 34 (i1 h) ≤ sumN 34 h := by
    rw [← sumN_mul, ← sumN_add]
    exact sumN_le (fun k _ => by unfold i2 i1; split <;> split <;> omega)
  unfold prH; omega
theorem orH_sum (h : Nat → Nat) : orH h ≤ sumN 34 h := by
  have e : ∀ n, sumN n (io h) + otw h n ≤ sumN n h := by
    intro n
    induction n with
    | zero => exact Nat.le_refl _
    | succ n ih =>
      rw [sumN, sumN, otw]
      have a : sumN n (io h) ≤ sumN n h := sumN_le (fun k _ => by unfold io; split <;> omega)
      by_cases c : outer n ∧ 1 < h n
      · rw [if_pos c]
        have : io h n = 1 := by unfold io; rw [if_pos ⟨c.1, by omega⟩]
        omega
      · rw [if_neg c]
        have : io h n ≤ h n := by unfold io; split <;> omega
        omega
  exact e 34
/-- thirteen tiles: one at least is missing -/
theorem isMt_pos {h : Nat → Nat} {v : Nat} (hs : sumN 34 h < 14) (a : isMt h zN 0 v) : 1 ≤ v := by
  obtain ⟨g, hg, e⟩ := a
  rw [if_pos rfl] at e
  have p1 := prH_sum h
  have p2 := orH_sum h
  obtain ⟨⟨r, t, p, g1, g2, g3, g4⟩, -⟩ := hg
  have s := hld_cst h 34 r t p
  rw [wnt_sum g1] at s
  have := hld_le h r t p
  omega
theorem sum_pt (φ : Nat → Nat → Nat) (h : Nat → Nat) {k : Nat} (hk : k < 34) (x : Nat) : sumN 34 (fun j => φ j (nup h k x j)) + φ k (h k) = sumN 34 (fun j => φ j (h j)) + φ k x := by
  have e : sumN 34 (fun j => φ j (nup h k x j)) = sumN 34 (nup (fun j => φ j (h j)) k (φ k x)) := by
    refine sumN_congr (fun j _ => ?_)
    by_cases q : j = k
    · subst q; rw [nup_eq, nup_eq]
    · rw [nup_ne _ _ q, nup_ne _ _ q]
  rw [e]
  exact sumN_nup (f := fun j => φ j (h j)) hk (φ k x)
theorem i2_pt (h : Nat → Nat) {k : Nat} (hk : k < 34) (x : Nat) : sumN 34 (i2 (nup h k x)) + (if 2 ≤ h k then 1 else 0) = sumN 34 (i2 h) + (if 2 ≤ x then 1 else 0) := sum_pt (fun _ y => if 2 ≤ y then 1 else 0) h hk x
theorem i1_pt (h : Nat → Nat) {k : Nat} (hk : k < 34) (x : Nat) : sumN 34 (i1 (nup h k x)) + (if h k = 1 then 1 else 0) = sumN 34 (i1 h) + (if x = 1 then 1 else 0) := sum_pt (fun _ y => if y = 1 then 1 else 0) h hk x
theorem io_pt (h : Nat → Nat) {k : Nat} (hk : k < 34) (x : Nat) : sumN 34 (io (nup h k x)) + (if outer k ∧ 0 < h k then 1 else 0) = sumN 34 (io h) + (if outer k ∧ 0 < x then 1 else 0) := sum_pt (fun j y => if outer j ∧ 0 < y then 1 else 0) h hk x
theorem otw_iff (h : Nat → Nat) : ∀ n, otw h n = 1 ↔ ∃ j, j < n ∧ outer j ∧ 1 < h j := by
  intro n
  induction n with
  | zero => exact ⟨fun z => absurd (show (0 : Nat) = 1 from z) (by decide), fun ⟨j, a, _⟩ => absurd a (by omega)⟩
  | succ n ih =>
    rw [otw]
    by_cases c : outer n ∧ 1 < h n
    · rw [if_pos c]; exact ⟨fun _ => ⟨n, by omega, c⟩, fun _ => rfl⟩
    · rw [if_neg c, ih]
      refine ⟨fun ⟨j, a, b⟩ => ⟨j, by omega, b⟩, fun ⟨j, a, b⟩ => ⟨j, ?_, b⟩⟩
      rcases Nat.lt_or_ge j n with q | q
      · exact q
      · have e : j = n := by omega
        subst e; exact absurd b c
theorem otw_of {h h' : Nat → Nat} (q : ∀ j, j < 34 → outer j → 1 < h j → 1 < h' j) : otw h 34 ≤ otw h' 34 := by
  have a := otw_le h 34
  rcases Nat.eq_zero_or_pos (otw h 34) with e | e
  · omega
  · obtain ⟨j, b1, b2, b3⟩ := (otw_iff h 34).mp (by omega)
    have := (otw_iff h' 34).mpr ⟨j, b1, b2, q j b1 b2 b3⟩
    omega
theorem cst_up (h r t p : Nat → Nat) {k : Nat} (hk : k < 34) : cst h 34 r t p ≤ cst (nup h k (h k + 1)) 34 r t p + 1 := by
  have e := sum_pt (fun j y => wnt r t p j - y) h hk (h k + 1)
  have e : cst (nup h k (h k + 1)) 34 r t p + (wnt r t p k - h k) = cst h 34 r t p + (wnt r t p k - (h k + 1)) := e
  omega
theorem prH_up (h : Nat → Nat) {k : Nat} (hk : k < 34) : prH (nup h k (h k + 1)) ≤ prH h + 1 := by
  have a := i2_pt h hk (h k + 1)
  have b := i1_pt h hk (h k + 1)
  unfold prH
  rcases (by omega : h k = 0 ∨ h k = 1 ∨ 2 ≤ h k) with c | c | c
  · rw [if_neg (by omega), if_neg (by omega)] at a
    rw [if_neg (by omega), if_pos (by omega)] at b
    omega
  · rw [if_neg (by omega), if_pos (by omega)] at a
    rw [if_pos (by omega), if_neg (by omega)] at b
    omega
  · rw [if_pos (by omega), if_pos (by omega)] at a
    rw [if_neg (by omega), if_neg (by omega)] at b
    omega
theorem orH_up (h : Nat → Nat) {k : Nat} (hk : k < 34) : orH (nup h k (h k + 1)) ≤ orH h + 1 := by
  have a := io_pt h hk (h k + 1)
  have b := otw_le (nup h k (h k + 1)) 34
  unfold orH
  by_cases c : 0 < h k
  · by_cases d : outer k
    · rw [if_pos ⟨d, c⟩, if_pos ⟨d, by omega⟩] at a; omega
    · rw [if_neg (fun z => d z.1), if_neg (fun z => d z.1)] at a; omega
  · have e : otw (nup h k (h k + 1)) 34 ≤ otw h 34 := otw_of (fun j hj ho hl => by
      by_cases q : j = k
      · subst q; rw [nup_eq] at hl; omega
      · rw [nup_ne _ _ q] at hl; exact hl)
    by_cases d : outer k
    · rw [if_neg (fun z => c z.2), if_pos ⟨d, by omega⟩] at a; omega
    · rw [if_neg (fun z => d z.1), if_neg (fun z => d z.1)] at a; omega
/-- a tile more: one less is missing at most -/
theorem isMt_up {h : Nat → Nat} {k v w : Nat} (hk : k < 34) (a : isMt h zN 0 v) (b : isMt (nup h k (h k + 1)) zN 0 w) : v ≤ w + 1 := by
  obtain ⟨g, hg, e⟩ := a
  obtain ⟨g', hg', e'⟩ := b
  rw [if_pos rfl] at e e'
  have q : g ≤ g' + 1 := by
    obtain ⟨⟨r, t, p, c1, c2, c3, c4⟩, -⟩ := hg'
    have d := hg.2 r t p c1 c2 c3
    have := cst_up h r t p hk
    omega
  have q2 := prH_up h hk
  have q3 := orH_up h hk
  have q4 := prH_le h
  have q5 := orH_le h
  omega
theorem prH_keep {h : Nat → Nat} (hs : sumN 34 h = 14) (hv : prH h < 14) : ∃ k, k < 34 ∧ 0 < h k ∧ prH h ≤ prH (dn h k) := by
  by_cases c : ∃ k, k < 34 ∧ 3 ≤ h k
  · obtain ⟨k, hk, hc⟩ := c
    refine ⟨k, hk, by omega, ?_⟩
    have a := i2_pt h hk (h k - 1)
    have b := i1_pt h hk (h k - 1)
    rw [if_pos (by omega), if_pos (by omega)] at a
    rw [if_neg (by omega), if_neg (by omega)] at b
    unfold prH dn
    omega
  · have c2 : ∀ k, k < 34 → h k ≤ 2 := fun k hk => by
      rcases Nat.lt_or_ge 2 (h k) with q | q
      · exact absurd ⟨k, hk, q⟩ c
      · exact q
    have e : 2 * sumN 34 (i2 h) + sumN 34 (i1 h) = 14 := by
      rw [← hs, ← sumN_mul, ← sumN_add]
      exact sumN_congr (fun k hk => by have := c2 k hk; unfold i2 i1; split <;> split <;> omega)
    unfold prH at hv
    have f : 0 < sumN 34 (i1 h) := by omega
    obtain ⟨k, hk, q⟩ := sumN_lt (n := 34) (f := fun _ => 0) (g := i1 h) (by rw [sumN_zero (fun _ _ => rfl)]; exact f)
    have h1 : h k = 1 := by
      have q : 0 < i1 h k := q
      unfold i1 at q
      split at q
      · assumption
      · exact absurd q (Nat.lt_irrefl _)
    refine ⟨k, hk, by omega, ?_⟩
    have a := i2_pt h hk (h k - 1)
    have b := i1_pt h hk (h k - 1)
    rw [if_neg (by omega), if_neg (by omega)] at a
    rw [if_pos (by omega), if_neg (by omega)] at b
    unfold prH dn
    omega
theorem orH_keep {h : Nat → Nat} (hs : sumN 34 h = 14) (hv : orH h < 14) : ∃ k, k < 34 ∧ 0 < h k ∧ orH h ≤ orH (dn h k) := by
  by_cases c : ∃ k, k < 34 ∧ 0 < h k ∧ ¬ outer k
  · obtain ⟨k, hk, hc, ho⟩ := c
    refine ⟨k, hk, hc, ?_⟩
    have a := io_pt h hk (h k - 1)
    rw [if_neg (fun z => ho z.1), if_neg (fun z => ho z.1)] at a
    have b : otw h 34 ≤ otw (dn h k) 34 := otw_of (fun j hj hoj hl => by
      unfold dn
      by_cases q : j = k
      · subst q; exact absurd hoj ho
      · rw [nup_ne _ _ q]; exact hl)
    unfold orH
    have a : sumN 34 (io (dn h k)) + 0 = sumN 34 (io h) + 0 := a
    omega
  · have c1 : ∀ k, k < 34 → 0 < h k → outer k := fun k hk hp => by
      by_cases q : outer k
      · exact q
      · exact absurd ⟨k, hk, hp, q⟩ c
    by_cases d : ∃ k, k < 34 ∧ 3 ≤ h k
    · obtain ⟨k, hk, hc⟩ := d
      have ho := c1 k hk (by omega)
      refine ⟨k, hk, by omega, ?_⟩
      have a := io_pt h hk (h k - 1)
      rw [if_pos ⟨ho, by omega⟩, if_pos ⟨ho, by omega⟩] at a
      have a : sumN 34 (io (dn h k)) + 1 = sumN 34 (io h) + 1 := a
      have b : otw (dn h k) 34 = 1 := (otw_iff _ 34).mpr ⟨k, hk, ho, by unfold dn; rw [nup_eq]; omega⟩
      have b2 := otw_le h 34
      unfold orH
      omega
    · have d2 : ∀ k, k < 34 → h k ≤ 2 := fun k hk => by
        rcases Nat.lt_or_ge 2 (h k) with q | q
        · exact absurd ⟨k, hk, q⟩ d
        · exact q
      have s13 := io13 h
      obtain ⟨k, hk, q⟩ := sumN_lt (n := 34) (f := io h) (g := h) (by omega)
      have hp : 0 < h k := by omega
      have ho := c1 k hk hp
      have h2 : h k = 2 := by
        unfold io at q
        rw [if_pos ⟨ho, hp⟩] at q
        have := d2 k hk
        omega
      have t1 : otw h 34 = 1 := (otw_iff _ 34).mpr ⟨k, hk, ho, by omega⟩
      unfold orH at hv
      refine ⟨k, hk, hp, ?_⟩
      have a := io_pt h hk (h k - 1)
      rw [if_pos ⟨ho, by omega⟩, if_pos ⟨ho, by omega⟩] at a
      have a : sumN 34 (io (dn h k)) + 1 = sumN 34 (io h) + 1 := a
      have s1 : sumN 34 (dn h k) + 1 = sumN 34 h := sum_dn hk hp
      obtain ⟨j, hj, q2⟩ := sumN_lt (n := 34) (f := io (dn h k)) (g := dn h k) (by omega)
      have hj1 : dn h k j ≤ h j := dn_le h k j hj
      have oj := c1 j hj (by omega)
      have t2 : otw (dn h k) 34 = 1 := (otw_iff _ 34).mpr ⟨j, hj, oj, by
        unfold io at q2
        rw [if_pos ⟨oj, by omega⟩] at q2
        exact q2⟩
      unfold orH
      omega
/-- fourteen tiles, of which some are not wanted: one of them can go -/
theorem isMt_keep {h : Nat → Nat} {v : Nat} (hs : sumN 34 h = 14) (hv : 1 ≤ v) (a : isMt h zN 0 v) : ∃ k, k < 34 ∧ 0 < h k ∧ ∀ w, isMt (dn h k) zN 0 w → w ≤ v := by
  obtain ⟨g, hg, e⟩ := a
  rw [if_pos rfl] at e
  rcases (by omega : v = g ∨ v = 14 - prH h ∨ v = 14 - orH h) with c | c | c
  · obtain ⟨⟨r, t, p, c1, c2, c3, c4⟩, -⟩ := hg
    have s := hld_cst h 34 r t p
    rw [wnt_sum c1] at s
    have hlt : hld h 34 r t p < sumN 34 h := by omega
    obtain ⟨k, hk, hl⟩ := sumN_lt (n := 34) (f := fun k => min (wnt r t p k) (h k)) (g := h) hlt
    have hl : min (wnt r t p k) (h k) < h k := hl
    refine ⟨k, hk, by omega, fun w hw => ?_⟩
    obtain ⟨g', hg', e'⟩ := hw
    rw [if_pos rfl] at e'
    have d := hg'.2 r t p c1 c2 c3
    have : cst (dn h k) 34 r t p = cst h 34 r t p := sumN_congr (fun j _ => by
      unfold dn
      by_cases q : j = k
      · subst q; rw [nup_eq]; omega
      · rw [nup_ne _ _ q])
    omega
  · obtain ⟨k, hk, hp, hq⟩ := prH_keep hs (by omega)
    exact ⟨k, hk, hp, fun w hw => by obtain ⟨g', hg', e'⟩ := hw; rw [if_pos rfl] at e'; omega⟩
  · obtain ⟨k, hk, hp, hq⟩ := orH_keep hs (by omega)
    exact ⟨k, hk, hp, fun w hw => by obtain ⟨g', hg', e'⟩ := hw; rw [if_pos rfl] at e'; omega⟩
/-! complete: nothing is missing -/
theorem shf_nup (r : Nat → Nat) (k v : Nat) : shf (nup r k v) = nup (shf r) (k + 1) v := by
  funext j
  cases j with
  | zero => rw [nup_ne _ _ (by omega)]; rfl
  | succ j =>
    show nup r k v j = _
    by_cases e : j = k
    · subst e; rw [nup_eq, nup_eq]
    · rw [nup_ne _ _ e, nup_ne _ _ (by omega)]; rfl
theorem wnt_r (r t p : Nat → Nat) (k j : Nat) : wnt (nup r k (r k + 1)) t p j = if j = k ∨ j = k + 1 ∨ j = k + 2 then wnt r t p j + 1 else wnt r t p j := by
  unfold wnt
  rw [shf_nup, shf_nup]
  by_cases a : j = k
  · subst a
    rw [if_pos (Or.inl rfl), nup_eq, nup_ne _ _ (by omega), nup_ne _ _ (by omega)]; omega
  · by_cases b : j = k + 1
    · subst b
      rw [if_pos (Or.inr (Or.inl rfl)), nup_eq, nup_ne _ _ (by omega), nup_ne _ _ (by omega)]
      show r (k + 1) + (r k + 1) + shf (shf r) (k + 1) + 3 * t (k + 1) + 2 * p (k + 1) = r (k + 1) + r k + shf (shf r) (k + 1) + 3 * t (k + 1) + 2 * p (k + 1) + 1
      omega
    · by_cases c : j = k + 2
      · subst c
        rw [if_pos (Or.inr (Or.inr rfl)), nup_eq, nup_ne _ _ (by omega), nup_ne _ _ (by omega)]
        show r (k + 2) + shf r (k + 2) + (r k + 1) + 3 * t (k + 2) + 2 * p (k + 2) = r (k + 2) + shf r (k + 2) + r k + 3 * t (k + 2) + 2 * p (k + 2) + 1
        omega
      · rw [if_neg (by omega), nup_ne _ _ a, nup_ne _ _ b, nup_ne _ _ c]
theorem grp_r (r t : Nat → Nat) {k : Nat} (hk : k < 34) : grp 34 (nup r k (r k + 1)) t = grp 34 r t + 1 := by
  have e1 : grp 34 (nup r k (r k + 1)) t = sumN 34 (nup r k (r k + 1)) + sumN 34 t := sumN_add _ _
  have e2 : grp 34 r t = sumN 34 r + sumN 34 t := sumN_add r t
  have := sumN_nup (f := r) hk (r k + 1)
  omega
theorem grp_t (r t : Nat → Nat) {k : Nat} (hk : k < 34) : grp 34 r (nup t k (t k + 1)) = grp 34 r t + 1 := by
  have e1 : grp 34 r (nup t k (t k + 1)) = sumN 34 r + sumN 34 (nup t k (t k + 1)) := sumN_add _ _
  have e2 : grp 34 r t = sumN 34 r + sumN 34 t := sumN_add r t
  have := sumN_nup (f := t) hk (t k + 1)
  omega
theorem bsp_arr {F : List Nat → Int} : ∀ (n : Nat) (h : Nat → Nat) (acc : List Nat), ¬ bsp F n h acc = -1 → ∃ r t, (∀ j, j < 34 → wnt r t zN j = h j) ∧ (∀ j, j < 34 → 0 < r j → br j) ∧ grp 34 r t = n := by
  intro n
  induction n with
  | zero =>
    intro h acc q
    simp only [bsp] at q
    by_cases e : fh h = 34
    · refine ⟨zN, zN, fun j hj => ?_, fun j _ z => absurd z (Nat.lt_irrefl 0), ?_⟩
      · rw [fh_low h (by omega)]; exact wnt0 j
      · exact sumN_zero (fun _ _ => rfl)
    · rw [if_neg e] at q; exact absurd rfl q
  | succ n ih =>
    intro h acc q
    simp only [bsp] at q
    by_cases e : fh h = 34
    · rw [if_pos e] at q; exact absurd rfl q
    · rw [if_neg e] at q
      have hk : fh h < 34 := by have := fh_le h; omega
      have hp := fh_pos h hk
      generalize fh h = k at *
      by_cases c1 : 3 ≤ h k ∧ ¬ bsp F n (h3 h k) (acc ++ [100 + k]) = -1
      · obtain ⟨r, t, a1, a2, a3⟩ := ih _ _ c1.2
        refine ⟨r, nup t k (t k + 1), fun j hj => ?_, a2, by rw [grp_t r t hk, a3]⟩
        have b := a1 j hj
        unfold h3 at b
        rw [wnt_t]
        by_cases ej : j = k
        · subst ej
          rw [nup_eq] at b
          rw [if_pos rfl]
          have c0 : 3 * t j ≤ wnt r t zN j := by unfold wnt; omega
          omega
        · rw [nup_ne _ _ ej] at b
          rw [if_neg ej]; exact b
      · by_cases c2 : rowok h k ∧ ¬ bsp F n (hr h k) (acc ++ [k]) = -1
        · obtain ⟨r, t, a1, a2, a3⟩ := ih _ _ c2.2
          obtain ⟨⟨k27, k9⟩, q1, q2⟩ := c2.1
          refine ⟨nup r k (r k + 1), t, fun j hj => ?_, fun j hj z => ?_, by rw [grp_r r t hk, a3]⟩
          · have b := a1 j hj
            rw [hr_at] at b
            rw [wnt_r]
            by_cases ej : j = k ∨ j = k + 1 ∨ j = k + 2
            · rw [if_pos ej] at b ⊢
              have : 0 < h j := by rcases ej with x | x | x <;> subst x <;> assumption
              omega
            · rw [if_neg ej] at b ⊢; exact b
          · by_cases ej : j = k
            · subst ej; exact ⟨k27, k9⟩
            · rw [nup_ne _ _ ej] at z; exact a2 j hj z
        · exfalso
          apply q
          have x1 : (if 3 ≤ h k then bsp F n (h3 h k) (acc ++ [100 + k]) else -1) = -1 := by
            by_cases y : 3 ≤ h k
            · rw [if_pos y]
              by_cases y2 : bsp F n (h3 h k) (acc ++ [100 + k]) = -1
              · exact y2
              · exact absurd ⟨y, y2⟩ c1
            · rw [if_neg y]
          have x2 : (if rowok h k then bsp F n (hr h k) (acc ++ [k]) else -1) = -1 := by
            by_cases y : rowok h k
            · rw [if_pos y]
              by_cases y2 : bsp F n (hr h k) (acc ++ [k]) = -1
              · exact y2
              · exact absurd ⟨y, y2⟩ c2
            · rw [if_neg y]
          rw [x1, x2]; rfl
theorem gmx_some {sw rw : Nat} {σ κ h : Nat → Nat} : ∀ n, ¬ gmx sw rw 0 σ κ h n = -1 → ∃ k, k < n ∧ 2 ≤ h k ∧ ∃ F : List Nat → Int, ¬ bsp F 4 (nup h k (h k - 2)) [] = -1 := by
  intro n
  induction n with
  | zero => intro q; exact absurd rfl q
  | succ n ih =>
    intro q
    by_cases a : gmx sw rw 0 σ κ h n = -1
    · rw [gmx, a] at q
      by_cases b : 2 ≤ h n
      · rw [if_pos b] at q
        refine ⟨n, by omega, b, FF sw rw 0 σ κ n, fun z => q ?_⟩
        rw [show (4 : Nat) - 0 = 4 from rfl, z]; rfl
      · rw [if_neg b] at q; exact absurd rfl q
    · obtain ⟨k, c1, c2⟩ := ih a
      exact ⟨k, by omega, c2⟩
theorem arr_miss {sw rw : Nat} {σ κ h : Nat → Nat} {v : Nat} (hs : sumN 34 h = 14) (h4 : ∀ k, k < 34 → h k ≤ 4) (a : ¬ arr sw rw 0 σ κ h = -1) (b : isMt h zN 0 v) : v = 0 := by
  obtain ⟨g, hg, e⟩ := b
  rw [if_pos rfl] at e
  by_cases p1 : prH h = 14
  · omega
  · by_cases p2 : orH h = 14
    · omega
    · unfold arr at a
      rw [if_pos (by omega), if_neg (fun z => p1 z.2), if_neg (fun z => p2 z.2)] at a
      have c : ¬ gmx sw rw 0 σ κ h 34 = -1 := fun z => a (by rw [z]; rfl)
      obtain ⟨k, hk, h2, F, hb⟩ := gmx_some 34 c
      obtain ⟨r, t, a1, a2, a3⟩ := bsp_arr 4 _ _ hb
      have key : ∀ j, j < 34 → wnt r t (nup zN k 1) j = h j := fun j hj => by
        have b := a1 j hj
        rw [wnt_p]
        by_cases ej : j = k
        · subst ej
          rw [nup_eq] at b
          rw [if_pos rfl]
          show wnt r t zN j - 2 * 0 + 2 * 1 = h j
          omega
        · rw [nup_ne _ _ ej] at b
          rw [if_neg ej]; exact b
      have hv : vld zN 34 r t (nup zN k 1) := fun j hj => by
        have b := key j hj
        have b4 := h4 j hj
        refine ⟨by show wnt r t (nup zN k 1) j + 0 ≤ 4; omega, a2 j hj, ?_, ?_⟩
        · unfold wnt at b; omega
        · by_cases ej : j = k
          · subst ej; rw [nup_eq]; omega
          · rw [nup_ne _ _ ej]; exact Nat.zero_le _
      have d := hg.2 r t (nup zN k 1) hv (by omega) (by
        have := sumN_nup (f := zN) hk 1
        rw [sumN_zero (f := zN) (fun _ _ => rfl)] at this
        have : sumN 34 (nup zN k 1) + 0 = 0 + 1 := this
        omega)
      have : cst h 34 r t (nup zN k 1) = 0 := sumN_zero (fun j hj => by rw [key j hj]; omega)
      omega
