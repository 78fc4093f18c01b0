/-! how a hand is split into groups: by recursion (the class), by the bits of a number (the reference) -/
def fhd (h : Nat → Nat) : Nat → Nat → Nat
  | 0, k => k
  | d + 1, k => if 0 < h k then k else fhd h d (k + 1)
def fh (h : Nat → Nat) : Nat := fhd h 34 0
theorem fhd_spec (h : Nat → Nat) : ∀ (d k : Nat), k ≤ fhd h d k ∧ fhd h d k ≤ k + d ∧ (∀ j, k ≤ j → j < fhd h d k → h j = 0) ∧ (fhd h d k < k + d → 0 < h (fhd h d k)) := by
  intro d
  induction d with
  | zero => intro k; exact ⟨Nat.le_refl _, Nat.le_refl _, fun j a b => absurd b (by show ¬ j < k; omega), fun z => absurd z (by show ¬ k < k + 0; omega)⟩
  | succ d ih =>
    intro k
    show k ≤ (if 0 < h k then k else fhd h d (k + 1)) ∧ (if 0 < h k then k else fhd h d (k + 1)) ≤ k + (d + 1) ∧ (∀ j, k ≤ j → j < (if 0 < h k then k else fhd h d (k + 1)) → h j = 0) ∧ ((if 0 < h k then k else fhd h d (k + 1)) < k + (d + 1) → 0 < h (if 0 < h k then k else fhd h d (k + 1)))
    by_cases e : 0 < h k
    · rw [if_pos e]; exact ⟨Nat.le_refl _, by omega, fun j a b => by omega, fun _ => e⟩
    · rw [if_neg e]
      obtain ⟨a, b, c, f⟩ := ih (k + 1)
      refine ⟨by omega, by omega, fun j x y => ?_, fun z => f (by omega)⟩
      by_cases q : j = k
      · subst q; omega
      · exact c j (by omega) y
theorem fh_le (h : Nat → Nat) : fh h ≤ 34 := by have := (fhd_spec h 34 0).2.1; unfold fh; omega
theorem fh_low (h : Nat → Nat) {j : Nat} (hj : j < fh h) : h j = 0 := (fhd_spec h 34 0).2.2.1 j (Nat.zero_le _) hj
theorem fh_pos (h : Nat → Nat) (hl : fh h < 34) : 0 < h (fh h) := (fhd_spec h 34 0).2.2.2 (by unfold fh at hl; omega)
theorem fh_is {h : Nat → Nat} {k : Nat} (h1 : ∀ j, j < k → h j = 0) (h2 : k = 34 ∨ k < 34 ∧ 0 < h k) : fh h = k := by
  have a := fh_le h
  rcases Nat.lt_trichotomy (fh h) k with e | e | e
  · have b := h1 _ e
    have c := fh_pos h (by omega)
    omega
  · exact e
  · have b := fh_low h e
    omega
def h3 (h : Nat → Nat) (k : Nat) : Nat → Nat := nup h k (h k - 3)
def hr (h : Nat → Nat) (k : Nat) : Nat → Nat := nup (nup (nup h k (h k - 1)) (k + 1) (h (k + 1) - 1)) (k + 2) (h (k + 2) - 1)
abbrev rowok (h : Nat → Nat) (k : Nat) : Prop := br k ∧ 0 < h (k + 1) ∧ 0 < h (k + 2)
def bsp (F : List Nat → Int) : Nat → (Nat → Nat) → List Nat → Int
  | 0, h, acc => if fh h = 34 then F acc else -1
  | n + 1, h, acc => if fh h = 34 then -1 else max (if 3 ≤ h (fh h) then bsp F n (h3 h (fh h)) (acc ++ [100 + fh h]) else -1) (if rowok h (fh h) then bsp F n (hr h (fh h)) (acc ++ [fh h]) else -1)
def ctp : Nat → Nat → (Nat → Nat) → List Nat → Option (List Nat)
  | 0, _, h, acc => if fh h = 34 then some acc else none
  | n + 1, bits, h, acc => if fh h = 34 then none else if bits % 2 = 1 then (if rowok h (fh h) then ctp n (bits / 2) (hr h (fh h)) (acc ++ [fh h]) else none) else (if 3 ≤ h (fh h) then ctp n (bits / 2) (h3 h (fh h)) (acc ++ [100 + fh h]) else none)
theorem bsp_ge {F : List Nat → Int} : ∀ (n bits : Nat) (h : Nat → Nat) (acc g : List Nat), ctp n bits h acc = some g → F g ≤ bsp F n h acc := by
  intro n
  induction n with
  | zero =>
    intro bits h acc g q
    simp only [ctp] at q
    simp only [bsp]
    by_cases e : fh h = 34
    · rw [if_pos e] at q ⊢; cases q; exact Int.le_refl _
    · rw [if_neg e] at q; cases q
  | succ n ih =>
    intro bits h acc g q
    simp only [ctp] at q
    simp only [bsp]
    by_cases e : fh h = 34
    · rw [if_pos e] at q; cases q
    · rw [if_neg e] at q ⊢
      by_cases b : bits % 2 = 1
      · rw [if_pos b] at q
        by_cases r : rowok h (fh h)
        · rw [if_pos r] at q
          have := ih _ _ _ _ q
          rw [if_pos r]
          exact Int.le_trans this (Int.le_max_right _ _)
        · rw [if_neg r] at q; cases q
      · rw [if_neg b] at q
        by_cases r : 3 ≤ h (fh h)
        · rw [if_pos r] at q
          have := ih _ _ _ _ q
          rw [if_pos r]
          exact Int.le_trans this (Int.le_max_left _ _)
        · rw [if_neg r] at q; cases q
theorem bsp_at {F : List Nat → Int} : ∀ (n : Nat) (h : Nat → Nat) (acc : List Nat), bsp F n h acc = -1 ∨ ∃ bits g, bits < 2 ^ n ∧ ctp n bits h acc = some g ∧ F g = bsp F n h acc := by
  intro n
  induction n with
  | zero =>
    intro h acc
    simp only [bsp, ctp]
    by_cases e : fh h = 34
    · rw [if_pos e]; exact Or.inr ⟨0, acc, by decide, if_pos e, rfl⟩
    · rw [if_neg e]; exact Or.inl rfl
  | succ n ih =>
    intro h acc
    simp only [bsp, ctp]
    by_cases e : fh h = 34
    · rw [if_pos e]; exact Or.inl rfl
    · rw [if_neg e]
      have p1 : (if 3 ≤ h (fh h) then bsp F n (h3 h (fh h)) (acc ++ [100 + fh h]) else -1) = -1 ∨ ∃ bits g, bits < 2 ^ (n + 1) ∧ (if fh h = 34 then none else if bits % 2 = 1 then (if rowok h (fh h) then ctp n (bits / 2) (hr h (fh h)) (acc ++ [fh h]) else none) else (if 3 ≤ h (fh h) then ctp n (bits / 2) (h3 h (fh h)) (acc ++ [100 + fh h]) else none)) = some g ∧ F g = (if 3 ≤ h (fh h) then bsp F n (h3 h (fh h)) (acc ++ [100 + fh h]) else -1) := by
        by_cases r : 3 ≤ h (fh h)
        · rw [if_pos r]
          rcases ih (h3 h (fh h)) (acc ++ [100 + fh h]) with q | ⟨bits, g, q1, q2, q3⟩
          · exact Or.inl q
          · refine Or.inr ⟨2 * bits, g, by rw [Nat.pow_succ]; omega, ?_, q3⟩
            rw [if_neg e, if_neg (by omega), if_pos r, show 2 * bits / 2 = bits by omega]
            exact q2
        · rw [if_neg r]; exact Or.inl rfl
      have p2 : (if rowok h (fh h) then bsp F n (hr h (fh h)) (acc ++ [fh h]) else -1) = -1 ∨ ∃ bits g, bits < 2 ^ (n + 1) ∧ (if fh h = 34 then none else if bits % 2 = 1 then (if rowok h (fh h) then ctp n (bits / 2) (hr h (fh h)) (acc ++ [fh h]) else none) else (if 3 ≤ h (fh h) then ctp n (bits / 2) (h3 h (fh h)) (acc ++ [100 + fh h]) else none)) = some g ∧ F g = (if rowok h (fh h) then bsp F n (hr h (fh h)) (acc ++ [fh h]) else -1) := by
        by_cases r : rowok h (fh h)
        · rw [if_pos r]
          rcases ih (hr h (fh h)) (acc ++ [fh h]) with q | ⟨bits, g, q1, q2, q3⟩
          · exact Or.inl q
          · refine Or.inr ⟨2 * bits + 1, g, by rw [Nat.pow_succ]; omega, ?_, q3⟩
            rw [if_neg e, if_pos (by omega), if_pos r, show (2 * bits + 1) / 2 = bits by omega]
            exact q2
        · rw [if_neg r]; exact Or.inl rfl
      generalize (if 3 ≤ h (fh h) then bsp F n (h3 h (fh h)) (acc ++ [100 + fh h]) else -1) = x at p1 ⊢
      generalize (if rowok h (fh h) then bsp F n (hr h (fh h)) (acc ++ [fh h]) else -1) = y at p2 ⊢
      by_cases xy : y ≤ x
      · rw [show max x y = x by omega]
        rcases p1 with z | ⟨bits, g, z1, z2, z3⟩
        · exact Or.inl z
        · exact Or.inr ⟨bits, g, z1, z2, z3⟩
      · rw [show max x y = y by omega]
        rcases p2 with z | ⟨bits, g, z1, z2, z3⟩
        · exact Or.inl z
        · exact Or.inr ⟨bits, g, z1, z2, z3⟩
