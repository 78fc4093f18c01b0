def fhd (h : Nat → Nat) : Nat → Nat → Nat
  | 0, k => k
  | d + 1, k => if 0 < h k then k else fhd h d (k + 1)
def fh (h : Nat → Nat) : Nat := fhd h 34 0
theorem fhd_spec (h : Nat → Nat) : ∀ (d k : Nat), k ≤ fhd h d k ∧ fhd h d k ≤ k + d ∧ (∀ j, k ≤ j → j < fhd h d k → h j = 0) ∧ (fhd h d k < k + d → 0 < h (fhd h d k)) := by
  intro d
  induction d with
  | zero => intro k; exact ⟨Nat.le_refl _, Nat.le_refl _, fun j a b => absurd b (by show ¬ j < k; omega), fun z => absurd z (by show ¬ k < k + 0; omega)⟩
  | succ d ih =>
    intro k
    show k ≤ (if 0 < h k then k else fhd h d (k + 1)) ∧ (if 0 < h k then k else fhd h d (k + 1)) ≤ k + (d + 1) ∧ (∀ j, k ≤ j → j < (if 0 < h k then k else fhd h d (k + 1)) → h j = 0) ∧ ((if 0 < h k then k else fhd h d (k + 1)) < k + (d + 1) → 0 < h (if 0 < h k then k else fhd h d (k + 1)))
    by_cases e : 0 < h k
    · rw [if_pos e]; exact ⟨Nat.le_refl _, by omega, fun j a b => by omega, fun _ => e⟩
    · rw [if_neg e]
      obtain ⟨a, b, c, f⟩ := ih (k + 1)
      refine ⟨by omega, by omega, fun j x y => ?_, fun z => f (by omega)⟩
      by_cases q : j = k
      · subst q; omega
      · exact c j (by omega) y
theorem fh_le (h : Nat → Nat) : fh h ≤ 34 := by have := (fhd_spec h 34 0).2.1; unfold fh; omega
theorem fh_low (h : Nat → Nat) {j : Nat} (hj : j < fh h) : h j = 0 := (fhd_spec h 34 0).2.2.1 j (Nat.zero_le _) hj
theorem fh_pos (h : Nat → Nat) (hl : fh h < 34) : 0 < h (fh h) := (fhd_spec h 34 0).2.2.2 (by unfold fh at hl; omega)
theorem fh_is {h : Nat → Nat} {k : Nat} (h1 : ∀ j, j < k → h j = 0) (h2 : k = 34 ∨ k < 34 ∧ 0 < h k) : fh h = k := by
  have a := fh_le h
  rcases Nat.lt_trichotomy (fh h) k with e | e | e
  · have b := h1 _ e
    have c := fh_pos h (by omega)
    omega
  · exact e
  · have b := fh_low h e
    omega
def h3 (h : Nat → Nat) (k : Nat) : Nat → Nat := nup h k (h k - 3)
def hr (h : Nat → Nat) (k : Nat) : Nat → Nat := nup (nup (nup h k (h k - 1)) (k + 1) (h (k + 1) - 1)) (k + 2) (h (k + 2) - 1)
abbrev rowok (h : Nat → Nat) (k : Nat) : Prop := br k ∧ 0 < h (k + 1) ∧ 0 < h (k + 2)
def bsp (F : List Nat → Int) : Nat → (Nat → Nat) → List Nat → Int
  | 0, h, acc => if fh h = 34 then F acc else -1
  | n + 1, h, acc => if fh h = 34 then -1 else max (if 3 ≤ h (fh h) then bsp F n (h3 h (fh h)) (acc ++ [100 + fh h]) else -1) (if rowok h (fh h) then bsp F n (hr h (fh h)) (acc ++ [fh h]) else -1)
