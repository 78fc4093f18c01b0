def tmax (P : Nat → Nat → Prop) (X Y : Nat → Nat) : Prop := (∀ i, X i ≤ Y i) ∧ (∀ i v, P i v → v ≤ Y i) ∧ ∀ i, Y i = X i ∨ P i (Y i)
theorem tmax_nil {P : Nat → Nat → Prop} (X : Nat → Nat) (h : ∀ i v, ¬ P i v) : tmax P X X := ⟨fun _ => Nat.le_refl _, fun i v q => absurd q (h i v), fun _ => Or.inl rfl⟩
theorem tmax_one (X : Nat → Nat) (i0 v0 : Nat) : tmax (fun i v => i = i0 ∧ v = v0) X (nup X i0 (max (X i0) v0)) := by
  refine ⟨fun i => ?_, fun i v q => ?_, fun i => ?_⟩
  · by_cases e : i = i0
    · subst e; rw [nup_eq]; omega
    · rw [nup_ne _ _ e]; exact Nat.le_refl _
  · rw [q.1, nup_eq, q.2]; omega
  · by_cases e : i = i0
    · subst e
      rw [nup_eq]
      rcases Nat.le_total v0 (X i) with z | z
      · exact Or.inl (Nat.max_eq_left z)
      · exact Or.inr ⟨rfl, Nat.max_eq_right z⟩
    · exact Or.inl (nup_ne _ _ e)
theorem tmax_comp {P Q R : Nat → Nat → Prop} {X Y Z : Nat → Nat} (a : tmax P X Y) (b : tmax Q Y Z) (h : ∀ i v, R i v ↔ P i v ∨ Q i v) : tmax R X Z := by
  refine ⟨fun i => Nat.le_trans (a.1 i) (b.1 i), fun i v q => ?_, fun i => ?_⟩
  · rcases (h i v).mp q with q | q
    · exact Nat.le_trans (a.2.1 i v q) (b.1 i)
    · exact b.2.1 i v q
  · rcases b.2.2 i with e | e
    · rcases a.2.2 i with e2 | e2
      · exact Or.inl (e.trans e2)
      · exact Or.inr ((h _ _).mpr (Or.inl (by rw [e]; exact e2)))
    · exact Or.inr ((h _ _).mpr (Or.inr e))
theorem tmax_congr {P Q : Nat → Nat → Prop} {X Y : Nat → Nat} (a : tmax P X Y) (h : ∀ i v, Q i v ↔ P i v) : tmax Q X Y := ⟨a.1, fun i v q => a.2.1 i v ((h i v).mp q), fun i => (a.2.2 i).imp id (fun q => (h _ _).mpr q)⟩
/-- the last kinds' ROWs -/
def lst (f : Nat → Nat) (n : Nat) : Nat := match n with
  | 0 => 0
  | n + 1 => f n
theorem lst_shf (f : Nat → Nat) (n : Nat) : shf f n = lst f n := by cases n <;> rfl
theorem lst_shf2 (f : Nat → Nat) (n : Nat) : shf (shf f) n = lst (shf f) n := lst_shf (shf f) n
theorem wnt_congr {r t p r' t' p' : Nat → Nat} {k : Nat} (hr : ∀ j, j ≤ k → r j = r' j) (ht : t k = t' k) (hp : p k = p' k) : wnt r t p k = wnt r' t' p' k := by
  unfold wnt
  have e1 : shf r k = shf r' k := by cases k with
    | zero => rfl
    | succ k => exact hr k (by omega)
  have e2 : shf (shf r) k = shf (shf r') k := by cases k with
    | zero => rfl
    | succ k => cases k with
      | zero => rfl
      | succ k => exact hr k (by omega)
  rw [hr k (Nat.le_refl _), e1, e2, ht, hp]
theorem cst_le {h l r t p : Nat → Nat} {n : Nat} (q : vld l n r t p) : cst h n r t p ≤ 3 * grp n r t + 2 * sumN n p := by
  have e : cst h n r t p ≤ sumN n (fun k => r k + shf r k + shf (shf r) k + 3 * t k + 2 * p k) := sumN_le (fun k _ => by unfold wnt; omega)
  rw [sumN_add (fun k => r k + shf r k + shf (shf r) k + 3 * t k) (fun k => 2 * p k), sumN_add (fun k => r k + shf r k + shf (shf r) k) (fun k => 3 * t k), sumN_add (fun k => r k + shf r k) (shf (shf r)), sumN_add r (shf r), sumN_mul, sumN_mul] at e
  have e2 : sumN n (shf r) ≤ sumN n r := by
    cases n with
    | zero => exact Nat.le_refl _
    | succ n => rw [sumN_shf]; exact sumN_mono (by omega)
  have e3 : sumN n (shf (shf r)) ≤ sumN n (shf r) := by
    cases n with
    | zero => exact Nat.le_refl _
    | succ n => rw [sumN_shf]; exact sumN_mono (by omega)
  have e4 : grp n r t = sumN n r + sumN n t := sumN_add r t
  omega
theorem wnt0 (k : Nat) : wnt (fun _ => 0) (fun _ => 0) (fun _ => 0) k = 0 := by
  cases k with
  | zero => rfl
  | succ k => cases k with
    | zero => rfl
    | succ k => rfl
