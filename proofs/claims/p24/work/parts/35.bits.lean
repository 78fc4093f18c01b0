theorem bv_and1 (w : Nat) (hw : 1 < w) (x : BitVec w) : (x &&& 1#w = 1#w ↔ x.getLsbD 0 = true) ∧ (x &&& 1#w = 0#w ↔ x.getLsbD 0 = false) := by
  have e : (1#w).toNat = 1 := by rw [BitVec.toNat_ofNat]; exact Nat.mod_eq_of_lt (Nat.one_lt_two_pow (by omega))
  have g : x.getLsbD 0 = decide (x.toNat % 2 = 1) := by
    unfold BitVec.getLsbD
    rw [Nat.testBit_zero]
  have m : (x &&& 1#w).toNat = x.toNat % 2 := by rw [BitVec.toNat_and, e, Nat.and_one_is_mod]
  refine ⟨?_, ?_⟩
  · rw [← BitVec.toNat_inj, m, e, g, decide_eq_true_iff]
  · rw [← BitVec.toNat_inj, m, g, decide_eq_false_iff_not]
    rw [show (0#w).toNat = 0 by rw [BitVec.toNat_ofNat]; exact Nat.zero_mod _]
    omega
theorem sh64 : ∀ c : Fin 34, (((iI (c.val : Int)).toInt64 &&& 63).toBitVec.smod 64).toNat = c.val := by decide
theorem bit64 (x : Int64) {c : Nat} (hc : c < 34) : ((x >>> ((iI (c : Int)).toInt64 &&& 63)) &&& (1 : Int64) = (1 : Int64) ↔ x.toBitVec.getLsbD c = true) ∧ ((x >>> ((iI (c : Int)).toInt64 &&& 63)) &&& (1 : Int64) = (0 : Int64) ↔ x.toBitVec.getLsbD c = false) := by
  rw [← Int64.toBitVec_inj, ← Int64.toBitVec_inj, Int64.toBitVec_and, Int64.toBitVec_shiftRight]
  have := bv_and1 64 (by omega) (x.toBitVec.sshiftRight' (((iI (c : Int)).toInt64 &&& 63).toBitVec.smod 64))
  have e := sh64 ⟨c, hc⟩
  rw [BitVec.getLsbD_sshiftRight', e, Nat.add_zero, if_pos (show c < 64 by omega)] at this
  rw [show (!decide (64 ≤ 0) && x.toBitVec.getLsbD c) = x.toBitVec.getLsbD c by rw [show decide (64 ≤ 0) = false by decide]; rfl] at this
  exact this
theorem one64 : (1 : Int64).toBitVec = 1#64 := by decide
theorem set64 (x : Int64) {b c : Nat} (hb : b < 34) (hc : c < 34) : (x ||| ((1 : Int64) <<< ((iI (b : Int)).toInt64 &&& 63))).toBitVec.getLsbD c = true ↔ x.toBitVec.getLsbD c = true ∨ c = b := by
  rw [Int64.toBitVec_or, Int64.toBitVec_shiftLeft, BitVec.getLsbD_or, one64, BitVec.getLsbD_shiftLeft', sh64 ⟨b, hb⟩, BitVec.getLsbD_one]
  have e1 : (decide (c < 64) && !decide (c < b) && (decide (0 < 64) && decide (c - b = 0))) = decide (c = b) := by
    rcases Nat.lt_trichotomy c b with q | q | q
    · rw [decide_eq_true q, decide_eq_false (show ¬ c = b by omega)]; simp
    · subst q; rw [decide_eq_true (show c < 64 by omega)]; simp
    · rw [decide_eq_false (show ¬ c - b = 0 by omega), decide_eq_false (show ¬ c = b by omega)]; simp
  rw [e1, Bool.or_eq_true, decide_eq_true_eq]
theorem bit0_64 (c : Nat) : (0 : Int64).toBitVec.getLsbD c = false := by
  rw [show (0 : Int64).toBitVec = 0#64 by decide, BitVec.getLsbD_zero]
/-- a set of kinds, gathered from below -/
noncomputable def wst (P : Nat → Prop) : Nat → Int64
  | 0 => 0
  | n + 1 => @ite _ (P n) (Classical.propDecidable _) (wst P n ||| ((1 : Int64) <<< ((iI (n : Int)).toInt64 &&& 63))) (wst P n)
theorem wst_y {P : Nat → Prop} {n : Nat} (h : P n) : wst P (n + 1) = wst P n ||| ((1 : Int64) <<< ((iI (n : Int)).toInt64 &&& 63)) := by rw [wst, if_pos h]
theorem wst_n {P : Nat → Prop} {n : Nat} (h : ¬ P n) : wst P (n + 1) = wst P n := by rw [wst, if_neg h]
theorem wst_bit (P : Nat → Prop) : ∀ n, n ≤ 34 → ∀ c, c < 34 → ((wst P n).toBitVec.getLsbD c = true ↔ c < n ∧ P c) := by
  intro n
  induction n with
  | zero => intro _ c _; rw [wst, bit0_64]; exact ⟨fun z => (by cases z), fun z => absurd z.1 (by omega)⟩
  | succ n ih =>
    intro hn c hc
    have i := ih (by omega) c hc
    by_cases e : P n
    · rw [wst_y e, set64 _ (by omega) hc, i]
      refine ⟨fun z => ?_, fun z => ?_⟩
      · rcases z with z | z
        · exact ⟨by omega, z.2⟩
        · subst z; exact ⟨by omega, e⟩
      · by_cases q : c = n
        · exact Or.inr q
        · exact Or.inl ⟨by omega, z.2⟩
    · rw [wst_n e, i]
      refine ⟨fun z => ⟨by omega, z.2⟩, fun z => ⟨?_, z.2⟩⟩
      have : c ≠ n := fun q => e (q ▸ z.2)
      omega
