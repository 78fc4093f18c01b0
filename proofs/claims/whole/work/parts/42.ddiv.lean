/-! a quotient of whole numbers is a number -/
section DDIV
def dOK : FP.Core.Datum → Prop
  | .nan => False
  | .inf _ => True
  | .fin _ c q => c < 2 ^ 53 ∧ q ≤ 971
theorem enc_ok : ∀ d, dOK d → FP.Core.encode FP.Core.b64 d % 2 ^ 63 ≤ 9218868437227405312 := by
  intro d hd
  have et : FP.Core.b64.tails = 4503599627370496 := by decide
  have ee : FP.Core.b64.exps = 2048 := by decide
  have eq : FP.Core.b64.qmin = -1074 := by decide
  cases d with
  | nan => exact absurd hd id
  | inf s =>
    unfold FP.Core.encode FP.Core.assemble
    rw [et, ee]
    cases s <;> decide
  | fin s c q =>
    obtain ⟨h1, h2⟩ := hd
    unfold FP.Core.encode FP.Core.assemble
    simp only
    rw [et, ee, eq]
    split
    · cases s <;> simp only [Bool.toNat_true, Bool.toNat_false] <;> omega
    · cases s <;> simp only [Bool.toNat_true, Bool.toNat_false] <;> omega
theorem bound_ok {s : Bool} {c : Nat} {q : Int} (h : c < 2 ^ 53) : dOK (FP.Core.bound FP.Core.b64 s c q) := by
  have e : FP.Core.b64.qmax = 971 := by decide
  unfold FP.Core.bound
  rw [e]
  split
  · exact ⟨h, by assumption⟩
  · exact trivial
theorem ratio_ok (s : Bool) (num den : Nat) (e : Int) : dOK (FP.Core.roundRatio FP.Core.b64 s num den e) := by
  have ep : FP.Core.b64.p = 53 := rfl
  have et : FP.Core.b64.tails = 4503599627370496 := by decide
  have eq : FP.Core.b64.qmin = -1074 := by decide
  unfold FP.Core.roundRatio
  split
  · rw [eq]; exact ⟨by omega, by omega⟩
  · unfold FP.Core.roundAt FP.Core.settle
    rw [ep, et]
    split
    · exact bound_ok (by assumption)
    · exact bound_ok (by omega)
theorem dec_ok {n : Nat} (h : n % 2 ^ 63 ≤ 9218868437227405312) : ¬ FP.Core.decode FP.Core.b64 n = .nan := by
  have et : FP.Core.b64.tails = 4503599627370496 := by decide
  have ee : FP.Core.b64.exps = 2048 := by decide
  unfold FP.Core.decode FP.Core.fieldE FP.Core.fieldT
  rw [et, ee]
  split
  · split
    · exact fun z => by cases z
    · omega
  · split <;> exact fun z => by cases z
theorem i2d_dec : ∀ n : Fin 200, 0 < n.val → ∃ s c q, FP.Core.decode FP.Core.b64 (FP.i2d (iI (n.val : Int))).toNat = .fin s c q ∧ c ≠ 0 := by
  have key : ∀ n : Fin 200, 0 < n.val → (match FP.Core.decode FP.Core.b64 (FP.i2d (iI (n.val : Int))).toNat with | .fin _ c _ => c != 0 | _ => false) = true := by decide +kernel
  intro n hn
  have := key n hn
  revert this
  cases FP.Core.decode FP.Core.b64 (FP.i2d (iI (n.val : Int))).toNat with
  | nan => intro z; cases z
  | inf s => intro z; cases z
  | fin s c q => intro z; exact ⟨s, c, q, rfl, by simpa using z⟩
theorem vf_iff (x : UInt64) : vf_n64 x ↔ x.toNat % 2 ^ 63 ≤ 9218868437227405312 := by
  unfold vf_n64
  rw [UInt64.le_iff_toNat_le, UInt64.toNat_and]
  have h1 : (0x7fffffffffffffff : UInt64).toNat = 2 ^ 63 - 1 := by decide
  have h2 : (0x7ff0000000000000 : UInt64).toNat = 9218868437227405312 := by decide
  rw [h1, h2, Nat.and_two_pow_sub_one_eq_mod]
theorem of_mod (n : Nat) : (UInt64.ofNat n).toNat % 2 ^ 63 = n % 2 ^ 63 := by
  rw [UInt64.toNat_ofNat']
  omega
end DDIV
