def iI (z : Int) : Int32 := Int32.ofInt z
/-- z is a number of 32 bits -/
abbrev r32 (z : Int) : Prop := -2147483648 ≤ z ∧ z < 2147483648
theorem iI_toInt {z : Int} (h : r32 z) : (iI z).toInt = z := Int32.toInt_ofInt_of_le (by have := h.1; simpa using this) (by have := h.2; simpa using this)
theorem iI_nI (n : Nat) : nI n = iI (n : Int) := by
  show Int32.ofNat n = Int32.ofInt (n : Int)
  exact (Int32.ofInt_eq_ofNat ..).symm
theorem iI_add (a b : Int) : iI a + iI b = iI (a + b) := (Int32.ofInt_add a b).symm
theorem iI_sub (a b : Int) : iI a - iI b = iI (a - b) := (Int32.ofInt_sub a b).symm
theorem iI_mul (a b : Int) : iI a * iI b = iI (a * b) := (Int32.ofInt_mul a b).symm
theorem iI_lt {a b : Int} (ha : r32 a) (hb : r32 b) : iI a < iI b ↔ a < b := by rw [Int32.lt_iff_toInt_lt, iI_toInt ha, iI_toInt hb]
theorem iI_le {a b : Int} (ha : r32 a) (hb : r32 b) : iI a ≤ iI b ↔ a ≤ b := by rw [Int32.le_iff_toInt_le, iI_toInt ha, iI_toInt hb]
theorem iI_eq {a b : Int} (ha : r32 a) (hb : r32 b) : iI a = iI b ↔ a = b := by
  constructor
  · intro h
    have := congrArg Int32.toInt h
    rwa [iI_toInt ha, iI_toInt hb] at this
  · intro h; rw [h]
theorem iI_in {z : Int} {n : Nat} (h : 0 ≤ z ∧ z < n) (hn : n < 2147483648) : vp_in (iI z) n := by
  rw [vp_in_iff, iI_toInt ⟨by omega, by omega⟩]; exact h
theorem iI_ix (n : Nat) (h : n < 2147483648) : (iI (n : Int)).toNatClampNeg = n := by
  rw [← iI_nI]; exact nI_clamp (by omega)
theorem iI_in' {n N : Nat} (h : n < N) (hN : N < 2147483648) : vp_in (iI (n : Int)) N := iI_in ⟨by omega, by omega⟩ hN
theorem iI_l0 : (0 : Int32) = iI 0 := by decide
theorem iI_l1 : (1 : Int32) = iI 1 := by decide
theorem iI_l4 : (4 : Int32) = iI 4 := by decide
theorem iI_l34 : (34 : Int32) = iI 34 := by decide
theorem iI_m1 : (-1 : Int32) = iI (-1) := by decide
/-- division of small ones -/
theorem iI_div {a b : Nat} (ha : a < 2147483648) (hb : b < 2147483648) : iI (a : Int) / iI (b : Int) = iI ((a / b : Nat) : Int) := by
  apply Int32.toInt_inj.mp
  have hq : a / b ≤ a := Nat.div_le_self a b
  have e3 : (iI ((a / b : Nat) : Int)).toInt = ((a / b : Nat) : Int) := by
    generalize a / b = q at hq ⊢
    exact iI_toInt ⟨by omega, by omega⟩
  rw [Int32.toInt_div_of_ne_left, iI_toInt ⟨by omega, by omega⟩, iI_toInt ⟨by omega, by omega⟩, e3]
  · rfl
  · intro h
    have h2 := congrArg Int32.toInt h
    rw [iI_toInt ⟨by omega, by omega⟩] at h2
    have : (Int32.minValue).toInt = -2147483648 := by decide
    omega
/-- what the machine computes for x % 9 -/
theorem iI_mod {a b : Nat} (ha : a < 2147483648) (hb : b < 2147483648) : iI (a : Int) - iI (a : Int) / iI (b : Int) * iI (b : Int) = iI ((a % b : Nat) : Int) := by
  rw [iI_div ha hb, iI_mul, iI_sub]
  congr 1
  have := Nat.div_add_mod a b
  have h3 : ((a % b : Nat) : Int) = (a : Int) - (b : Int) * ((a / b : Nat) : Int) := by
    have : ((b * (a / b) + a % b : Nat) : Int) = (a : Int) := by rw [this]
    push_cast at this ⊢
    omega
  rw [h3, Int.mul_comm]
theorem iI_max {a b : Int} (ha : r32 a) (hb : r32 b) : (if iI a < iI b then iI b else iI a) = iI (max a b) := by
  rw [show max a b = if a < b then b else a by omega]
  by_cases h : a < b
  · rw [if_pos ((iI_lt ha hb).mpr h), if_pos h]
  · rw [if_neg (fun q => h ((iI_lt ha hb).mp q)), if_neg h]
theorem iI_min {a b : Int} (ha : r32 a) (hb : r32 b) : (if iI b < iI a then iI b else iI a) = iI (min a b) := by
  rw [show min a b = if b < a then b else a by omega]
  by_cases h : b < a
  · rw [if_pos ((iI_lt hb ha).mpr h), if_pos h]
  · rw [if_neg (fun q => h ((iI_lt hb ha).mp q)), if_neg h]
/-- the sum of a row's first n -/
def sumN (n : Nat) (f : Nat → Nat) : Nat := match n with
  | 0 => 0
  | n + 1 => sumN n f + f n
theorem sumN_congr {n : Nat} {f g : Nat → Nat} (h : ∀ k, k < n → f k = g k) : sumN n f = sumN n g := by
  induction n with
  | zero => rfl
  | succ n ih => rw [sumN, sumN, ih (fun k hk => h k (by omega)), h n (by omega)]
theorem sumN_le {n : Nat} {f g : Nat → Nat} (h : ∀ k, k < n → f k ≤ g k) : sumN n f ≤ sumN n g := by
  induction n with
  | zero => exact Nat.le_refl _
  | succ n ih => exact Nat.add_le_add (ih (fun k hk => h k (by omega))) (h n (by omega))
theorem sumN_zero {n : Nat} {f : Nat → Nat} (h : ∀ k, k < n → f k = 0) : sumN n f = 0 := by
  induction n with
  | zero => rfl
  | succ n ih => rw [sumN, ih (fun k hk => h k (by omega)), h n (by omega)]
theorem sumN_get {n : Nat} {f : Nat → Nat} {k : Nat} (hk : k < n) : f k ≤ sumN n f := by
  induction n with
  | zero => omega
  | succ n ih =>
    rw [sumN]
    by_cases h : k = n
    · subst h; omega
    · have := ih (by omega); omega
theorem sumN_mono {n m : Nat} {f : Nat → Nat} (h : n ≤ m) : sumN n f ≤ sumN m f := by
  induction h with
  | refl => exact Nat.le_refl _
  | step _ ih => rw [sumN]; omega
theorem sumN_add {n : Nat} (f g : Nat → Nat) : sumN n (fun k => f k + g k) = sumN n f + sumN n g := by
  induction n with
  | zero => rfl
  | succ n ih => rw [sumN, sumN, sumN, ih]; omega
/-- one place changed -/
def nup (f : Nat → Nat) (k v : Nat) : Nat → Nat := fun j => if j = k then v else f j
theorem nup_eq (f : Nat → Nat) (k v : Nat) : nup f k v k = v := by simp [nup]
theorem nup_ne (f : Nat → Nat) {k j : Nat} (v : Nat) (h : j ≠ k) : nup f k v j = f j := by simp [nup, h]
theorem sumN_nup {n : Nat} {f : Nat → Nat} {k : Nat} (hk : k < n) (v : Nat) : sumN n (nup f k v) + f k = sumN n f + v := by
  induction n with
  | zero => omega
  | succ n ih =>
    rw [sumN, sumN]
    by_cases h : k = n
    · subst h
      rw [nup_eq, sumN_congr (f := nup f k v) (g := f) (fun j hj => nup_ne f v (by omega))]
      omega
    · have := ih (by omega)
      rw [nup_ne f v (Ne.symm h)]
      omega
