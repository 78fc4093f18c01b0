theorem iI_inc (k : Nat) : iI (k : Int) + 1 = iI ((k + 1 : Nat) : Int) := by rw [iI_l1, iI_add]; rfl
theorem iI_add' (a b : Nat) : iI (a : Int) + iI (b : Int) = iI ((a + b : Nat) : Int) := by rw [iI_add]; rfl
theorem iI_mul' (a b : Nat) : iI (a : Int) * iI (b : Int) = iI ((a * b : Nat) : Int) := by rw [iI_mul]; rfl
theorem iI_sub' {a b : Nat} (h : b ≤ a) : iI (a : Int) - iI (b : Int) = iI ((a - b : Nat) : Int) := by rw [iI_sub]; congr 1; omega
theorem iI_le' {a b : Nat} (ha : a < 2147483648) (hb : b < 2147483648) : iI (a : Int) ≤ iI (b : Int) ↔ a ≤ b := by rw [iI_le ⟨by omega, by omega⟩ ⟨by omega, by omega⟩]; omega
theorem iI_lt' {a b : Nat} (ha : a < 2147483648) (hb : b < 2147483648) : iI (a : Int) < iI (b : Int) ↔ a < b := by rw [iI_lt ⟨by omega, by omega⟩ ⟨by omega, by omega⟩]; omega
theorem iI_eq' {a b : Nat} (ha : a < 2147483648) (hb : b < 2147483648) : iI (a : Int) = iI (b : Int) ↔ a = b := by rw [iI_eq ⟨by omega, by omega⟩ ⟨by omega, by omega⟩]; omega
theorem n0 : (0 : Int32) = iI ((0 : Nat) : Int) := by decide
theorem n1 : (1 : Int32) = iI ((1 : Nat) : Int) := by decide
theorem n2 : (2 : Int32) = iI ((2 : Nat) : Int) := by decide
theorem n3 : (3 : Int32) = iI ((3 : Nat) : Int) := by decide
theorem n4 : (4 : Int32) = iI ((4 : Nat) : Int) := by decide
theorem n6 : (6 : Int32) = iI ((6 : Nat) : Int) := by decide
theorem n7 : (7 : Int32) = iI ((7 : Nat) : Int) := by decide
theorem n9 : (9 : Int32) = iI ((9 : Nat) : Int) := by decide
theorem n13 : (13 : Int32) = iI ((13 : Nat) : Int) := by decide
theorem n14 : (14 : Int32) = iI ((14 : Nat) : Int) := by decide
theorem n18 : (18 : Int32) = iI ((18 : Nat) : Int) := by decide
theorem n27 : (27 : Int32) = iI ((27 : Nat) : Int) := by decide
theorem n34 : (34 : Int32) = iI ((34 : Nat) : Int) := by decide
theorem n90 : (90 : Int32) = iI ((90 : Nat) : Int) := by decide
section MSTEP
variable {post : (Nat → Int32) → Prop} {mel : Int32} {hM lM bM : Nat → Int32} {h l : Nat → Nat} {k a b m q G so g : Nat}
end MSTEP
