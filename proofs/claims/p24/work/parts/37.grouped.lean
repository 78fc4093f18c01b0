theorem z0 : ((0 : Int32)).toNatClampNeg = 0 := by decide
section GRP
variable {sw rw M : Nat} {σ κ : Nat → Nat} {g : List Nat}
end GRP
