def e2 (h : Nat → Nat) : Nat → Nat := fun k => if h k = 2 then 1 else 0
def hu (h : Nat → Nat) : Nat → Nat := fun k => if 0 < h k then 1 else 0
section SPEC
variable {M : Nat} {h : Nat → Nat}
end SPEC
