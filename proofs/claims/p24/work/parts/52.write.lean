theorem rowN_upd1 {f : Nat → Int32} {h : Nat → Nat} (hf : rowN 34 f h) {k : Nat} (hk : k < 34) : rowN 34 (upd f k (f k + (1 : Int32))) (nup h k (h k + 1)) := rowN_upd hf (by rw [hf k hk, iI_inc])
section WRITE
variable {L : Nat} {xs : Nat → Int32} {i : Nat} {h l s σ κ ω : Nat → Nat} {M sw rw B Lm : Nat} {hd la se so ki op : Nat → Int32} {glm rom hel : Int32} {nw nx : Nat → Int32} {thr : Int32} {hM sM lM oM kM zM rM gM bM xM : Nat → Int32} {ou : Nat → Int64}
end WRITE
