/-! the reference's fans of an arrangement -/
theorem z34 : ((34 : Int32)).toNatClampNeg = 34 := by decide
theorem z0 : ((0 : Int32)).toNatClampNeg = 0 := by decide
theorem p_cut {M : Nat} {h : Nat → Nat} (hM4 : M ≤ 4) {hM rM gM : Nat → Int32} (hh : rowN 34 hM h) (h100 : ∀ k, k < 34 → h k ≤ 100) {k bits : Nat} (hk : k < 34) (h2 : 2 ≤ h k) (hb : bits < 16) {post : Int32 → (Nat → Int32) → (Nat → Int32) → Prop}
    (h1 : ∀ g, ctp (4 - M) bits (nup h k (h k - 2)) [] = some g → ∀ rM gM : Nat → Int32, (∀ j, j < 4 - M → gM j = iI (g.getD j 0 : Nat)) → post 1 rM gM) (h0 : ctp (4 - M) bits (nup h k (h k - 2)) [] = none → ∀ rM gM, post 0 rM gM) : w_X2_cut (iI M) hM rM gM (iI k) (iI bits) post := by
  unfold w_X2_cut
  refine ⟨iI_in' (by omega) (by omega), iI_in' (by omega) (by omega), 34 + (4 - M) + 1, ?_⟩
  rw [z34, z0, iI_ix k (by omega), n0]
  refine p_cut_b30 hb hM4 rfl h1 h0 (34 + (4 - M)) 0 (4 - M) (nup h k (h k - 2)) [] _ _ rfl (by omega) (by show 0 + (4 - M) = 4 - M; omega) (fun j hj => by omega) ?_ (fun j hj => ?_) (fun j hj => absurd hj (Nat.not_lt_zero j)) ?_
  · have e : rowN 34 (va_cpy hM rM 0 0 34) h := fun j hj => by
      unfold va_cpy
      rw [if_pos (by omega), show 0 + (j - 0) = j by omega]; exact hh j hj
    refine rowN_upd e ?_
    rw [e k hk, n2, iI_sub' h2]
  · by_cases e : j = k
    · subst e; rw [nup_eq]; have := h100 j hj; omega
    · rw [nup_ne _ _ e]; exact h100 j hj
  · rw [show bits / 2 ^ ([] : List Nat).length = bits from Nat.div_one bits]
def okc (c : Nat) : Prop := c < 25 ∨ (100 ≤ c ∧ c < 134)
theorem ctp_ok : ∀ (n bits : Nat) (h : Nat → Nat) (acc g : List Nat), (∀ c ∈ acc, okc c) → ctp n bits h acc = some g → (∀ c ∈ g, okc c) ∧ g.length = acc.length + n := by
  intro n
  induction n with
  | zero =>
    intro bits h acc g ha q
    simp only [ctp] at q
    by_cases e : fh h = 34
    · rw [if_pos e] at q; cases q; exact ⟨ha, rfl⟩
    · rw [if_neg e] at q; cases q
  | succ n ih =>
    intro bits h acc g ha q
    simp only [ctp] at q
    have hle := fh_le h
    by_cases e : fh h = 34
    · rw [if_pos e] at q; cases q
    · rw [if_neg e] at q
      have go : ∀ c, okc c → ∀ d ∈ acc ++ [c], okc d := fun c hc d hd => by
        rcases List.mem_append.mp hd with z | z
        · exact ha d z
        · rw [List.mem_singleton] at z; rw [z]; exact hc
      by_cases b : bits % 2 = 1
      · rw [if_pos b] at q
        by_cases r : rowok h (fh h)
        · rw [if_pos r] at q
          have := ih _ _ _ _ (go (fh h) (Or.inl (by have := r.1; omega))) q
          refine ⟨this.1, ?_⟩
          rw [this.2, List.length_append, List.length_singleton]; omega
        · rw [if_neg r] at q; cases q
      · rw [if_neg b] at q
        by_cases r : 3 ≤ h (fh h)
        · rw [if_pos r] at q
          have := ih _ _ _ _ (go (100 + fh h) (Or.inr (by omega))) q
          refine ⟨this.1, ?_⟩
          rw [this.2, List.length_append, List.length_singleton]; omega
        · rw [if_neg r] at q; cases q
theorem getD_mem {g : List Nat} {j : Nat} (h : j < g.length) : g.getD j 0 ∈ g := by
  rw [List.getD_eq_getElem?_getD, List.getElem?_eq_getElem h]
  exact List.getElem_mem _
def cnt (g : List Nat) (c : Nat) : Nat → Nat
  | 0 => 0
  | n + 1 => cnt g c n + (if g.getD n 0 = c then 1 else 0)
theorem cnt_le (g : List Nat) (c : Nat) : ∀ n, cnt g c n ≤ n := by
  intro n
  induction n with
  | zero => exact Nat.le_refl _
  | succ n ih => simp only [cnt]; split <;> omega
section GRP
variable {sw rw M : Nat} {σ κ : Nat → Nat} {g : List Nat}
theorem p_honoured {k : Nat} (hk : k < 1000) (hw : sw < 1000) (hr : rw < 1000) {post : Int32 → Prop} (q : post (iI (hon sw rw k : Nat))) : w_X2_honoured (iI sw) (iI rw) (iI k) post := by
  unfold w_X2_honoured
  rw [n31, iI_lt' (a := k) (b := 31) (by omega) (by omega)]
  have key : ∀ d : Nat, d ≤ 1 → (d = if 31 ≤ k then 1 else 0) → w_X2_honoured_b11 post (iI sw) (iI rw) (iI k) (iI d) := by
    intro d hd e
    unfold w_X2_honoured_b11 w_X2_honoured_b24
    rw [iI_eq' (a := k) (b := sw) (by omega) (by omega), iI_eq' (a := k) (b := rw) (by omega) (by omega), n0, n1, iI_add', iI_add', iI_add', iI_add', iI_add', iI_add']
    unfold hon at q
    rw [← e] at q
    refine ⟨fun c => ⟨fun c2 => ?_, fun c2 => ?_⟩, fun c => ⟨fun c2 => ?_, fun c2 => ?_⟩⟩
    · rw [if_pos c, if_pos c2] at q; exact q
    · rw [if_pos c, if_neg c2] at q; exact q
    · rw [if_neg c, if_pos c2] at q; exact q
    · rw [if_neg c, if_neg c2] at q; exact q
  refine ⟨fun c => ?_, fun c => ?_⟩
  · rw [n0]; exact key 0 (by omega) (by rw [if_neg (by omega)])
  · rw [n1]; exact key 1 (by omega) (by rw [if_pos (by omega)])
theorem bfr_cnt {j c : Nat} (hc : c < 25) (hg : g.getD j 0 = c) : ∀ n, bfr (gso M σ g) (gki M κ g) M (M + j) (M + n) = cnt g c n := by
  have ei : gki M κ g (M + j) = c := by
    unfold gki
    rw [if_neg (by omega), show M + j - M = j by omega, hg, if_neg (by omega)]
  intro n
  induction n with
  | zero =>
    unfold bfr
    exact sumN_zero (fun k hk => by unfold bfi; rw [if_neg (fun z => by have := z.1; omega)])
  | succ n ih =>
    have e : bfr (gso M σ g) (gki M κ g) M (M + j) (M + (n + 1)) = bfr (gso M σ g) (gki M κ g) M (M + j) (M + n) + bfi (gso M σ g) (gki M κ g) M (M + j) (M + n) := rfl
    rw [e, ih]
    simp only [cnt]
    congr 1
    unfold bfi
    rw [ei]
    unfold gso gki
    rw [if_neg (show ¬ M + n < M by omega), if_neg (show ¬ M + n < M by omega), show M + n - M = n by omega]
    by_cases q : g.getD n 0 = c
    · rw [if_pos q, if_pos ⟨by omega, by rw [if_neg (by omega)], by rw [if_neg (by omega)]; exact q⟩]
    · rw [if_neg q, if_neg (fun z => ?_)]
      obtain ⟨_, z2, z3⟩ := z
      by_cases q2 : 100 ≤ g.getD n 0
      · rw [if_pos q2] at z2; omega
      · rw [if_neg q2] at z3; omega
end GRP
