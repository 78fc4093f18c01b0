/-! the reference's cutting of a hand -/
theorem n100 : (100 : Int32) = iI ((100 : Nat) : Int) := by decide
theorem n16 : (16 : Int32) = iI ((16 : Nat) : Int) := by decide
theorem bitm : ∀ b : Fin 16, ∀ m : Fin 4, ((iI (b.val : Int) >>> (iI (m.val : Int) &&& 31)) &&& (1 : Int32) = (1 : Int32)) ↔ b.val / 2 ^ m.val % 2 = 1 := by decide
theorem row_hr {rM : Nat → Int32} {r : Nat → Nat} {k : Nat} (hr0 : rowN 34 rM r) (hk : k + 2 < 34) (hp : 0 < r k ∧ 0 < r (k + 1) ∧ 0 < r (k + 2)) : rowN 34 (upd (upd (upd rM k (iI (r k : Nat) - iI (1 : Nat))) (k + 1) ((upd rM k (iI (r k : Nat) - iI (1 : Nat))) (k + 1) - iI (1 : Nat))) (k + 2) ((upd (upd rM k (iI (r k : Nat) - iI (1 : Nat))) (k + 1) ((upd rM k (iI (r k : Nat) - iI (1 : Nat))) (k + 1) - iI (1 : Nat))) (k + 2) - iI (1 : Nat))) (hr r k) := by
  unfold hr
  refine rowN_upd (rowN_upd (rowN_upd hr0 (iI_sub' (by omega))) ?_) ?_
  · unfold upd
    rw [if_neg (by omega), hr0 (k + 1) (by omega), iI_sub' (by omega)]
  · unfold upd
    rw [if_neg (by omega), if_neg (by omega), hr0 (k + 2) (by omega), iI_sub' (by omega)]
section CUT
variable {M : Nat}
theorem p_cut_b30 {bits : Nat} (hb : bits < 16) (hM : M ≤ 4) {mel : Int32} (em : mel = iI (M : Nat)) {hM' : Nat → Int32} {p0 : Int32} {R : Option (List Nat)} {post : Int32 → (Nat → Int32) → (Nat → Int32) → Prop}
    (h1 : ∀ g, R = some g → ∀ rM gM : Nat → Int32, (∀ j, j < 4 - M → gM j = iI (g.getD j 0 : Nat)) → post 1 rM gM) (h0 : R = none → ∀ rM gM, post 0 rM gM) :
    ∀ (f k n : Nat) (r : Nat → Nat) (acc : List Nat) (rM gM : Nat → Int32), 34 - k + n = f → k ≤ 34 → acc.length + n = 4 - M → (∀ j, j < k → r j = 0) → rowN 34 rM r → (∀ j, j < 34 → r j ≤ 100) → (∀ j, j < acc.length → gM j = iI (acc.getD j 0 : Nat)) → ctp n (bits / 2 ^ acc.length) r acc = R →
      w_X2_cut_b30 post mel hM' p0 (iI bits) (f + 1) (iI k) (iI acc.length) rM gM := by
  intro f
  induction f with
  | zero =>
    intro k n r acc rM gM hf hk hn hlow hr0 h100 hg hR
    have e : k = 34 := by omega
    have e2 : n = 0 := by omega
    subst e; subst e2
    rw [w_X2_cut_b30, n34, iI_le' (a := 34) (b := 34) (by omega) (by omega)]
    refine ⟨fun _ => ?_, fun c => absurd (by omega) c⟩
    unfold w_X2_cut_b204
    rw [em, n4, iI_sub' hM, iI_eq' (a := acc.length) (b := 4 - M) (by omega) (by omega)]
    have ef : fh r = 34 := fh_is hlow (Or.inl rfl)
    rw [ctp, if_pos ef] at hR
    exact ⟨fun _ => h1 acc hR.symm rM gM (fun j hj => hg j (by omega)), fun c => absurd (by omega) c⟩
  | succ f ih =>
    intro k n r acc rM gM hf hk hn hlow hr0 h100 hg hR
    rw [w_X2_cut_b30, n34, iI_le' (a := 34) (b := k) (by omega) (by omega)]
    refine ⟨fun c => ?_, fun c => ?_⟩
    · have e : k = 34 := by omega
      subst e
      have ef : fh r = 34 := fh_is hlow (Or.inl rfl)
      obtain ⟨n, rfl⟩ : ∃ n', n = n' + 1 := ⟨n - 1, by omega⟩
      unfold w_X2_cut_b204
      rw [em, n4, iI_sub' hM, iI_eq' (a := acc.length) (b := 4 - M) (by omega) (by omega)]
      rw [ctp, if_pos ef] at hR
      exact ⟨fun c => absurd c (by omega), fun _ => h0 hR.symm rM gM⟩
    · have rk := h100 k (by omega)
      rw [iI_ix k (by omega), hr0 k (by omega), iI_eq0 ⟨by omega, by omega⟩, em, n4, iI_sub' hM, iI_eq' (a := acc.length) (b := 4 - M) (by omega) (by omega)]
      refine ⟨iI_in' (by omega) (by omega), fun c2 => ?_, fun c2 => ⟨fun c3 => ?_, fun c3 => ?_⟩⟩
      · rw [iI_inc, ← em]
        refine ih (k + 1) n r acc rM gM (by omega) (by omega) hn (fun j hj => ?_) hr0 h100 hg hR
        by_cases q : j = k
        · subst q; omega
        · exact hlow j (by omega)
      · have ef : fh r = k := fh_is hlow (Or.inr ⟨by omega, by omega⟩)
        have e2 : n = 0 := by omega
        subst e2
        rw [ctp, if_neg (by omega)] at hR
        exact h0 hR.symm rM gM
      · have ef : fh r = k := fh_is hlow (Or.inr ⟨by omega, by omega⟩)
        obtain ⟨n, rfl⟩ : ∃ n', n = n' + 1 := ⟨n - 1, by omega⟩
        rw [ctp, if_neg (by omega), ef] at hR
        have hbit := bitm ⟨bits, hb⟩ ⟨acc.length, by omega⟩
        have hbit' : ((iI (bits : Int) >>> (iI (acc.length : Int) &&& 31)) &&& (1 : Int32) = (1 : Int32)) ↔ bits / 2 ^ acc.length % 2 = 1 := hbit
        have hp2 : bits / 2 ^ acc.length / 2 = bits / 2 ^ (acc.length + 1) := by rw [Nat.div_div_eq_div_mul, Nat.pow_succ]
        rw [hp2] at hR
        rw [hbit']
        have la : ∀ c : Nat, (acc ++ [c]).length = acc.length + 1 := fun c => by rw [List.length_append]; rfl
        have hgx : ∀ c : Nat, ∀ j, j < (acc ++ [c]).length → (upd gM acc.length (iI (c : Nat))) j = iI ((acc ++ [c]).getD j 0 : Nat) := fun c j hj => by
          rw [la] at hj
          unfold upd
          by_cases q : j = acc.length
          · rw [if_pos q, q, getD_end]
          · rw [if_neg q, getD_app (by omega)]; exact hg j (by omega)
        refine ⟨fun c4 => ?_, fun c4 => ?_⟩
        · rw [if_pos c4] at hR
          unfold w_X2_cut_b79
          refine ⟨fun z => absurd z i10, fun _ => p_mbr (by omega) (fun hbr => ⟨fun z => absurd z i10, fun _ => ?_⟩) (fun hbr => ⟨fun _ => h0 (by rw [← hR, if_neg (fun z => hbr z.1)]) rM gM, fun z => absurd rfl z⟩)⟩
          have k2 : k + 2 < 34 := by have := hbr.1; omega
          have b1 := h100 (k + 1) (by omega)
          have b2 := h100 (k + 2) (by omega)
          have e1 : iI (k : Int) + 1 = iI ((k + 1 : Nat) : Int) := iI_inc k
          have e2 : iI (k : Int) + 2 = iI ((k + 2 : Nat) : Int) := by rw [n2, iI_add']
          rw [e1, e2, iI_ix (k + 1) (by omega), iI_ix (k + 2) (by omega), hr0 (k + 1) (by omega), hr0 (k + 2) (by omega), iI_eq0 (z := (r (k + 1) : Nat)) ⟨by omega, by omega⟩, iI_eq0 (z := (r (k + 2) : Nat)) ⟨by omega, by omega⟩]
          refine ⟨iI_in' (by omega) (by omega), fun c5 => h0 (by rw [← hR, if_neg (fun z => by have := z.2.1; omega)]) rM gM, fun c5 => ⟨iI_in' (by omega) (by omega), fun c6 => h0 (by rw [← hR, if_neg (fun z => by have := z.2.2; omega)]) rM gM, fun c6 => ?_⟩⟩
          rw [if_pos ⟨hbr, by omega, by omega⟩] at hR
          unfold w_X2_cut_b130 w_X2_cut_b147
          refine ⟨iI_in' (by omega) (by omega), fun z => absurd z i10, fun _ => ⟨iI_in' (by omega) (by omega), fun z => absurd z i10, fun _ => ?_⟩⟩
          rw [e1, e2, iI_ix (k + 1) (by omega), iI_ix (k + 2) (by omega), iI_ix k (by omega), hr0 k (by omega)]
          refine ⟨iI_in' (by omega) (by omega), iI_in' (by omega) (by omega), iI_in' (by omega) (by omega), iI_in' (by omega) (by omega), ?_⟩
          unfold w_X2_cut_b178
          refine ⟨fun z => absurd z i10, fun _ => ?_⟩
          unfold w_X2_cut_b197
          rw [iI_ix acc.length (by omega), iI_inc, ← la k, ← em]
          refine ⟨iI_in' (by omega) (by omega), ih k n (hr r k) (acc ++ [k]) _ _ (by omega) (by omega) (by rw [la]; omega) (fun j hj => by rw [hr_at, if_neg (by omega)]; exact hlow j hj) ?_ (hr_le h100 k) (hgx k) (by rw [la]; exact hR)⟩
          have := row_hr (k := k) hr0 k2 ⟨by omega, by omega, by omega⟩
          rw [n1]
          exact this
        · rw [if_neg c4] at hR
          unfold w_X2_cut_b79
          rw [iI_ix k (by omega), hr0 k (by omega), n3, iI_le' (a := 3) (b := r k) (by omega) (by omega)]
          refine ⟨fun _ => ⟨iI_in' (by omega) (by omega), fun c5 => ?_, fun c5 => h0 (by rw [← hR, if_neg c5]) rM gM⟩, fun z => absurd rfl z⟩
          rw [if_pos c5] at hR
          unfold w_X2_cut_b130 w_X2_cut_b147 w_X2_cut_b178 w_X2_cut_b197
          rw [iI_ix acc.length (by omega), iI_ix k (by omega), hr0 k (by omega), iI_inc, ← la (100 + k), ← em, n3, n100, iI_add', iI_sub' c5]
          refine ⟨iI_in' (by omega) (by omega), fun _ => ⟨iI_in' (by omega) (by omega), fun _ => ⟨fun _ => ⟨iI_in' (by omega) (by omega), ?_⟩, fun z => absurd rfl z⟩, fun z => absurd rfl z⟩, fun z => absurd rfl z⟩
          exact ih k n (h3 r k) (acc ++ [100 + k]) _ _ (by omega) (by omega) (by rw [la]; omega) (fun j hj => by unfold h3; rw [nup_ne _ _ (by omega)]; exact hlow j hj) (rowN_upd hr0 rfl) (h3_le h100 k) (hgx (100 + k)) (by rw [la]; exact hR)
end CUT
