/-! the dealing -/
section DEAL
variable {L : Nat} {xs : Nat → Int32} {h : Nat → Nat} {hd so ki nw nx aa : Nat → Int32} {glm rom hel : Int32}
def ex (h : Nat → Nat) : Nat → Nat := fun j => if j < 34 then h j else 0
theorem ex_up {k : Nat} (hk : k < 34) (v : Nat) : nup (ex h) k v = ex (nup h k v) := by
  funext j
  by_cases e : j = k
  · subst e; rw [nup_eq]; unfold ex; rw [if_pos hk, nup_eq]
  · rw [nup_ne _ _ e]; unfold ex; rw [nup_ne _ _ e]
theorem ex_in {j : Nat} (hj : j < 34) : ex h j = h j := by unfold ex; rw [if_pos hj]
theorem ex_out {j : Nat} (hj : 34 ≤ j) : ex h j = 0 := by unfold ex; rw [if_neg (by omega)]
theorem n116 : (102 : Int32) = iI ((102 : Nat) : Int) := by decide
theorem n68 : (68 : Int32) = iI ((68 : Nat) : Int) := by decide
theorem p_tiles (h4 : ∀ k, k < 34 → h k ≤ 4) (ra : rowN 116 aa (ex h)) {post : Int32 → Prop} (q : post (iI (sumN 34 h : Nat))) : w_L_tiles aa post := by
  have key : ∀ (d k : Nat), k + d = 34 → w_L_tiles_b4 post aa (d + 1) (iI (sumN k h : Nat)) (iI (k : Nat)) := by
    intro d
    induction d with
    | zero =>
      intro k hk
      have e : k = 34 := by omega
      subst e
      rw [w_L_tiles_b4, n34, iI_le' (a := 34) (b := 34) (by omega) (by omega)]
      exact ⟨fun _ => q, fun c => absurd (by omega) c⟩
    | succ d ih =>
      intro k hk
      rw [w_L_tiles_b4, n34, iI_le' (a := 34) (b := k) (by omega) (by omega)]
      refine ⟨fun c => absurd c (by omega), fun _ => ⟨iI_in' (by omega) (by omega), fun t3 e3 => ?_⟩⟩
      rw [iI_ix k (by omega), ra k (by omega), ex_in (by omega), iI_add'] at e3
      subst e3
      rw [iI_inc]
      exact ih (k + 1) (by omega)
  unfold w_L_tiles
  refine ⟨35, ?_⟩
  have a := key 34 0 (by omega)
  rw [show sumN 0 h = 0 from rfl, ← n0] at a
  exact a
theorem p_a102 (ra : rowN 116 aa (ex h)) (x : Int32) : x + ((3 : Int32) * (aa (102 : Int32).toNatClampNeg)) = x := by
  rw [n116, iI_ix 102 (by omega), ra 102 (by omega), ex_out (by omega), ← n0]
  rw [Int32.mul_zero, Int32.add_zero]
theorem p_can {tcn mcn v : Int32} {la se : Nat → Int32} {k : Nat} {post : Int32 → Int32 → (Nat → Int32) → (Nat → Int32) → Prop} (h13 : sumN 34 h ≤ 13) (h4 : ∀ k, k < 34 → h k ≤ 4) (ra : rowN 116 aa (ex h)) (hk : k < 34) (q1 : h k < 4 → w_L_draw_b59 post mcn la se (iI k) v 1 tcn hd aa) (q0 : h k = 4 → w_L_draw_b58 post mcn la se (iI k) v tcn hd aa) :
    w_L_tiles aa (fun r4 => (vp_in (102 : Int32) 116 ∧ ((((14 : Int32) ≤ (r4 + ((3 : Int32) * (aa (102 : Int32).toNatClampNeg))) → (w_L_draw_b58 post mcn la se (iI k) v tcn hd aa)) ∧ (¬ (14 : Int32) ≤ (r4 + ((3 : Int32) * (aa (102 : Int32).toNatClampNeg))) → (vp_in (iI k) 116 ∧ (vp_in ((34 : Int32) + (iI k)) 116 ∧ (vp_in ((68 : Int32) + (iI k)) 116 ∧ ((((4 : Int32) ≤ (((aa (iI k).toNatClampNeg) + (aa ((34 : Int32) + (iI k)).toNatClampNeg)) + (aa ((68 : Int32) + (iI k)).toNatClampNeg)) → (w_L_draw_b58 post mcn la se (iI k) v tcn hd aa)) ∧ (¬ (4 : Int32) ≤ (((aa (iI k).toNatClampNeg) + (aa ((34 : Int32) + (iI k)).toNatClampNeg)) + (aa ((68 : Int32) + (iI k)).toNatClampNeg)) → (w_L_draw_b59 post mcn la se (iI k) v (1 : Int32) tcn hd aa)))))))))))) := by
  have hk4 := h4 k hk
  refine p_tiles h4 ra ?_
  rw [p_a102 ra, n14, iI_le' (a := 14) (b := sumN 34 h) (by omega) (by omega)]
  refine ⟨by rw [n116]; exact iI_in' (by omega) (by omega), fun c => absurd c (by omega), fun _ => ?_⟩
  rw [n34, n68, iI_add', iI_add', iI_ix k (by omega), iI_ix (34 + k) (by omega), iI_ix (68 + k) (by omega), ra k (by omega), ra (34 + k) (by omega), ra (68 + k) (by omega), ex_in hk, ex_out (by omega), ex_out (by omega), iI_add', iI_add', n4, iI_le' (a := 4) (b := h k + 0 + 0) (by omega) (by omega)]
  exact ⟨iI_in' (by omega) (by omega), iI_in' (by omega) (by omega), iI_in' (by omega) (by omega), fun c => q0 (by omega), fun c => q1 (by omega)⟩
theorem im3 : (-3 : Int32) = (-3 : Int32) := rfl
theorem p_no {tcn mcn : Int32} {la se : Nat → Int32} {k : Nat} {post : Int32 → Int32 → (Nat → Int32) → (Nat → Int32) → Prop} (q : post 0 tcn hd aa) : w_L_draw_b58 post mcn la se (iI k) (-3) tcn hd aa := by
  unfold w_L_draw_b58 w_L_draw_b59
  refine ⟨fun _ => ?_, fun z => absurd rfl z⟩
  unfold w_L_draw_b73
  refine ⟨fun _ => ?_, fun z => absurd rfl z⟩
  unfold w_L_draw_b95
  exact ⟨fun _ => ⟨fun _ => q, fun z => absurd rfl z⟩, fun z => absurd rfl z⟩
theorem p_yes {tcn mcn : Int32} {la se : Nat → Int32} {k : Nat} {post : Int32 → Int32 → (Nat → Int32) → (Nat → Int32) → Prop} (h4 : ∀ j, j < 34 → nup h k (h k + 1) j ≤ 4) (ra : rowN 116 aa (ex h)) (hk : k < 34) (q : ∀ aa', rowN 116 aa' (ex (nup h k (h k + 1))) → post 1 tcn hd aa') : w_L_draw_b59 post mcn la se (iI k) (iI (sumN 34 h + 1 : Nat)) 1 tcn hd aa := by
  unfold w_L_draw_b59
  refine ⟨fun z => absurd z i10, fun _ => ⟨iI_in' (by omega) (by omega), iI_in' (by omega) (by omega), ?_⟩⟩
  rw [iI_ix k (by omega), ra k (by omega), ex_in hk, iI_inc]
  have ra' : rowN 116 (upd aa k (iI ((h k + 1 : Nat) : Int))) (ex (nup h k (h k + 1))) := by
    rw [← ex_up hk]
    exact rowN_upd ra rfl
  generalize upd aa k (iI ((h k + 1 : Nat) : Int)) = aa' at *
  unfold w_L_draw_b73
  refine ⟨fun z => absurd z i10, fun _ => p_tiles h4 ra' ⟨by rw [n116]; exact iI_in' (by omega) (by omega), ?_⟩⟩
  rw [p_a102 ra']
  unfold w_L_draw_b95
  rw [sum_up hk]
  exact ⟨fun _ => ⟨fun z => absurd z i10, fun _ => q aa' ra'⟩, fun z => absurd rfl z⟩
theorem p_ldraw {k : Nat} {post : Int32 → Int32 → (Nat → Int32) → (Nat → Int32) → Prop} (h13 : sumN 34 h ≤ 13) (h4 : ∀ k, k < 34 → h k ≤ 4) (r1 : rowN 34 hd h) (ra : rowN 116 aa (ex h)) (hk : k < 34)
    (q1 : h k < 4 → ∀ hd' aa', rowN 34 hd' (nup h k (h k + 1)) → rowN 116 aa' (ex (nup h k (h k + 1))) → post 1 (iI (sumN 34 h + 1 : Nat)) hd' aa') (q0 : h k = 4 → post 0 (iI (sumN 34 h : Nat)) hd aa) : w_L_draw (iI (sumN 34 h : Nat)) 0 hd (fun _ => 0) (fun _ => 0) aa (iI k) post := by
  have hk4 := h4 k hk
  unfold w_L_draw
  by_cases c : h k = 4
  · refine Or.inr ?_
    unfold w_X1_draw_x
    refine Or.inl (p_reqKind_y hk (q_size ?_))
    rw [n14, iI_lt' (a := sumN 34 h) (b := 14) (by omega) (by omega), ← n14]
    refine ⟨fun _ => Or.inr (p_reqLeft_n r1 rz rz hk (by show h k + 0 + 0 = 4; omega) ⟨rfl, ?_⟩), fun z => absurd (by omega) z⟩
    exact p_can h13 h4 ra hk (fun z => absurd c (by omega)) (fun z => p_no (q0 z))
  · refine Or.inl (q_draw r1 rz hk (by show h k + 0 < 4; omega) (by omega) (fun hd' g => ?_))
    refine p_can h13 h4 ra hk (fun z => ?_) (fun z => absurd z c)
    refine p_yes (fun j hj => ?_) ra hk (fun aa' ga => q1 z hd' aa' g ga)
    by_cases e : j = k
    · subst e; rw [nup_eq]; omega
    · rw [nup_ne _ _ e]; exact h4 j hj
theorem p_cell (hL : L ≤ 260) {i : Nat} (hi : i < 1000) {post : Int32 → Prop} (q : ∀ r, post r) : w_L_cell L xs (iI (i : Nat)) post := by
  unfold w_L_cell
  rw [show Int32.ofNat L = iI (L : Int) from iI_nI L, iI_le' (a := L) (b := i) (by omega) (by omega)]
  exact ⟨fun _ => q _, fun c => ⟨iI_in' (by omega) (by omega), q _⟩⟩
theorem p_below {r : Int32} {post : Int32 → Prop} (q : ∀ k : Nat, k < 34 → post (iI (k : Nat))) : w_L_below r 34 post := by
  unfold w_L_below
  refine ⟨by decide, ?_⟩
  obtain ⟨j, hj, ej⟩ := pk_andE r (m := 2147483647) 31 (by decide)
  rw [ej, iI_nI, n34, iI_mod (by omega) (by omega)]
  exact q _ (Nat.mod_lt _ (by omega))
theorem p_b49 (hL : L ≤ 260) : ∀ (d i : Nat) (h : Nat → Nat) (hd aa : Nat → Int32), i + d = 40 → sumN 34 h ≤ 13 → (∀ j, j < 34 → h j ≤ 4) → rowN 34 hd h → rowN 116 aa (ex h) →
    w_L_law_b49 L xs 0 27 27 1 8 (fun _ => 0) (fun _ => 0) (d + 1) (iI (i : Nat)) (iI (sumN 34 h : Nat)) hd (fun _ => 0) so ki glm rom hel nw nx aa := by
  intro d
  induction d with
  | zero =>
    intro i h hd aa hi h13 h4 r1 ra
    rw [w_L_law_b49]
    refine q_sz ?_
    refine ⟨fun _ => p_b102 h13 h4 r1, fun _ => ⟨fun _ => p_b102 h13 h4 r1, fun c => absurd ?_ c⟩⟩
    rw [show (40 : Int32) = iI ((40 : Nat) : Int) by decide, iI_le' (a := 40) (b := i) (by omega) (by omega)]
    omega
  | succ d ih =>
    intro i h hd aa hi h13 h4 r1 ra
    rw [w_L_law_b49]
    refine q_sz ?_
    rw [n13, iI_le' (a := 13) (b := sumN 34 h) (by omega) (by omega)]
    refine ⟨fun _ => p_b102 h13 h4 r1, fun c => ⟨fun _ => p_b102 h13 h4 r1, fun _ => p_cell hL (by omega) (fun r => p_below (fun k hk => ?_))⟩⟩
    rw [n7, iI_mul', n34, iI_mod (by omega) (by omega)]
    refine p_ldraw h13 h4 r1 ra (Nat.mod_lt _ (by omega)) (fun c4 hd' aa' g ga => ⟨fun _ => ?_, fun z => absurd (by decide) z⟩) (fun _ => ⟨fun _ => ?_, fun z => absurd (by decide) z⟩)
    · have hkk : k * 7 % 34 < 34 := Nat.mod_lt _ (by omega)
      generalize k * 7 % 34 = k at *
      rw [iI_inc, ← sum_up hkk]
      refine ih (i + 1) _ hd' aa' (by omega) (by rw [sum_up hkk]; omega) (fun j hj => ?_) g ga
      by_cases e : j = k
      · subst e; rw [nup_eq]; omega
      · rw [nup_ne _ _ e]; exact h4 j hj
    · rw [iI_inc]
      exact ih (i + 1) h hd aa (by omega) h13 h4 r1 ra
theorem p_b15 (hL : L ≤ 260) : ∀ (d i : Nat) (h : Nat → Nat) (hd aa : Nat → Int32), i + d = 13 → sumN 34 h ≤ i → (∀ j, j < 34 → h j ≤ 4) → rowN 34 hd h → rowN 116 aa (ex h) →
    w_L_law_b15 L xs 0 27 27 1 8 (fun _ => 0) (fun _ => 0) (d + 1) (iI (i : Nat)) (iI (sumN 34 h : Nat)) hd (fun _ => 0) so ki glm rom hel nw nx aa := by
  intro d
  induction d with
  | zero =>
    intro i h hd aa hi hs h4 r1 ra
    rw [w_L_law_b15, n13, iI_le' (a := 13) (b := i) (by omega) (by omega)]
    refine ⟨fun _ => ?_, fun c => absurd (by omega) c⟩
    unfold w_L_law_b47
    refine ⟨41, Nat.le_refl _, ?_⟩
    have a := p_b49 (L := L) (xs := xs) (so := so) (ki := ki) (glm := glm) (rom := rom) (hel := hel) (nw := nw) (nx := nx) hL 40 0 h hd aa (by omega) (by omega) h4 r1 ra
    rw [show iI (((0 : Nat)) : Int) = (0 : Int32) from n0.symm] at a
    exact a
  | succ d ih =>
    intro i h hd aa hi hs h4 r1 ra
    rw [w_L_law_b15, n13, iI_le' (a := 13) (b := i) (by omega) (by omega)]
    refine ⟨fun c => absurd c (by omega), fun _ => p_cell hL (by omega) (fun r => p_below (fun k hk => ?_))⟩
    refine p_ldraw (by omega) h4 r1 ra hk (fun c4 hd' aa' g ga => ⟨fun _ => ?_, fun z => absurd (by decide) z⟩) (fun _ => ⟨fun _ => ?_, fun z => absurd (by decide) z⟩)
    · rw [iI_inc, ← sum_up hk]
      refine ih (i + 1) _ hd' aa' (by omega) (by rw [sum_up hk]; omega) (fun j hj => ?_) g ga
      by_cases e : j = k
      · subst e; rw [nup_eq]; omega
      · rw [nup_ne _ _ e]; exact h4 j hj
    · rw [iI_inc]
      exact ih (i + 1) h hd aa (by omega) (by omega) h4 r1 ra
end DEAL
theorem law_pure {L : Nat} {xs : Nat → Int32} (hL : L ≤ 260) : w_L_law L xs 0 27 27 1 8 (fun _ => 0) (fun _ => 0) 0 (fun _ => 0) (fun _ => 0) (fun _ => 0) (fun _ => 0) 0 0 0 (fun _ => 0) (fun _ => 0) (fun _ => 0) := by
  unfold w_L_law
  refine ⟨14, Nat.le_refl _, ?_⟩
  have e : sumN 34 zN = 0 := sumN_zero (fun _ _ => rfl)
  have a := p_b15 (L := L) (xs := xs) (so := fun _ => 0) (ki := fun _ => 0) (glm := 0) (rom := 0) (hel := 0) (nw := fun _ => 0) (nx := fun _ => 0) hL 13 0 zN (fun _ => 0) (fun _ => 0) (by omega) (by omega) (fun _ _ => Nat.zero_le _) rz (fun k hk => by
    have e : ex zN k = 0 := by unfold ex; split <;> rfl
    rw [e]; exact n0)
  rw [e, show iI (((0 : Nat)) : Int) = (0 : Int32) from n0.symm] at a
  exact a
