/-! the class's calls, with no melds and the points of a new hand -/
theorem least {P : Nat → Prop} : ∀ n, P n → ∃ m, P m ∧ ∀ k, P k → m ≤ k := by
  intro n
  induction n using Nat.strongRecOn with
  | ind n ih =>
    intro hn
    by_cases c : ∃ k, k < n ∧ P k
    · obtain ⟨k, a, b⟩ := c
      exact ih k a b
    · exact ⟨n, hn, fun k hk => by
        rcases Nat.lt_or_ge k n with q | q
        · exact absurd ⟨k, q, hk⟩ c
        · exact q⟩
theorem isMin_ex (h : Nat → Nat) : ∃ v, isMin h zN 4 v := by
  have hv : vld zN 34 zN (fun k => if k < 4 then 1 else 0) (fun k => if k = 4 then 1 else 0) := fun k _ => by
    have e : wnt zN (fun k => if k < 4 then 1 else 0) (fun k => if k = 4 then 1 else 0) k = 0 + 0 + 0 + 3 * (if k < 4 then 1 else 0) + 2 * (if k = 4 then 1 else 0) := by
      unfold wnt
      cases k with
      | zero => rfl
      | succ k => cases k <;> rfl
    refine ⟨?_, fun z => absurd z (Nat.lt_irrefl 0), ?_, ?_⟩
    · show wnt zN (fun k => if k < 4 then 1 else 0) (fun k => if k = 4 then 1 else 0) k + 0 ≤ 4
      rw [e]
      split <;> split <;> omega
    · show (if k < 4 then 1 else 0) ≤ 1
      split <;> omega
    · show (if k = 4 then 1 else 0) ≤ 1
      split <;> omega
  obtain ⟨m, ⟨r, t, p, a1, a2, a3, a4⟩, b⟩ := least (P := fun v => ∃ r t p, vld zN 34 r t p ∧ grp 34 r t = 4 ∧ sumN 34 p = 1 ∧ cst h 34 r t p = v) _ ⟨zN, _, _, hv, by decide, by decide, rfl⟩
  exact ⟨m, ⟨r, t, p, a1, a2, a3, a4⟩, fun r t p c1 c2 c3 => b _ ⟨r, t, p, c1, c2, c3, rfl⟩⟩
theorem isMt_ex (h : Nat → Nat) : ∃ v, isMt h zN 0 v := by
  obtain ⟨g, hg⟩ := isMin_ex h
  exact ⟨_, g, hg, rfl⟩
theorem rz : rowN 34 (fun _ => (0 : Int32)) zN := fun _ _ => (by decide : (0 : Int32) = iI ((0 : Nat) : Int))
theorem r0 (f : Nat → Int32) (σ : Nat → Nat) : rowN 0 f σ := fun i hi => absurd hi (Nat.not_lt_zero i)
theorem zs : sumN 34 zN ≤ 16 := by rw [sumN_zero (fun _ _ => rfl)]; omega
section CALLS
variable {h s : Nat → Nat} {hd se so ki nw nx : Nat → Int32} {glm rom hel : Int32} {k : Nat}
theorem q_size {tc : Nat} {post : Int32 → Prop} (q : post (iI (tc : Nat))) : w_X1_sizeNow (iI tc) 0 post := by
  have a := p_sizeNow (M := 0) (tc := tc) (post := post) (by rw [show tc + 3 * 0 = tc by omega]; exact q)
  rw [← n0] at a
  exact a
theorem q_sz {tc : Nat} {post : Int32 → Prop} (q : post (iI (tc : Nat))) : w_X1_size (iI tc) 0 post := by
  unfold w_X1_size
  exact q_size q
theorem q_draw {post : Int32 → Int32 → (Nat → Int32) → Prop} (r1 : rowN 34 hd h) (r3 : rowN 34 se s) (hk : k < 34) (hlt : h k + s k < 4) (h14 : sumN 34 h < 14) (q : ∀ hd', rowN 34 hd' (nup h k (h k + 1)) → post (iI (sumN 34 h + 1 : Nat)) (iI (sumN 34 h + 1 : Nat)) hd') : w_X1_draw (iI (sumN 34 h : Nat)) 0 hd (fun _ => 0) se (iI k) post := by
  unfold w_X1_draw
  refine p_reqKind_y hk (q_size ?_)
  rw [n14, iI_lt' (a := sumN 34 h) (b := 14) (by omega) (by omega)]
  exact ⟨fun _ => p_reqLeft_y r1 rz r3 hk (by show h k + 0 + s k < 4; omega) (p_add1 r1 hk (fun hd' g => q_size (q hd' g))), fun z => absurd h14 z⟩
theorem q_drop {post : Int32 → Int32 → (Nat → Int32) → (Nat → Int32) → Prop} (r1 : rowN 34 hd h) (r3 : rowN 34 se s) (hk : k < 34) (hp : 0 < h k) (hs : sumN 34 h < 1000) (q : ∀ hd' se', rowN 34 hd' (nup h k (h k - 1)) → rowN 34 se' (nup s k (s k + 1)) → post (iI (sumN 34 h - 1 : Nat)) (iI (sumN 34 h - 1 : Nat)) hd' se') : w_X1_drop (iI (sumN 34 h : Nat)) 0 hd se (iI k) post := by
  have hg := sumN_get (f := h) hk
  unfold w_X1_drop
  refine p_reqKind_y hk ?_
  unfold w_X1_requireHeld
  refine ⟨iI_in' (by omega) (by omega), fun _ => p_sub1 r1 hk hp (by omega) (fun hd' g1 => ⟨iI_in' (by omega) (by omega), iI_in' (by omega) (by omega), q_size ?_⟩), fun z => ?_⟩
  · rw [iI_ix k (by omega)]
    exact q _ _ g1 (rowN_upd1 r3 hk)
  · rw [iI_ix k (by omega), r1 k hk, n1, iI_le' (a := 1) (b := h k) (by omega) (by omega)] at z
    exact absurd hp z
theorem q_count0 {post : Int32 → Prop} (r1 : rowN 34 hd h) (hk : k < 34) (q : post (iI (h k : Nat))) : w_X1_count hd se (iI k) 0 post := by
  unfold w_X1_count
  refine p_reqKind_y hk ⟨fun _ => ⟨iI_in' (by omega) (by omega), ?_⟩, fun z => absurd rfl z⟩
  rw [iI_ix k (by omega), r1 k hk]; exact q
theorem q_count1 {post : Int32 → Prop} (r3 : rowN 34 se s) (hk : k < 34) (q : post (iI (s k : Nat))) : w_X1_count hd se (iI k) 1 post := by
  unfold w_X1_count
  refine p_reqKind_y hk ⟨fun z => absurd z i10, fun _ => ⟨iI_in' (by omega) (by omega), ?_⟩⟩
  rw [iI_ix k (by omega), r3 k hk]; exact q
theorem q_miss {post : Int32 → Int32 → Int32 → Int32 → (Nat → Int32) → (Nat → Int32) → Prop} (r1 : rowN 34 hd h) (h4 : ∀ k, k < 34 → h k ≤ 4) (q : ∀ (v : Nat) glm rom hel nw nx, isMt h zN 0 v → post (iI (v : Nat)) glm rom hel nw nx) : w_X1_missing 0 hd (fun _ => 0) glm rom hel nw nx post := by
  have a := p_missing (M := 0) (glm := glm) (rom := rom) (hel := hel) (nw := nw) (nx := nx) r1 rz h4 (fun _ _ => Nat.zero_le _) zs (Nat.zero_le _) q
  rw [← n0] at a
  exact a
theorem q_arr {post : Int32 → (Nat → Int32) → (Nat → Int32) → (Nat → Int32) → Prop} (r1 : rowN 34 hd h) (h4 : ∀ k, k < 34 → h k ≤ 4) (hs : sumN 34 h < 99) (q : ∀ hd so ki, rowN 34 hd h → post (iI (arr 27 27 0 zN zN h)) hd so ki) : w_X1_bestArrangement (iI (sumN 34 h : Nat)) 0 27 27 hd so ki post := by
  have a := p_bestArr (M := 0) (sw := 27) (rw := 27) (σ := zN) (κ := zN) (so := so) (ki := ki) (post := post) (Nat.zero_le _) (fun _ z => absurd z (Nat.not_lt_zero _)) (fun _ z => absurd z (Nat.not_lt_zero _)) (by omega) (by omega) h4 rfl (by omega) r1 (r0 _ _) (r0 _ _) (fun hd so ki g _ _ => q hd so ki g)
  rw [← n0, ← n27] at a
  exact a
theorem q_comp {post : Int32 → (Nat → Int32) → (Nat → Int32) → (Nat → Int32) → Prop} (r1 : rowN 34 hd h) (h4 : ∀ k, k < 34 → h k ≤ 4) (hs : sumN 34 h < 99) (q1 : ¬ arr 27 27 0 zN zN h = -1 → ∀ hd so ki, rowN 34 hd h → post 1 hd so ki) (q0 : arr 27 27 0 zN zN h = -1 → ∀ hd so ki, rowN 34 hd h → post 0 hd so ki) : w_X1_isComplete (iI (sumN 34 h : Nat)) 0 27 27 hd so ki post := by
  have b := arr_bd 27 27 0 zN zN h
  unfold w_X1_isComplete
  refine q_arr r1 h4 hs (fun hd so ki g => ?_)
  rw [iI_m1, iI_eq (a := arr 27 27 0 zN zN h) (b := -1) ⟨by omega, by omega⟩ ⟨by omega, by omega⟩]
  exact ⟨fun z => q0 z _ _ _ g, fun z => q1 z _ _ _ g⟩
theorem q_waits {post : Int64 → Int32 → (Nat → Int32) → (Nat → Int32) → (Nat → Int32) → Prop} (r1 : rowN 34 hd h) (h4 : ∀ k, k < 34 → h k ≤ 4) (hs : sumN 34 h < 99) (q : ∀ hd so ki, rowN 34 hd h → post (wst (wP 27 27 0 zN zN h zN) 34) (iI (sumN 34 h : Nat)) hd so ki) : w_X1_waits (iI (sumN 34 h : Nat)) 0 27 27 hd (fun _ => 0) so ki post := by
  have a := p_waits (M := 0) (sw := 27) (rw := 27) (σ := zN) (κ := zN) (l := zN) (so := so) (ki := ki) (post := post) (Nat.zero_le _) (fun _ z => absurd z (Nat.not_lt_zero _)) (fun _ z => absurd z (Nat.not_lt_zero _)) (by omega) (by omega) (fun k hk => by have := h4 k hk; show h k + 0 ≤ 4; omega) rfl (by omega) r1 rz (r0 _ _) (r0 _ _) (fun hd so ki g _ _ => q hd so ki g)
  rw [← n0, ← n27] at a
  exact a
theorem q_outs {post : Int32 → Int32 → (Nat → Int32) → (Nat → Int32) → (Nat → Int32) → Prop} (r1 : rowN 34 hd h) (r3 : rowN 34 se s) (h4 : ∀ k, k < 34 → h k + s k ≤ 4) (hs : sumN 34 h < 99) (q : ∀ hd so ki, rowN 34 hd h → post (iI (osm (wP 27 27 0 zN zN h zN) h zN s 34 : Nat)) (iI (sumN 34 h : Nat)) hd so ki) : w_X1_outs (iI (sumN 34 h : Nat)) 0 27 27 hd (fun _ => 0) se so ki post := by
  have a := p_outs (M := 0) (sw := 27) (rw := 27) (σ := zN) (κ := zN) (l := zN) (s := s) (so := so) (ki := ki) (post := post) (Nat.zero_le _) (fun _ z => absurd z (Nat.not_lt_zero _)) (fun _ z => absurd z (Nat.not_lt_zero _)) (by omega) (by omega) (fun k hk => by have := h4 k hk; show h k + 0 + s k ≤ 4; omega) rfl (by omega) r1 rz r3 (r0 _ _) (r0 _ _) (fun hd so ki g _ _ => q hd so ki g)
  rw [← n0, ← n27] at a
  exact a
abbrev tt (h : Nat → Nat) (p0 : Int32) : Int := tot 27 27 0 zN zN zN h zN p0
theorem q_now {p0 : Int32} {post : Int32 → (Nat → Int32) → (Nat → Int32) → (Nat → Int32) → Prop} (r1 : rowN 34 hd h) (h4 : ∀ k, k < 34 → h k ≤ 4) (hs : sumN 34 h < 99) (c : ¬ arr 27 27 0 zN zN h = -1) (q : ∀ hd so ki, rowN 34 hd h → post (iI (tt h p0)) hd so ki) : w_X1_fansNow (iI (sumN 34 h : Nat)) 0 27 27 hd (fun _ => 0) so ki (fun _ => 0) p0 (fun r9 hd so ki => w_X1_requireComplete r9 (post r9 hd so ki)) := by
  have a := p_cFans (M := 0) (sw := 27) (rw := 27) (σ := zN) (κ := zN) (ω := zN) (l := zN) (so := so) (ki := ki) (op := fun _ => 0) (p0 := p0) (post := post) (Nat.zero_le _) (fun _ z => absurd z (Nat.not_lt_zero _)) (fun _ z => absurd z (Nat.not_lt_zero _)) (fun _ z => absurd z (Nat.not_lt_zero _)) (by omega) (by omega) (fun k hk => by have := h4 k hk; show h k + 0 ≤ 4; omega) rfl (by omega) r1 rz (r0 _ _) (r0 _ _) (r0 _ _) c (fun hd so ki g _ _ => q hd so ki g)
  rw [← n0, ← n27] at a
  exact a
theorem q_fans {p0 : Int32} {post : Int32 → (Nat → Int32) → (Nat → Int32) → (Nat → Int32) → Prop} (r1 : rowN 34 hd h) (h4 : ∀ k, k < 34 → h k ≤ 4) (hs : sumN 34 h < 99) (c : ¬ arr 27 27 0 zN zN h = -1) (q : ∀ hd so ki, rowN 34 hd h → post (iI (tt h p0)) hd so ki) : w_X1_fans (iI (sumN 34 h : Nat)) 0 27 27 hd (fun _ => 0) so ki (fun _ => 0) p0 post := by
  unfold w_X1_fans
  exact q_now r1 h4 hs c q
theorem q_points {p0 : Int32} {post : Int32 → (Nat → Int32) → (Nat → Int32) → (Nat → Int32) → Prop} (r1 : rowN 34 hd h) (h4 : ∀ k, k < 34 → h k ≤ 4) (hs : sumN 34 h < 99) (c : ¬ arr 27 27 0 zN zN h = -1) (q : ∀ hd so ki, rowN 34 hd h → post (pts 1 8 (tt h p0)) hd so ki) : w_X1_points (iI (sumN 34 h : Nat)) 0 27 27 1 8 hd (fun _ => 0) so ki (fun _ => 0) p0 post := by
  unfold w_X1_points
  refine q_now (post := fun r hd so ki => w_X1_pointsFor 1 8 r (fun r5 => post r5 hd so ki)) r1 h4 hs c (fun hd so ki g => ?_)
  have b : 0 ≤ tt h p0 ∧ tt h p0 ≤ 40 := tot_bd c
  have a := p_pointsFor (B := 1) (L := 8) (F := tt h p0) (post := fun r5 => post r5 hd so ki) (by omega) ⟨by omega, by omega⟩ (q hd so ki g)
  rw [← n1, ← n8] at a
  exact a
theorem q_adv {post : Int32 → Int32 → (Nat → Int32) → Int32 → Int32 → Int32 → (Nat → Int32) → (Nat → Int32) → Prop} (r1 : rowN 34 hd h) (h4 : ∀ k, k < 34 → h k ≤ 4) (h0 : 0 < sumN 34 h) (hs : sumN 34 h < 99) (q : ∀ (j : Nat) hd glm rom hel nw nx, isAdv h zN 0 j → rowN 34 hd h → post (iI (j : Nat)) (iI (sumN 34 h : Nat)) hd glm rom hel nw nx) : w_X1_advice (iI (sumN 34 h : Nat)) 0 hd (fun _ => 0) glm rom hel nw nx post := by
  have a := p_advice (M := 0) (glm := glm) (rom := rom) (hel := hel) (nw := nw) (nx := nx) (post := post) rfl (by omega) h0 r1 rz h4 (fun _ _ => Nat.zero_le _) zs (Nat.zero_le _) q
  rw [← n0] at a
  exact a
theorem tt_up (h : Nat → Nat) : tt h 1 = tt h 0 + 1 := by
  show arr 27 27 0 zN zN h + ((tfn h zN + (if (1 : Int32) = 0 then 0 else 1) + (if opn zN 0 = 0 then 1 else 0) : Nat) : Int) = arr 27 27 0 zN zN h + ((tfn h zN + (if (0 : Int32) = 0 then 0 else 1) + (if opn zN 0 = 0 then 1 else 0) : Nat) : Int) + 1
  rw [if_neg i10, if_pos rfl]
  omega
end CALLS
