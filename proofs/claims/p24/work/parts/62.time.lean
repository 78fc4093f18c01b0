/-! the law behind the dealing -/
section TIME
variable {L : Nat} {xs : Nat → Int32} {h s : Nat → Nat} {hd se so ki nw nx aa : Nat → Int32} {glm rom hel : Int32}
theorem four {a b : Nat} (ha : a + b ≤ 4) : iI (a : Int) + iI (b : Int) = (4 : Int32) ↔ a + b = 4 := by
  rw [n4, iI_add', iI_eq' (by omega) (by omega)]
theorem wbit {P : Nat → Prop} {k : Nat} (hk : k < 34) : ((wst P 34) >>> ((iI (k : Int)).toInt64 &&& 63)) &&& (1 : Int64) = (0 : Int64) ↔ ¬ P k := by
  have b := wst_bit P 34 (by omega) k hk
  rw [(bit64 (wst P 34) hk).2]
  constructor
  · intro z p
    rw [b.mpr ⟨hk, p⟩] at z
    exact absurd z (by decide)
  · intro z
    cases e : (wst P 34).toBitVec.getLsbD k with
    | false => rfl
    | true => exact absurd (b.mp e).2 z
theorem wzero {P : Nat → Prop} (z : wst P 34 = 0) {k : Nat} (hk : k < 34) : ¬ P k := by
  rw [← wbit hk, z]
  have := (bit64 (0 : Int64) hk).2.mpr (bit0_64 k)
  exact this
theorem osm0 {P : Nat → Prop} {h l s : Nat → Nat} : ∀ n, (∀ k, k < n → ¬ P k) → osm P h l s n = 0 := by
  intro n
  induction n with
  | zero => intro _; rfl
  | succ n ih => intro q; rw [osm_n (q n (by omega))]; exact ih (fun k hk => q k (by omega))
theorem pt_eq {F : Int} (hF : 0 ≤ F ∧ F ≤ 40) : pts 1 8 F = (1 : Int32) <<< ((if iI F < (8 : Int32) then iI F else (8 : Int32)) &&& 31) := by
  unfold pts
  rw [n8, iI_min (a := ((8 : Nat) : Int)) (b := F) ⟨by omega, by omega⟩ ⟨by omega, by omega⟩, ← n1]
theorem up_dn {h : Nat → Nat} {k : Nat} : nup (nup h k (h k + 1)) k (nup h k (h k + 1) k - 1) = h := nup_back
/-- the kinds that are waited for -/
theorem p_b384 (hs : sumN 34 h = 13) : ∀ (d k : Nat) (s : Nat → Nat) (hd se so ki : Nat → Int32) (glm rom hel : Int32) (nw nx : Nat → Int32), k + d = 34 → (∀ j, j < 34 → h j + s j ≤ 4) → rowN 34 hd h → rowN 34 se s →
    w_L_law_b384 L xs 0 27 27 1 8 (fun _ => 0) (fun _ => 0) (d + 1) (wst (wP 27 27 0 zN zN h zN) 34) (iI k) (iI (sumN 34 h : Nat)) hd se so ki glm rom hel nw nx aa := by
  intro d
  induction d with
  | zero =>
    intro k s hd se so ki glm rom hel nw nx hk h4 r1 r3
    rw [w_L_law_b384, n34, iI_le' (a := 34) (b := k) (by omega) (by omega)]
    exact ⟨fun _ => trivial, fun c => absurd (by omega) c⟩
  | succ d ih =>
    intro k s hd se so ki glm rom hel nw nx hk h4 r1 r3
    have hk4 := h4 k (by omega)
    have hh4 : ∀ j, j < 34 → h j ≤ 4 := fun j hj => by have := h4 j hj; omega
    have nxt : ∀ (s : Nat → Nat) (hd se so ki : Nat → Int32) (glm rom hel : Int32) (nw nx : Nat → Int32), (∀ j, j < 34 → h j + s j ≤ 4) → rowN 34 hd h → rowN 34 se s → w_L_law_b535 L xs 0 27 27 1 8 (fun _ => 0) (fun _ => 0) (w_L_law_b384 L xs 0 27 27 1 8 (fun _ => 0) (fun _ => 0) (d + 1)) (wst (wP 27 27 0 zN zN h zN) 34) (iI k) (iI (sumN 34 h : Nat)) hd se so ki glm rom hel nw nx aa := fun s hd se so ki glm rom hel nw nx a b c => by
      unfold w_L_law_b535
      rw [iI_inc]
      exact ih (k + 1) s hd se so ki glm rom hel nw nx (by omega) a b c
    rw [w_L_law_b384, n34, iI_le' (a := 34) (b := k) (by omega) (by omega)]
    refine ⟨fun c => absurd c (by omega), fun _ => ?_⟩
    rw [wbit (by omega)]
    refine ⟨fun _ => nxt s hd se so ki glm rom hel nw nx h4 r1 r3, fun hP => q_count0 r1 (by omega) (q_count1 r3 (by omega) ?_)⟩
    have hP : wP 27 27 0 zN zN h zN k := Classical.not_not.mp hP
    rw [four hk4]
    refine ⟨fun _ => nxt s hd se so ki glm rom hel nw nx h4 r1 r3, fun c => q_draw r1 r3 (by omega) (by omega) (by omega) (fun hd' g => ?_)⟩
    have e14 := sum_up (h := h) (show k < 34 by omega)
    have u4 : ∀ j, j < 34 → nup h k (h k + 1) j ≤ 4 := fun j hj => by
      by_cases e : j = k
      · subst e; rw [nup_eq]; omega
      · rw [nup_ne _ _ e]; exact hh4 j hj
    have ha := hP.2.2
    have tb : 0 ≤ tt (nup h k (h k + 1)) 0 ∧ tt (nup h k (h k + 1)) 0 ≤ 40 := tot_bd ha
    have tb1 : 0 ≤ tt (nup h k (h k + 1)) 1 ∧ tt (nup h k (h k + 1)) 1 ≤ 40 := tot_bd ha
    have e2 : iI (tt (nup h k (h k + 1)) 0) + (1 : Int32) = iI (tt (nup h k (h k + 1)) 1) := by rw [tt_up, iI_l1, iI_add]
    rw [← e14]
    refine q_comp g u4 (by omega) (fun _ hd so ki g => ⟨fun z => absurd z i10, fun _ => q_miss g u4 (fun v glm rom hel nw nx hv => ?_)⟩) (fun z => absurd z ha)
    have v0 := arr_miss (by omega) u4 ha hv
    subst v0
    refine ⟨fun _ => q_fans g u4 (by omega) ha (fun hd so ki g => q_fans g u4 (by omega) ha (fun hd so ki g => ?_)), fun z => absurd n0.symm z⟩
    rw [e2]
    refine ⟨fun _ => q_points g u4 (by omega) ha (fun hd so ki g => ⟨fun _ => q_points g u4 (by omega) ha (fun hd so ki g => ⟨fun _ => ?_, fun z => absurd (pt_eq tb1) z⟩), fun z => absurd (pt_eq tb) z⟩), fun z => absurd rfl z⟩
    refine q_drop g r3 (by omega) (by rw [nup_eq]; omega) (by omega) (fun hd' se' g1 g3 => ?_)
    rw [up_dn] at g1
    rw [show sumN 34 (nup h k (h k + 1)) - 1 = sumN 34 h by omega]
    refine q_comp g1 hh4 (by omega) (fun z => absurd (by unfold arr; rw [if_neg (by omega)]) z) (fun _ hd so ki g => ⟨fun _ => q_waits g hh4 (by omega) (fun hd so ki g => ?_), fun z => absurd rfl z⟩)
    rw [wbit (by omega)]
    refine ⟨fun z => absurd hP z, fun _ => nxt _ hd se' so ki glm rom hel nw nx (fun j hj => ?_) g g3⟩
    by_cases e : j = k
    · subst e; rw [nup_eq]; omega
    · rw [nup_ne _ _ e]; exact h4 j hj
theorem p_b352 (hs : sumN 34 h = 13) (h4 : ∀ j, j < 34 → h j + s j ≤ 4) (r1 : rowN 34 hd h) (r3 : rowN 34 se s) {v : Nat} (hv : v ≤ 1) :
    w_L_law_b352 L xs 0 27 27 1 8 (fun _ => 0) (fun _ => 0) (iI (v : Nat)) (iI (sumN 34 h : Nat)) hd se so ki glm rom hel nw nx aa := by
  have hh4 : ∀ j, j < 34 → h j ≤ 4 := fun j hj => by have := h4 j hj; omega
  have fin : ∀ (hd so ki : Nat → Int32), rowN 34 hd h → w_L_law_b381 L xs 0 27 27 1 8 (fun _ => 0) (fun _ => 0) (wst (wP 27 27 0 zN zN h zN) 34) (iI (sumN 34 h : Nat)) hd se so ki glm rom hel nw nx aa := fun hd so ki g => by
    unfold w_L_law_b381
    refine ⟨35, Nat.le_refl _, ?_⟩
    have a := p_b384 (L := L) (xs := xs) (aa := aa) hs 34 0 s hd se so ki glm rom hel nw nx (by omega) h4 g r3
    rw [← n0] at a
    exact a
  unfold w_L_law_b352
  rw [n1, iI_le' (a := v) (b := 1) (by omega) (by omega), ← n1]
  refine ⟨fun _ => q_waits r1 hh4 (by omega) (fun hd so ki g => q_outs g r3 h4 (by omega) (fun hd so ki g => ?_)), fun z => absurd hv z⟩
  refine ⟨fun _ => fin hd so ki g, fun c => ⟨fun z => absurd ?_ c, fun _ => fin hd so ki g⟩⟩
  rw [osm0 34 (fun k hk => wzero z hk), ← n0]
  exact Int32.le_refl 0
/-- a hand copied: the kinds below i, and j tiles of kind i -/
def cpy (h : Nat → Nat) (i j : Nat) : Nat → Nat := fun k => if k < i then h k else if k = i then j else 0
theorem cpy_le {i j : Nat} (hj : j ≤ h i) (k : Nat) : cpy h i j k ≤ h k := by
  unfold cpy
  split
  · exact Nat.le_refl _
  · split
    · rename_i e; subst e; exact hj
    · exact Nat.zero_le _
theorem cpy_at (i j : Nat) : cpy h i j i = j := by unfold cpy; rw [if_neg (by omega), if_pos rfl]
theorem cpy_up (i j : Nat) : nup (cpy h i j) i (cpy h i j i + 1) = cpy h i (j + 1) := by
  funext k
  rw [cpy_at]
  by_cases e : k = i
  · subst e; rw [nup_eq, cpy_at]
  · rw [nup_ne _ _ e]
    unfold cpy
    by_cases e2 : k < i
    · rw [if_pos e2, if_pos e2]
    · rw [if_neg e2, if_neg e2, if_neg e, if_neg e]
theorem cpy_next (i : Nat) : cpy h i (h i) = cpy h (i + 1) 0 := by
  funext k
  unfold cpy
  by_cases e : k < i
  · rw [if_pos e, if_pos (by omega)]
  · rw [if_neg e]
    by_cases e2 : k = i
    · subst e2; rw [if_pos rfl, if_pos (by omega)]
    · rw [if_neg e2, if_neg (by omega)]; split <;> rfl
theorem cpy_zero : cpy h 0 0 = zN := by
  funext k
  unfold cpy
  rw [if_neg (by omega)]; split <;> rfl
theorem cpy_end : ∀ k, k < 34 → cpy h 34 0 k = h k := fun k hk => by unfold cpy; rw [if_pos hk]
section COPY
variable {K128 : Int32 → Int32 → Int32 → (Nat → Int32) → (Nat → Int32) → (Nat → Int32) → (Nat → Int32) → Int32 → Int32 → Int32 → (Nat → Int32) → (Nat → Int32) → (Nat → Int32) → Prop} {K146 : Int32 → Int32 → Int32 → Int32 → Int32 → (Nat → Int32) → (Nat → Int32) → (Nat → Int32) → (Nat → Int32) → Int32 → Int32 → Int32 → (Nat → Int32) → (Nat → Int32) → (Nat → Int32) → Prop}
  {K192 : Int32 → Int32 → Int32 → Int32 → Int32 → Int32 → (Nat → Int32) → (Nat → Int32) → (Nat → Int32) → (Nat → Int32) → Int32 → Int32 → Int32 → (Nat → Int32) → (Nat → Int32) → (Nat → Int32) → Int32 → (Nat → Int32) → Prop} {v3 v4 v5 v6 : Int32}
theorem p_b202 (hs : sumN 34 h = 13) (hh4 : ∀ j, j < 34 → h j ≤ 4) (r1 : rowN 34 hd h) {i : Nat} (hi : i < 34)
    (q : ∀ hd2, rowN 34 hd2 (cpy h (i + 1) 0) → K192 v3 v4 v5 v6 (iI (i + 1 : Nat)) (iI (sumN 34 h : Nat)) hd se so ki glm rom hel nw nx aa (iI (sumN 34 (cpy h (i + 1) 0) : Nat)) hd2) :
    ∀ (d j : Nat) (hd2 : Nat → Int32), j + d = h i → rowN 34 hd2 (cpy h i j) → w_L_law_b202 L xs 0 27 27 1 8 (fun _ => 0) (fun _ => 0) K128 K146 K192 (d + 1) v3 v4 v5 v6 (iI i) (iI (j : Nat)) (iI (sumN 34 h : Nat)) hd se so ki glm rom hel nw nx aa (iI (sumN 34 (cpy h i j) : Nat)) hd2 := by
  have hi4 := hh4 i hi
  intro d
  induction d with
  | zero =>
    intro j hd2 hj g
    rw [w_L_law_b202]
    refine q_count0 r1 hi ?_
    rw [iI_le' (a := h i) (b := j) (by omega) (by omega)]
    refine ⟨fun _ => ?_, fun c => absurd (by omega) c⟩
    unfold w_L_law_b228
    rw [iI_inc]
    have e : j = h i := by omega
    subst e
    rw [cpy_next] at g ⊢
    exact q hd2 g
  | succ d ih =>
    intro j hd2 hj g
    rw [w_L_law_b202]
    refine q_count0 r1 hi ?_
    rw [iI_le' (a := h i) (b := j) (by omega) (by omega)]
    have le : sumN 34 (cpy h i j) ≤ sumN 34 h := sumN_le (fun k _ => cpy_le (by omega) k)
    refine ⟨fun c => absurd c (by omega), fun _ => q_draw g rz hi (by rw [cpy_at]; show j + 0 < 4; omega) (by omega) (fun hd' g1 => ?_)⟩
    have e := sum_up (h := cpy h i j) hi
    rw [← e]
    rw [cpy_up] at g1 ⊢
    rw [iI_inc]
    exact ih (j + 1) hd' (by omega) g1
theorem p_b192 (hs : sumN 34 h = 13) (hh4 : ∀ j, j < 34 → h j ≤ 4) (r1 : rowN 34 hd h)
    (q : ∀ hd2, rowN 34 hd2 h → w_L_law_b234 L xs 0 27 27 1 8 (fun _ => 0) (fun _ => 0) K128 K146 v3 v4 v5 v6 (iI (sumN 34 h : Nat)) hd se so ki glm rom hel nw nx aa (iI (sumN 34 h : Nat)) hd2) :
    ∀ (d i : Nat) (hd2 : Nat → Int32), i + d = 34 → rowN 34 hd2 (cpy h i 0) → w_L_law_b192 L xs 0 27 27 1 8 (fun _ => 0) (fun _ => 0) K128 K146 (d + 1) v3 v4 v5 v6 (iI (i : Nat)) (iI (sumN 34 h : Nat)) hd se so ki glm rom hel nw nx aa (iI (sumN 34 (cpy h i 0) : Nat)) hd2 := by
  intro d
  induction d with
  | zero =>
    intro i hd2 hi g
    have e : i = 34 := by omega
    subst e
    rw [w_L_law_b192, n34, iI_le' (a := 34) (b := 34) (by omega) (by omega)]
    refine ⟨fun _ => ?_, fun c => absurd (by omega) c⟩
    rw [sumN_congr cpy_end]
    exact q hd2 (fun k hk => by rw [g k hk, cpy_end k hk])
  | succ d ih =>
    intro i hd2 hi g
    rw [w_L_law_b192, n34, iI_le' (a := 34) (b := i) (by omega) (by omega)]
    refine ⟨fun c => absurd c (by omega), fun _ => ⟨h i + 1, by have := hh4 i (by omega); omega, ?_⟩⟩
    have a := p_b202 (L := L) (xs := xs) (se := se) (so := so) (ki := ki) (glm := glm) (rom := rom) (hel := hel) (nw := nw) (nx := nx) (aa := aa) (K128 := K128) (K146 := K146) (K192 := w_L_law_b192 L xs 0 27 27 1 8 (fun _ => 0) (fun _ => 0) K128 K146 (d + 1)) (v3 := v3) (v4 := v4) (v5 := v5) (v6 := v6) hs hh4 r1 (show i < 34 by omega) (fun hd2 g2 => ih (i + 1) hd2 (by omega) g2) (h i) 0 hd2 (by omega) g
    rw [show iI (((0 : Nat)) : Int) = (0 : Int32) from n0.symm] at a
    exact a
end COPY
/-- what the search has found so far -/
def bst (h s : Nat → Nat) (v : Nat) (z : Int) : Prop := z = -1 ∨ ∃ k : Nat, z = k ∧ k < 34 ∧ h k + s k < 4 ∧ ∃ w, isMt (nup h k (h k + 1)) zN 0 w ∧ w < v
theorem p_b261 {K128 : Int32 → Int32 → Int32 → (Nat → Int32) → (Nat → Int32) → (Nat → Int32) → (Nat → Int32) → Int32 → Int32 → Int32 → (Nat → Int32) → (Nat → Int32) → (Nat → Int32) → Prop} {v t : Nat} {z : Int} (hs : sumN 34 h = 13) (h4 : ∀ j, j < 34 → h j + s j ≤ 4) (r1 : rowN 34 hd h) (r3 : rowN 34 se s) (hv : isMt h zN 0 v) (hv1 : 1 < v) (hz : bst h s v z)
    (q : ∀ (h s : Nat → Nat) (hd se so ki : Nat → Int32) (glm rom hel : Int32) (nw nx : Nat → Int32), sumN 34 h = 13 → (∀ j, j < 34 → h j + s j ≤ 4) → rowN 34 hd h → rowN 34 se s → isMt h zN 0 (v - 1) → K128 (iI (v - 1 : Nat)) (iI (t + 1 : Nat)) (iI (sumN 34 h : Nat)) hd se so ki glm rom hel nw nx aa) :
    w_L_law_b261 L xs 0 27 27 1 8 (fun _ => 0) (fun _ => 0) K128 (iI (v : Nat)) (iI (t : Nat)) (iI z) (iI (sumN 34 h : Nat)) hd se so ki glm rom hel nw nx aa := by
  have hh4 : ∀ j, j < 34 → h j ≤ 4 := fun j hj => by have := h4 j hj; omega
  have v14 := isMt_le hv
  unfold w_L_law_b261
  rcases hz with rfl | ⟨k, rfl, hk, hk4, w, hw, hwv⟩
  · rw [iI_0le ⟨by omega, by omega⟩]
    exact ⟨fun c => absurd c (by omega), fun _ => trivial⟩
  · rw [iI_0le ⟨by omega, by omega⟩]
    refine ⟨fun _ => q_draw r1 r3 hk hk4 (by omega) (fun hd' g => ?_), fun c => absurd (by omega) c⟩
    have e14 := sum_up (h := h) hk
    have u4 : ∀ j, j < 34 → nup h k (h k + 1) j + s j ≤ 4 := fun j hj => by
      by_cases e : j = k
      · subst e; rw [nup_eq]; omega
      · rw [nup_ne _ _ e]; exact h4 j hj
    have wv : w = v - 1 := by have := isMt_up hk hv hw; omega
    rw [← e14]
    generalize nup h k (h k + 1) = h' at *
    have u4' : ∀ j, j < 34 → h' j ≤ 4 := fun j hj => by have := u4 j hj; omega
    refine q_miss g u4' (fun w' glm rom hel nw nx hw' => ?_)
    have e := isMt_one hw' hw
    subst e
    have e1 : iI (v : Int) - (1 : Int32) = iI ((v - 1 : Nat) : Int) := by rw [n1, iI_sub' (by omega)]
    rw [e1, iI_eq' (a := w') (b := v - 1) (by omega) (by omega)]
    refine ⟨fun _ => q_adv g u4' (by omega) (by omega) (fun j hd glm rom hel nw nx hj g => ?_), fun c => absurd wv c⟩
    obtain ⟨j34, jp, u, hu, hmin⟩ := hj
    refine q_count0 g j34 ?_
    rw [n1, iI_le' (a := 1) (b := h' j) (by omega) (by have := u4' j j34; omega), ← n1]
    refine ⟨fun _ => q_drop g r3 j34 jp (by omega) (fun hd' se' g1 g3 => ?_), fun c => absurd jp c⟩
    have d13 := sum_dn (h := h') j34 jp
    have dle : ∀ i, i < 34 → nup h' j (h' j - 1) i ≤ h' i := dn_le h' j
    rw [show sumN 34 h' - 1 = sumN 34 (nup h' j (h' j - 1)) by omega]
    have d4 : ∀ i, i < 34 → nup h' j (h' j - 1) i + nup s j (s j + 1) i ≤ 4 := fun i hi => by
      by_cases e : i = j
      · subst e; rw [nup_eq, nup_eq]; have := u4 i hi; omega
      · rw [nup_ne _ _ e, nup_ne _ _ e]; exact u4 i hi
    have lo := isMt_mono (dn_le h' j) hw hu
    obtain ⟨i, hi, ip, ik⟩ := isMt_keep (by omega) (by omega) hw
    obtain ⟨vi, hvi⟩ := isMt_ex (dn h' i)
    have hi1 := (hmin i hi ip vi hvi).1
    have hi2 := ik vi hvi
    refine q_miss g1 (fun i hi => by have := d4 i hi; omega) (fun u' glm rom hel nw nx hu' => ?_)
    have e := isMt_one hu' hu
    subst e
    rw [iI_lt' (a := u') (b := v - 1) (by omega) (by omega), iI_le' (a := u') (b := v) (by omega) (by omega), iI_eq' (a := u') (b := v) (by omega) (by omega)]
    refine ⟨fun c => absurd c (by omega), fun _ => ⟨fun _ => ⟨fun c => absurd c (by omega), fun _ => ?_⟩, fun c => absurd (by omega) c⟩⟩
    rw [iI_inc]
    have ev : u' = v - 1 := by omega
    subst ev
    exact q _ _ _ _ _ _ _ _ _ _ _ (by omega) d4 g1 g3 hu'
theorem p_b146 {K128 : Int32 → Int32 → Int32 → (Nat → Int32) → (Nat → Int32) → (Nat → Int32) → (Nat → Int32) → Int32 → Int32 → Int32 → (Nat → Int32) → (Nat → Int32) → (Nat → Int32) → Prop} {v t : Nat} (hs : sumN 34 h = 13) (h4 : ∀ j, j < 34 → h j + s j ≤ 4) (r1 : rowN 34 hd h) (r3 : rowN 34 se s) (hv : isMt h zN 0 v) (hv1 : 1 < v)
    (q : ∀ (h s : Nat → Nat) (hd se so ki : Nat → Int32) (glm rom hel : Int32) (nw nx : Nat → Int32), sumN 34 h = 13 → (∀ j, j < 34 → h j + s j ≤ 4) → rowN 34 hd h → rowN 34 se s → isMt h zN 0 (v - 1) → K128 (iI (v - 1 : Nat)) (iI (t + 1 : Nat)) (iI (sumN 34 h : Nat)) hd se so ki glm rom hel nw nx aa) :
    ∀ (d k : Nat) (z : Int), k + d = 34 → bst h s v z → w_L_law_b146 L xs 0 27 27 1 8 (fun _ => 0) (fun _ => 0) K128 (d + 1) (iI (v : Nat)) (iI (t : Nat)) (iI z) (iI (k : Nat)) (iI (sumN 34 h : Nat)) hd se so ki glm rom hel nw nx aa := by
  have hh4 : ∀ j, j < 34 → h j ≤ 4 := fun j hj => by have := h4 j hj; omega
  have v14 := isMt_le hv
  intro d
  induction d with
  | zero =>
    intro k z hk hz
    rw [w_L_law_b146, n34, iI_le' (a := 34) (b := k) (by omega) (by omega)]
    exact ⟨fun _ => p_b261 hs h4 r1 r3 hv hv1 hz q, fun c => absurd (by omega) c⟩
  | succ d ih =>
    intro k z hk hz
    have hk4 := h4 k (by omega)
    rw [w_L_law_b146, n34, iI_le' (a := 34) (b := k) (by omega) (by omega)]
    refine ⟨fun c => absurd c (by omega), fun _ => ⟨fun _ => p_b261 hs h4 r1 r3 hv hv1 hz q, fun _ => q_count0 r1 (by omega) (q_count1 r3 (by omega) ?_)⟩⟩
    rw [four hk4]
    refine ⟨fun _ => ?_, fun c => ⟨35, Nat.le_refl _, ?_⟩⟩
    · unfold w_L_law_b255
      rw [iI_inc]
      exact ih (k + 1) z (by omega) hz
    · have a := p_b192 (L := L) (xs := xs) (se := se) (so := so) (ki := ki) (glm := glm) (rom := rom) (hel := hel) (nw := nw) (nx := nx) (aa := aa) (K128 := K128) (K146 := w_L_law_b146 L xs 0 27 27 1 8 (fun _ => 0) (fun _ => 0) K128 (d + 1)) (v3 := iI (v : Nat)) (v4 := iI (t : Nat)) (v5 := iI z) (v6 := iI (k : Nat)) hs hh4 r1 (fun hd2 g2 => ?_) 34 0 (fun _ => 0) (by omega) (by rw [cpy_zero]; exact rz)
      · rw [cpy_zero, show sumN 34 zN = 0 from sumN_zero (fun _ _ => rfl), show iI (((0 : Nat)) : Int) = (0 : Int32) from n0.symm] at a
        exact a
      · unfold w_L_law_b234
        refine q_draw g2 rz (by omega) (by show h k + 0 < 4; omega) (by omega) (fun hd' g => q_miss g (fun j hj => ?_) (fun w glm2 rom2 hel2 nw2 nx2 hw => ?_))
        · by_cases e : j = k
          · subst e; rw [nup_eq]; omega
          · rw [nup_ne _ _ e]; exact hh4 j hj
        · have w14 := isMt_le hw
          unfold w_L_law_b255
          rw [iI_le' (a := v) (b := w) (by omega) (by omega), iI_inc]
          exact ⟨fun _ => ih (k + 1) z (by omega) hz, fun c => ih (k + 1) (k : Nat) (by omega) (Or.inr ⟨k, rfl, by omega, by omega, w, hw, by omega⟩)⟩
theorem p_b128 : ∀ (d t v : Nat) (h s : Nat → Nat) (hd se so ki : Nat → Int32) (glm rom hel : Int32) (nw nx : Nat → Int32), t + d = 14 → sumN 34 h = 13 → (∀ j, j < 34 → h j + s j ≤ 4) → rowN 34 hd h → rowN 34 se s → isMt h zN 0 v → v + t ≤ 14 →
    w_L_law_b128 L xs 0 27 27 1 8 (fun _ => 0) (fun _ => 0) (d + 1) (iI (v : Nat)) (iI (t : Nat)) (iI (sumN 34 h : Nat)) hd se so ki glm rom hel nw nx aa := by
  intro d
  induction d with
  | zero =>
    intro t v h s hd se so ki glm rom hel nw nx ht hs h4 r1 r3 hv hvt
    rw [w_L_law_b128, n14, iI_le' (a := 14) (b := t) (by omega) (by omega)]
    exact ⟨fun _ => p_b352 hs h4 r1 r3 (by omega), fun c => absurd (by omega) c⟩
  | succ d ih =>
    intro t v h s hd se so ki glm rom hel nw nx ht hs h4 r1 r3 hv hvt
    have v14 := isMt_le hv
    rw [w_L_law_b128, n14, iI_le' (a := 14) (b := t) (by omega) (by omega)]
    refine ⟨fun c => absurd c (by omega), fun _ => ?_⟩
    have e1 : (iI (v : Int) ≤ (1 : Int32)) ↔ v ≤ 1 := by rw [n1, iI_le' (a := v) (b := 1) (by omega) (by omega)]
    rw [e1]
    refine ⟨fun c => p_b352 hs h4 r1 r3 c, fun c => ⟨35, Nat.le_refl _, ?_⟩⟩
    have a := p_b146 (L := L) (xs := xs) (so := so) (ki := ki) (glm := glm) (rom := rom) (hel := hel) (nw := nw) (nx := nx) (aa := aa) (t := t) (K128 := w_L_law_b128 L xs 0 27 27 1 8 (fun _ => 0) (fun _ => 0) (d + 1)) hs h4 r1 r3 hv (by omega) (fun h s hd se so ki glm rom hel nw nx a1 a2 a3 a4 a5 => ih (t + 1) (v - 1) h s hd se so ki glm rom hel nw nx (by omega) a1 a2 a3 a4 a5 (by omega)) 34 0 (-1) (by omega) (Or.inl rfl)
    rw [← iI_m1, show iI (((0 : Nat)) : Int) = (0 : Int32) from n0.symm] at a
    exact a
theorem p_b102 (h13 : sumN 34 h ≤ 13) (hh4 : ∀ j, j < 34 → h j ≤ 4) (r1 : rowN 34 hd h) : w_L_law_b102 L xs 0 27 27 1 8 (fun _ => 0) (fun _ => 0) (iI (sumN 34 h : Nat)) hd (fun _ => 0) so ki glm rom hel nw nx aa := by
  unfold w_L_law_b102
  refine q_sz ?_
  rw [n13, iI_le' (a := 13) (b := sumN 34 h) (by omega) (by omega)]
  refine ⟨fun c => q_miss r1 hh4 (fun v glm rom hel nw nx hv => ?_), fun _ => trivial⟩
  have v1 := isMt_pos (by omega) hv
  have v14 := isMt_le hv
  rw [n1, iI_le' (a := 1) (b := v) (by omega) (by omega), ← n1]
  refine ⟨fun _ => ⟨15, Nat.le_refl _, ?_⟩, fun c => absurd v1 c⟩
  have a := p_b128 (L := L) (xs := xs) (aa := aa) 14 0 v h zN hd (fun _ => 0) so ki glm rom hel nw nx (by omega) (by omega) (fun j hj => by have := hh4 j hj; show h j + 0 ≤ 4; omega) r1 rz hv (by omega)
  rw [show iI (((0 : Nat)) : Int) = (0 : Int32) from n0.symm] at a
  exact a
end TIME
