/-! laying tiles, and grow -/
theorem iI_neg (a c : Nat) (h : c ≤ a) : iI (a : Int) + -iI (c : Int) = iI ((a - c : Nat) : Int) := by
  rw [show -iI (c : Int) = iI (-(c : Int)) from (Int32.ofInt_neg (a := (c : Int))).symm, iI_add]
  congr 1; omega
theorem p_layA {h l : Nat → Nat} {hd la : Nat → Int32} (hh : rowN 34 hd h) (hl : rowN 34 la l) (h4 : ∀ k, k < 34 → h k ≤ 4) {k c tc : Nat} (hk : k < 34) (hc : c ≤ h k) (ht : c ≤ tc) {post : Int32 → (Nat → Int32) → (Nat → Int32) → Prop} (hq : ∀ hd la, rowN 34 hd (nup h k (h k - c)) → rowN 34 la (nup l k (l k + c)) → post (iI (tc - c : Nat)) hd la) : w_X1_layAlike (iI tc) hd la (iI k) (iI c) post := by
  have a := h4 k hk
  unfold w_X1_layAlike w_X1_requireHeld
  rw [iI_ix k (by omega), hh k hk, hl k hk, iI_le' (a := c) (b := h k) (by omega) (by omega)]
  refine ⟨iI_in' hk (by omega), fun _ => p_addTiles hh hk ?_, fun z => absurd hc z⟩
  rw [iI_neg tc c ht, iI_neg (h k) c hc, iI_add']
  exact ⟨iI_in' hk (by omega), iI_in' hk (by omega), hq _ _ (rowN_upd hh rfl) (rowN_upd hl rfl)⟩
theorem p_layA_x {h : Nat → Nat} {hd la : Nat → Int32} (hh : rowN 34 hd h) (h4 : ∀ k, k < 34 → h k ≤ 4) {k c : Nat} {tc : Int32} (hk : k < 34) (hc : h k < c) (hc9 : c < 9) {px : String → Int32 → (Nat → Int32) → (Nat → Int32) → Prop} (hq : px "java/lang/IllegalStateException" tc hd la) : w_X1_layAlike_x tc hd la (iI k) (iI c) px := by
  have a := h4 k hk
  unfold w_X1_layAlike_x
  refine Or.inr ?_
  unfold w_X1_requireHeld_x
  rw [iI_ix k (by omega), hh k hk, iI_le' (a := c) (b := h k) (by omega) (by omega)]
  exact ⟨iI_in' hk (by omega), fun z => absurd z (by omega), fun _ => hq⟩
theorem p_find_y {M k j : Nat} {σ κ : Nat → Nat} {so ki : Nat → Int32} (hM : M ≤ 4) (hσ : ∀ i, i < M → σ i ≤ 2) (hκ : ∀ i, i < M → κ i < 34) (hso : rowN M so σ) (hki : rowN M ki κ) (hk : k < 34) (hj : j < M) (h1 : σ j = 1) (h2 : κ j = k) (un : ∀ i, i < M → σ i = 1 → κ i = k → i = j) {post : Int32 → Prop} (hq : post (iI j)) : w_X1_findThree (iI M) so ki (iI k) post := by
  have key : ∀ (d t : Nat), t + d = j → w_X1_findThree_b2 post (iI M) so ki (iI k) (d + 1) (iI t) := by
    intro d
    induction d with
    | zero =>
      intro t ht
      have e : t = j := by omega
      subst e
      rw [w_X1_findThree_b2, iI_le' (a := M) (b := t) (by omega) (by omega), n4, iI_le' (a := 4) (b := t) (by omega) (by omega), iI_ix t (by omega), hso t hj, hki t hj, n1, iI_eq' (a := σ t) (b := 1) (by omega) (by omega), iI_eq' (a := κ t) (b := k) (by omega) (by omega)]
      exact ⟨fun c => absurd c (by omega), fun _ => ⟨fun c => absurd c (by omega), fun _ => ⟨iI_in' (by omega) (by omega), fun _ => ⟨iI_in' (by omega) (by omega), fun _ => hq, fun c => absurd h2 c⟩, fun c => absurd h1 c⟩⟩⟩
    | succ d ih =>
      intro t ht
      have a := hσ t (by omega)
      have b := hκ t (by omega)
      have nx := ih (t + 1) (by omega)
      rw [w_X1_findThree_b2, iI_le' (a := M) (b := t) (by omega) (by omega), n4, iI_le' (a := 4) (b := t) (by omega) (by omega), iI_ix t (by omega), hso t (by omega), hki t (by omega), n1, iI_eq' (a := σ t) (b := 1) (by omega) (by omega), iI_eq' (a := κ t) (b := k) (by omega) (by omega)]
      unfold w_X1_findThree_b37
      rw [iI_inc]
      exact ⟨fun c => absurd c (by omega), fun _ => ⟨fun c => absurd c (by omega), fun _ => ⟨iI_in' (by omega) (by omega), fun c => ⟨iI_in' (by omega) (by omega), fun c2 => absurd (un t (by omega) c c2) (by omega), fun _ => nx⟩, fun _ => nx⟩⟩⟩
  exact ⟨j + 1, by rw [n0]; exact key j 0 (by omega)⟩
theorem p_find_n {M k : Nat} {σ κ : Nat → Nat} {so ki : Nat → Int32} (hM : M ≤ 4) (hσ : ∀ i, i < M → σ i ≤ 2) (hκ : ∀ i, i < M → κ i < 34) (hso : rowN M so σ) (hki : rowN M ki κ) (hk : k < 34) (no : ∀ i, i < M → σ i = 1 → ¬ κ i = k) {post : Int32 → Prop} (hq : post (-1)) : w_X1_findThree (iI M) so ki (iI k) post := by
  have key : ∀ (d t : Nat), t + d = M → w_X1_findThree_b2 post (iI M) so ki (iI k) (d + 1) (iI t) := by
    intro d
    induction d with
    | zero =>
      intro t ht
      have e : t = M := by omega
      subst e
      rw [w_X1_findThree_b2, iI_le' (a := t) (b := t) (by omega) (by omega)]
      exact ⟨fun _ => hq, fun c => absurd (by omega) c⟩
    | succ d ih =>
      intro t ht
      have a := hσ t (by omega)
      have b := hκ t (by omega)
      have nx := ih (t + 1) (by omega)
      rw [w_X1_findThree_b2, iI_le' (a := M) (b := t) (by omega) (by omega), n4, iI_le' (a := 4) (b := t) (by omega) (by omega), iI_ix t (by omega), hso t (by omega), hki t (by omega), n1, iI_eq' (a := σ t) (b := 1) (by omega) (by omega), iI_eq' (a := κ t) (b := k) (by omega) (by omega)]
      unfold w_X1_findThree_b37
      rw [iI_inc]
      exact ⟨fun c => absurd c (by omega), fun _ => ⟨fun c => absurd c (by omega), fun _ => ⟨iI_in' (by omega) (by omega), fun c => ⟨iI_in' (by omega) (by omega), fun c2 => absurd c2 (no t (by omega) c), fun _ => nx⟩, fun _ => nx⟩⟩⟩
  exact ⟨M + 1, by rw [n0]; exact key M 0 (by omega)⟩
theorem p_mGrow {M k : Nat} {z : Int} {σ κ h : Nat → Nat} {hM lM oM kM : Nat → Int32} {thr : Int32} (hM4 : M ≤ 4) (hσ : ∀ i, i < M → σ i ≤ 2) (hκ : ∀ i, i < M → κ i < 34) (ho : rowN M oM σ) (hkM : rowN M kM κ) (hk : k < 34) {post : Int32 → Int32 → (Nat → Int32) → (Nat → Int32) → (Nat → Int32) → Prop}
    (un : ∀ i, i < M → σ i = 1 → κ i = k → (i : Int) = z) (ex : z = -1 ∨ ∃ j : Nat, j < M ∧ z = j ∧ σ j = 1 ∧ κ j = k)
    (hq : w_X2_grow_b58 post (iI M) kM (iI k) (iI z) 0 hM lM oM) : w_X2_grow thr (iI M) hM lM oM kM (iI k) post := by
  unfold w_X2_grow
  refine p_mKind_y hk ⟨fun y => absurd y i10, fun _ => ⟨M + 1, ?_⟩⟩
  have key : ∀ (d t : Nat) (y : Int), t + d = M → (y = if z < t then z else -1) → w_X2_grow_b22 post (iI M) kM (iI k) (d + 1) (iI y) (iI t) 0 hM lM oM := by
    intro d
    induction d with
    | zero =>
      intro t y ht hy
      have e : t = M := by omega
      subst e
      rw [w_X2_grow_b22, iI_le' (a := t) (b := t) (by omega) (by omega)]
      refine ⟨fun _ => ?_, fun c => absurd (by omega) c⟩
      have : y = z := by
        rw [hy]
        rcases ex with e | ⟨j, j1, j2, _⟩
        · rw [e]; split <;> rfl
        · rw [if_pos (by omega)]
      rw [this]; exact hq
    | succ d ih =>
      intro t y ht hy
      have a := hσ t (by omega)
      have b := hκ t (by omega)
      have keep : ¬ (σ t = 1 ∧ κ t = k) → w_X2_grow_b22 post (iI M) kM (iI k) (d + 1) (iI y) (iI (t + 1 : Nat)) 0 hM lM oM := fun q => ih (t + 1) y (by omega) (by
        rw [hy]
        have : ¬ z = (t : Int) := fun e => by
          rcases ex with e2 | ⟨j, j1, j2, j3, j4⟩
          · omega
          · have : j = t := by omega
            subst this; exact q ⟨j3, j4⟩
        by_cases c : z < (t : Int)
        · rw [if_pos c, if_pos (by omega)]
        · rw [if_neg c, if_neg (by omega)])
      rw [w_X2_grow_b22, iI_le' (a := M) (b := t) (by omega) (by omega), iI_ix t (by omega), ho t (by omega), hkM t (by omega), n1, iI_eq' (a := σ t) (b := 1) (by omega) (by omega), iI_eq' (a := κ t) (b := k) (by omega) (by omega)]
      unfold w_X2_grow_b52
      rw [iI_inc]
      refine ⟨fun c => absurd c (by omega), fun _ => ⟨iI_in' (by omega) (by omega), fun c => ⟨iI_in' (by omega) (by omega), fun c2 => ?_, fun c2 => keep (fun q => c2 q.2)⟩, fun c => keep (fun q => c q.1)⟩⟩
      have e := un t (by omega) c c2
      exact ih (t + 1) (t : Nat) (by omega) (by rw [← e, if_pos (by omega)])
  rw [n0, iI_m1]
  have := key M 0 (-1) (by omega) (by split <;> omega)
  exact this
theorem St_grow {h l s σ κ ω : Nat → Nat} {M sw rw B Lm k j : Nat} (hS : St h l s σ κ ω M sw rw B Lm) (hk : k < 34) (hp : 0 < h k) (hj : j < M) (h1 : σ j = 1) (h2 : κ j = k) : St (nup h k (h k - 1)) (nup l k (l k + 1)) s (nup σ j 2) κ ω M sw rw B Lm := by
  obtain ⟨s1, s2, s3, s4, s5, s6, s7, s8⟩ := hS
  have lle : ∀ i, l i ≤ nup l k (l k + 1) i := fun i => by
    by_cases e : i = k
    · subst e; rw [nup_eq]; omega
    · rw [nup_ne _ _ e]; exact Nat.le_refl _
  have so : ∀ i, nup σ j 2 i = 1 → σ i = 1 := fun i q => by
    by_cases e : i = j
    · subst e; rw [nup_eq] at q; omega
    · rw [nup_ne _ _ e] at q; exact q
  refine ⟨fun i hi => ?_, s2, by have := sum_dn hk hp; omega, fun i hi => ⟨?_, (s4 i hi).2⟩, ?_, fun i hi q => Nat.le_trans (s6 i hi (so i q)) (lle _), fun a b ha hb qa qb qk => s7 a b ha hb (so a qa) (so b qb) qk, s8⟩
  · by_cases e : i = k
    · subst e; rw [nup_eq, nup_eq]; have := s1 i hi; omega
    · rw [nup_ne _ _ e, nup_ne _ _ e]; exact s1 i hi
  · by_cases e : i = j
    · subst e; rw [nup_eq]; omega
    · rw [nup_ne _ _ e]; exact (s4 i hi).1
  · have e1 : sumN M (lsz (nup σ j 2)) = sumN M (nup (lsz σ) j 4) := sumN_congr (fun i _ => by
      by_cases e : i = j
      · subst e; rw [nup_eq]; unfold lsz; rw [nup_eq, if_pos rfl]
      · rw [nup_ne _ _ e]; unfold lsz; rw [nup_ne _ _ e])
    have e2 := sumN_nup (f := lsz σ) hj 4
    have e3 : lsz σ j = 3 := by unfold lsz; rw [if_neg (by omega)]
    rw [sum_up hk, e1]
    omega
section GROW
variable {L : Nat} {xs : Nat → Int32} {i : Nat} {h l s σ κ ω : Nat → Nat} {M sw rw B Lm : Nat} {hd la se so ki op : Nat → Int32} {glm rom hel : Int32} {nw nx : Nat → Int32} {thr : Int32} {hM sM lM oM kM zM rM gM bM xM : Nat → Int32} {ou : Nat → Int64}
theorem inv_c4 (hL : L ≤ 2048) (hi : i + 4 ≤ L) (hS : St h l s σ κ ω M sw rw B Lm) (hR : Rw h l s σ κ ω M hd la se so ki op hM sM lM oM kM zM) : w_L_c4 L xs (iI (i : Int)) InvL (iI (sumN 34 h : Nat)) (iI M) (iI sw) (iI rw) (iI B) (iI Lm) hd la se so ki op glm rom hel nw nx thr (iI M) (iI sw) (iI rw) (iI B) (iI Lm) hM sM lM oM kM zM rM gM bM xM ou := by
  obtain ⟨s1, s2, s3, s4, s5, s6, s7, s8, s9, s10, s11⟩ := id hS
  obtain ⟨⟨r1, r2, r3, r4, r5, r6⟩, ⟨m1, m2, m3, m4, m5, m6⟩⟩ := id hR
  have hσ : ∀ i, i < M → σ i ≤ 2 := fun i hi => (s4 i hi).1
  have hκ : ∀ i, i < M → κ i < 34 := fun i hi => (s4 i hi).2.1
  have hω : ∀ i, i < M → ω i ≤ 1 := fun i hi => (s4 i hi).2.2
  have hsw : sw < 100 := by omega
  have hrw : rw < 100 := by omega
  have h4 : ∀ k, k < 34 → h k ≤ 4 := fun k hk => by have := s1 k hk; omega
  have l4 : ∀ k, k < 34 → l k ≤ 4 := fun k hk => by have := s1 k hk; omega
  have hl4 : ∀ k, k < 34 → h k + l k ≤ 4 := fun k hk => by have := s1 k hk; omega
  have l16 : sumN 34 l ≤ 16 := by
    have := sumN_bd (n := M) (f := lsz σ) (c := 4) (fun k _ => by unfold lsz; split <;> omega)
    omega
  unfold w_L_c4 w_L_grow
  rw [iI_inc, iI_ix (i + 1) (by omega)]
  have vin : vp_in (iI ((i + 1 : Nat) : Int)) L := iI_in' (by omega) (by omega)
  refine ⟨vin, ?_⟩
  generalize xs (i + 1) = p
  by_cases hp : isK p
  · obtain ⟨k, hk, rfl⟩ := hp
    by_cases ex : ∃ j, j < M ∧ σ j = 1 ∧ κ j = k
    · obtain ⟨j, hj, j1, j2⟩ := ex
      have un : ∀ i, i < M → σ i = 1 → κ i = k → i = j := fun i hi a b => s7 i j hi hj a j1 (by omega)
      have hj1 : ¬ iI (j : Int) = (-1 : Int32) := by rw [iI_m1, iI_eq ⟨by omega, by omega⟩ ⟨by omega, by omega⟩]; omega
      by_cases c : h k = 0
      · refine Or.inr (Or.inl (p_reqKind_y hk (p_find_y s2 hσ hκ r4 r5 hk hj j1 j2 un ⟨fun z => absurd z hj1, fun _ => Or.inr ?_⟩)))
        rw [n1]
        refine p_layA_x r1 h4 hk (by omega) (by omega) (Or.inr ⟨rfl, vin, ?_⟩)
        refine p_mGrow (h := h) (z := (j : Int)) s2 hσ hκ m4 m5 hk (fun i hi a b => by rw [un i hi a b]) (Or.inr ⟨j, hj, rfl, j1, j2⟩) ?_
        unfold w_X2_grow_b58 w_X2_grow_b72
        rw [iI_ix k (by omega), m1 k hk, iI_eq0 ⟨by omega, by omega⟩]
        exact ⟨fun z => absurd z hj1, fun _ => ⟨iI_in' (by omega) (by omega), fun _ => blkn i20 (InvL_mk rfl hS hR), fun z => absurd (by omega) z⟩⟩
      · have hsum := sumN_get (f := h) hk
        refine Or.inl (p_reqKind_y hk (p_find_y s2 hσ hκ r4 r5 hk hj j1 j2 un ⟨fun z => absurd z hj1, fun _ => ?_⟩))
        rw [n1]
        refine p_layA r1 r2 h4 hk (by omega) (by omega) (fun hd la g1 g2 => ⟨iI_in' (by omega) (by omega), p_sizeNow ⟨v01, vin, ?_⟩⟩)
        refine p_mGrow (h := h) (z := (j : Int)) s2 hσ hκ m4 m5 hk (fun i hi a b => by rw [un i hi a b]) (Or.inr ⟨j, hj, rfl, j1, j2⟩) ?_
        unfold w_X2_grow_b58 w_X2_lay
        rw [iI_ix k (by omega), m1 k hk, iI_eq0 (z := (h k : Nat)) ⟨by omega, by omega⟩, m3 k hk, n1, iI_sub' (show 1 ≤ h k by omega), iI_add', iI_ix j (by omega)]
        have q1 : rowN 34 (upd hM k (iI (h k - 1 : Nat))) (nup h k (h k - 1)) := rowN_upd m1 rfl
        have q3 : rowN 34 (upd lM k (iI (l k + 1 : Nat))) (nup l k (l k + 1)) := rowN_upd m3 rfl
        refine ⟨fun z => absurd z hj1, fun _ => ⟨iI_in' (by omega) (by omega), fun z => absurd z (by omega), fun _ => ⟨iI_in' (by omega) (by omega), iI_in' (by omega) (by omega), iI_in' (by omega) (by omega), iI_in' (by omega) (by omega), iI_in' (by omega) (by omega), p_sizeOf q1 (blk0 ?_ ?_)⟩⟩⟩
        · have := sum_dn hk (show 0 < h k by omega)
          rw [ou0, show sumN 34 (nup h k (h k - 1)) + 3 * M = sumN 34 h - 1 + 3 * M by omega]
        · refine InvL_mk (by have := sum_dn hk (show 0 < h k by omega); congr 2; omega) (St_grow hS hk (by omega) hj j1 j2) ⟨⟨g1, g2, r3, ?_, r5, r6⟩, q1, m2, q3, rowN_upd m4 n2, m5, m6⟩
          exact rowN_upd r4 n2
    · have no : ∀ i, i < M → σ i = 1 → ¬ κ i = k := fun i hi a b => ex ⟨i, hi, a, b⟩
      refine Or.inr (Or.inl (p_reqKind_y hk (p_find_n s2 hσ hκ r4 r5 hk no ⟨fun _ => Or.inr ⟨rfl, vin, ?_⟩, fun z => absurd rfl z⟩)))
      refine p_mGrow (h := h) (z := -1) s2 hσ hκ m4 m5 hk (fun i hi a b => absurd b (no i hi a)) (Or.inl rfl) ?_
      unfold w_X2_grow_b58 w_X2_grow_b72
      exact ⟨fun _ => blkn i20 (InvL_mk rfl hS hR), fun z => absurd iI_m1.symm z⟩
  · refine Or.inr (Or.inr (p_reqKind_n hp (Or.inl ⟨rfl, vin, ?_⟩)))
    unfold w_X2_grow
    exact p_mKind_n hp ⟨fun _ => blkn i10 (InvL_mk rfl hS hR), fun z => absurd rfl z⟩
end GROW
