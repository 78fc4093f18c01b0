/-! meld -/
def rl (l : Nat → Nat) (k : Nat) : Nat → Nat := nup (nup (nup l k (l k + 1)) (k + 1) (l (k + 1) + 1)) (k + 2) (l (k + 2) + 1)
theorem rl_at (l : Nat → Nat) (k j : Nat) : rl l k j = if j = k ∨ j = k + 1 ∨ j = k + 2 then l j + 1 else l j := by
  unfold rl nup
  by_cases a : j = k
  · subst a; simp
  · by_cases b : j = k + 1
    · subst b; simp
    · by_cases c : j = k + 2
      · subst c; simp
      · simp [a, b, c]
theorem hr_sum {h : Nat → Nat} {k : Nat} (hk : k + 2 < 34) (hp : 0 < h k ∧ 0 < h (k + 1) ∧ 0 < h (k + 2)) : sumN 34 (hr h k) + 3 = sumN 34 h := by
  have a := sumN_nup (f := h) (show k < 34 by omega) (h k - 1)
  have b := sumN_nup (f := nup h k (h k - 1)) (show k + 1 < 34 by omega) (h (k + 1) - 1)
  have c := sumN_nup (f := nup (nup h k (h k - 1)) (k + 1) (h (k + 1) - 1)) (show k + 2 < 34 by omega) (h (k + 2) - 1)
  rw [nup_ne _ _ (show k + 1 ≠ k by omega)] at b
  rw [nup_ne _ _ (show k + 2 ≠ k + 1 by omega), nup_ne _ _ (show k + 2 ≠ k by omega)] at c
  unfold hr
  omega
theorem rl_sum {l : Nat → Nat} {k : Nat} (hk : k + 2 < 34) : sumN 34 (rl l k) = sumN 34 l + 3 := by
  have a := sumN_nup (f := l) (show k < 34 by omega) (l k + 1)
  have b := sumN_nup (f := nup l k (l k + 1)) (show k + 1 < 34 by omega) (l (k + 1) + 1)
  have c := sumN_nup (f := nup (nup l k (l k + 1)) (k + 1) (l (k + 1) + 1)) (show k + 2 < 34 by omega) (l (k + 2) + 1)
  rw [nup_ne _ _ (show k + 1 ≠ k by omega)] at b
  rw [nup_ne _ _ (show k + 2 ≠ k + 1 by omega), nup_ne _ _ (show k + 2 ≠ k by omega)] at c
  unfold rl
  omega
/-- tiles that are laid -/
def Mv (h l h' l' : Nat → Nat) (a k : Nat) : Prop := (∀ j, j < 34 → h' j + l' j = h j + l j) ∧ sumN 34 h' + (if a = 2 then 4 else 3) = sumN 34 h ∧ sumN 34 l' = sumN 34 l + (if a = 2 then 4 else 3) ∧ (∀ j, l j ≤ l' j) ∧ (a = 1 → 3 ≤ l' k ∧ 3 ≤ h k)
def mh (h : Nat → Nat) (a k : Nat) : Nat → Nat := if a = 0 then hr h k else nup h k (h k - (a + 2))
def ml (l : Nat → Nat) (a k : Nat) : Nat → Nat := if a = 0 then rl l k else nup l k (l k + (a + 2))
def hld3 (h : Nat → Nat) (a k : Nat) : Prop := if a = 0 then 0 < h k ∧ 0 < h (k + 1) ∧ 0 < h (k + 2) else a + 2 ≤ h k
theorem Mv_mk {h l : Nat → Nat} {a k : Nat} (hk : k < 34) (ha : a ≤ 2) (hb : a = 0 → br k) (hp : hld3 h a k) : Mv h l (mh h a k) (ml l a k) a k := by
  unfold hld3 at hp
  unfold mh ml
  by_cases e : a = 0
  · rw [if_pos e] at hp
    have k2 : k + 2 < 34 := by have := (hb e).1; have := (hb e).2; omega
    rw [if_pos e, if_pos e]
    refine ⟨fun j hj => ?_, by rw [if_neg (by omega)]; exact hr_sum k2 hp, by rw [if_neg (by omega)]; exact rl_sum k2, fun j => ?_, fun z => by omega⟩
    · rw [hr_at, rl_at]
      by_cases q : j = k ∨ j = k + 1 ∨ j = k + 2
      · rw [if_pos q, if_pos q]
        have : 0 < h j := by rcases q with q | q | q <;> subst q <;> omega
        omega
      · rw [if_neg q, if_neg q]
    · rw [rl_at]; split <;> omega
  · rw [if_neg e] at hp
    rw [if_neg e, if_neg e]
    have s1 := sumN_nup (f := h) hk (h k - (a + 2))
    have s2 := sumN_nup (f := l) hk (l k + (a + 2))
    have ea : (if a = 2 then 4 else 3) = a + 2 := by split <;> omega
    refine ⟨fun j hj => ?_, by rw [ea]; omega, by rw [ea]; omega, fun j => ?_, fun z => ⟨by rw [nup_eq]; omega, by omega⟩⟩
    · by_cases q : j = k
      · subst q; rw [nup_eq, nup_eq]; omega
      · rw [nup_ne _ _ q, nup_ne _ _ q]
    · by_cases q : j = k
      · subst q; rw [nup_eq]; omega
      · rw [nup_ne _ _ q]; exact Nat.le_refl _
theorem St_meld {h l s σ κ ω h' l' : Nat → Nat} {M sw rw B Lm a k o : Nat} (hS : St h l s σ κ ω M sw rw B Lm) (hm : Mv h l h' l' a k) (hk : k < 34) (ha : a ≤ 2) (ho : o ≤ 1) (hM : M < 4) : St h' l' s (nup σ M a) (nup κ M k) (nup ω M o) (M + 1) sw rw B Lm := by
  obtain ⟨s1, s2, s3, s4, s5, s6, s7, s8⟩ := hS
  obtain ⟨f1, f2, f3, f4, f5⟩ := hm
  have c3 : 3 ≤ (if a = 2 then 4 else 3) := by split <;> omega
  refine ⟨fun j hj => by have := f1 j hj; have := s1 j hj; omega, by omega, by omega, fun i hi => ?_, ?_, fun i hi q => ?_, fun i j hi hj qi qj qk => ?_, s8⟩
  · by_cases e : i = M
    · subst e; rw [nup_eq, nup_eq, nup_eq]; exact ⟨ha, hk, ho⟩
    · rw [nup_ne _ _ e, nup_ne _ _ e, nup_ne _ _ e]; exact s4 i (by omega)
  · rw [f3, s5, sumN_succ]
    have e1 : sumN M (lsz (nup σ M a)) = sumN M (lsz σ) := sumN_congr (fun i hi => by unfold lsz; rw [nup_ne _ _ (show i ≠ M by omega)])
    rw [e1]
    congr 1
    unfold lsz; rw [nup_eq]
  · by_cases e : i = M
    · subst e; rw [nup_eq] at q ⊢; exact (f5 q).1
    · rw [nup_ne _ _ e] at q ⊢; exact Nat.le_trans (s6 i (by omega) q) (f4 _)
  · have no : ∀ i, i < M → σ i = 1 → a = 1 → ¬ κ i = k := fun i hi q z e => by
      have := s6 i hi q
      rw [e] at this
      have := (f5 z).2
      have := s1 k hk
      omega
    by_cases e : i = M
    · by_cases e2 : j = M
      · omega
      · subst e
        rw [nup_eq] at qi qk
        rw [nup_ne _ _ e2] at qj qk
        exact absurd qk.symm (no j (by omega) qj qi)
    · by_cases e2 : j = M
      · subst e2
        rw [nup_eq] at qj qk
        rw [nup_ne _ _ e] at qi qk
        exact absurd qk (no i (by omega) qi qj)
      · rw [nup_ne _ _ e] at qi qk
        rw [nup_ne _ _ e2] at qj qk
        exact s7 i j (by omega) (by omega) qi qj qk
theorem rowN_push {M v : Nat} {f : Nat → Int32} {h : Nat → Nat} (q : rowN M f h) : rowN (M + 1) (upd f M (iI v)) (nup h M v) := fun j hj => by
  by_cases e : j = M
  · subst e; unfold upd; rw [if_pos rfl, nup_eq]
  · unfold upd; rw [if_neg e, nup_ne _ _ e]; exact q j (by omega)
theorem p_held1 {h : Nat → Nat} {hd : Nat → Int32} (hh : rowN 34 hd h) (h4 : ∀ k, k < 34 → h k ≤ 4) {k : Nat} (hk : k < 34) (hp : 0 < h k) {post : Prop} (q : post) : w_X1_requireHeld hd (iI k) (1 : Int32) post := by
  have a := h4 k hk
  unfold w_X1_requireHeld
  rw [iI_ix k (by omega), hh k hk, n1, iI_le' (a := 1) (b := h k) (by omega) (by omega)]
  exact ⟨iI_in' hk (by omega), fun _ => q, fun z => absurd (by omega) z⟩
theorem p_held1_x {h : Nat → Nat} {hd : Nat → Int32} (hh : rowN 34 hd h) (h4 : ∀ k, k < 34 → h k ≤ 4) {k : Nat} (hk : k < 34) (hp : h k = 0) {px : String → Prop} (q : px "java/lang/IllegalStateException") : w_X1_requireHeld_x hd (iI k) (1 : Int32) px := by
  have a := h4 k hk
  unfold w_X1_requireHeld_x
  rw [iI_ix k (by omega), hh k hk, n1, iI_le' (a := 1) (b := h k) (by omega) (by omega)]
  exact ⟨iI_in' hk (by omega), fun z => absurd z (by omega), fun _ => q⟩
theorem p_layA1 {h l : Nat → Nat} {hd la : Nat → Int32} (hh : rowN 34 hd h) (hl : rowN 34 la l) (h4 : ∀ k, k < 34 → h k ≤ 4) {k tc : Nat} (hk : k < 34) (hc : 1 ≤ h k) (ht : 1 ≤ tc) {post : Int32 → (Nat → Int32) → (Nat → Int32) → Prop} (hq : ∀ hd la, rowN 34 hd (nup h k (h k - 1)) → rowN 34 la (nup l k (l k + 1)) → post (iI (tc - 1 : Nat)) hd la) : w_X1_layAlike (iI tc) hd la (iI k) (1 : Int32) post := by
  have := p_layA (c := 1) hh hl h4 hk hc ht hq
  rw [← n1] at this
  exact this
theorem nup_le {h : Nat → Nat} (h4 : ∀ k, k < 34 → h k ≤ 4) {k v : Nat} (hv : v ≤ 4) : ∀ j, j < 34 → nup h k v j ≤ 4 := fun j hj => by
  by_cases e : j = k
  · subst e; rw [nup_eq]; exact hv
  · rw [nup_ne _ _ e]; exact h4 j hj
theorem p_layRow {h l : Nat → Nat} {hd la : Nat → Int32} (hh : rowN 34 hd h) (hl : rowN 34 la l) (h4 : ∀ k, k < 34 → h k ≤ 4) {k tc : Nat} (hk : k + 2 < 34) (hp : 0 < h k ∧ 0 < h (k + 1) ∧ 0 < h (k + 2)) (ht : 3 ≤ tc) {post : Int32 → (Nat → Int32) → (Nat → Int32) → Prop} (hq : ∀ hd la, rowN 34 hd (hr h k) → rowN 34 la (rl l k) → post (iI (tc - 3 : Nat)) hd la) : w_X1_layRow (iI tc) hd la (iI k) post := by
  obtain ⟨p1, p2, p3⟩ := hp
  have e3 : iI (k : Int) + (3 : Int32) = iI ((k + 3 : Nat) : Int) := by rw [n3, iI_add']
  have b0 := h4 k (by omega)
  have b1 := h4 (k + 1) (by omega)
  have b2 := h4 (k + 2) (by omega)
  unfold w_X1_layRow
  refine ⟨4, ?_⟩
  rw [w_X1_layRow_b2, e3, iI_le' (a := k + 3) (b := k) (by omega) (by omega), iI_inc]
  refine ⟨fun z => absurd z (by omega), fun _ => p_held1 hh h4 (by omega) p1 ?_⟩
  rw [w_X1_layRow_b2, e3, iI_le' (a := k + 3) (b := k + 1) (by omega) (by omega), iI_inc]
  refine ⟨fun z => absurd z (by omega), fun _ => p_held1 hh h4 (by omega) p2 ?_⟩
  rw [w_X1_layRow_b2, e3, iI_le' (a := k + 3) (b := k + 1 + 1) (by omega) (by omega), iI_inc]
  refine ⟨fun z => absurd z (by omega), fun _ => p_held1 hh h4 (by omega) p3 ?_⟩
  rw [w_X1_layRow_b2, e3, iI_le' (a := k + 3) (b := k + 1 + 1 + 1) (by omega) (by omega)]
  refine ⟨fun _ => ?_, fun z => absurd (by omega) z⟩
  unfold w_X1_layRow_b21
  refine ⟨4, ?_⟩
  rw [w_X1_layRow_b23, e3, iI_le' (a := k + 3) (b := k) (by omega) (by omega), iI_inc]
  refine ⟨fun z => absurd z (by omega), fun _ => p_layA1 hh hl h4 (by omega) p1 (by omega) (fun hd1 la1 g1 g2 => ?_)⟩
  rw [w_X1_layRow_b23, e3, iI_le' (a := k + 3) (b := k + 1) (by omega) (by omega), iI_inc]
  have n1e : nup h k (h k - 1) (k + 1) = h (k + 1) := nup_ne _ _ (by omega)
  have n1l : nup l k (l k + 1) (k + 1) = l (k + 1) := nup_ne _ _ (by omega)
  refine ⟨fun z => absurd z (by omega), fun _ => p_layA1 g1 g2 (nup_le h4 (by omega)) (by omega) (by rw [n1e]; omega) (by omega) (fun hd2 la2 g3 g4 => ?_)⟩
  rw [n1e] at g3
  rw [n1l] at g4
  rw [w_X1_layRow_b23, e3, iI_le' (a := k + 3) (b := k + 1 + 1) (by omega) (by omega), iI_inc]
  have n2e : nup (nup h k (h k - 1)) (k + 1) (h (k + 1) - 1) (k + 1 + 1) = h (k + 2) := by rw [nup_ne _ _ (by omega), nup_ne _ _ (by omega)]
  have n2l : nup (nup l k (l k + 1)) (k + 1) (l (k + 1) + 1) (k + 1 + 1) = l (k + 2) := by rw [nup_ne _ _ (by omega), nup_ne _ _ (by omega)]
  refine ⟨fun z => absurd z (by omega), fun _ => p_layA1 g3 g4 (nup_le (nup_le h4 (by omega)) (by omega)) (by omega) (by rw [n2e]; omega) (by omega) (fun hd3 la3 g5 g6 => ?_)⟩
  rw [n2e] at g5
  rw [n2l] at g6
  rw [w_X1_layRow_b23, e3, iI_le' (a := k + 3) (b := k + 1 + 1 + 1) (by omega) (by omega)]
  refine ⟨fun _ => ?_, fun z => absurd (by omega) z⟩
  rw [show tc - 1 - 1 - 1 = tc - 3 by omega]
  exact hq hd3 la3 g5 g6
theorem p_layRow_x {h : Nat → Nat} {hd la : Nat → Int32} (hh : rowN 34 hd h) (h4 : ∀ k, k < 34 → h k ≤ 4) {k : Nat} {tc : Int32} (hk : k + 2 < 34) (hp : ¬ (0 < h k ∧ 0 < h (k + 1) ∧ 0 < h (k + 2))) {px : String → Int32 → (Nat → Int32) → (Nat → Int32) → Prop} (hq : px "java/lang/IllegalStateException" tc hd la) : w_X1_layRow_x tc hd la (iI k) px := by
  have e3 : iI (k : Int) + (3 : Int32) = iI ((k + 3 : Nat) : Int) := by rw [n3, iI_add']
  unfold w_X1_layRow_x
  refine ⟨4, ?_⟩
  rw [w_X1_layRow_x_b2, e3, iI_le' (a := k + 3) (b := k) (by omega) (by omega), iI_inc]
  refine ⟨fun z => absurd z (by omega), fun _ => ?_⟩
  by_cases c1 : h k = 0
  · exact Or.inr (p_held1_x hh h4 (by omega) c1 hq)
  refine Or.inl (p_held1 hh h4 (by omega) (by omega) ?_)
  rw [w_X1_layRow_x_b2, e3, iI_le' (a := k + 3) (b := k + 1) (by omega) (by omega), iI_inc]
  refine ⟨fun z => absurd z (by omega), fun _ => ?_⟩
  by_cases c2 : h (k + 1) = 0
  · exact Or.inr (p_held1_x hh h4 (by omega) c2 hq)
  refine Or.inl (p_held1 hh h4 (by omega) (by omega) ?_)
  rw [w_X1_layRow_x_b2, e3, iI_le' (a := k + 3) (b := k + 1 + 1) (by omega) (by omega), iI_inc]
  refine ⟨fun z => absurd z (by omega), fun _ => ?_⟩
  by_cases c3 : h (k + 1 + 1) = 0
  · exact Or.inr (p_held1_x hh h4 (by omega) c3 hq)
  have : 0 < h (k + 2) := by show 0 < h (k + 1 + 1); omega
  exact absurd ⟨by omega, by omega, this⟩ hp
/-- the reference's laying -/
theorem p_mlay {h l : Nat → Nat} {hM lM : Nat → Int32} (hh : rowN 34 hM h) (hl : rowN 34 lM l) {k c : Nat} (hk : k < 34) (hc : c ≤ h k) {post : (Nat → Int32) → (Nat → Int32) → Prop} (hq : ∀ hM lM, rowN 34 hM (nup h k (h k - c)) → rowN 34 lM (nup l k (l k + c)) → post hM lM) : w_X2_lay hM lM (iI k) (iI c) post := by
  unfold w_X2_lay
  rw [iI_ix k (by omega), hh k hk, hl k hk, iI_sub' hc, iI_add']
  exact ⟨iI_in' hk (by omega), iI_in' hk (by omega), iI_in' hk (by omega), iI_in' hk (by omega), hq _ _ (rowN_upd hh rfl) (rowN_upd hl rfl)⟩
theorem p_mlay1 {h l : Nat → Nat} {hM lM : Nat → Int32} (hh : rowN 34 hM h) (hl : rowN 34 lM l) {k : Nat} (hk : k < 34) (hc : 1 ≤ h k) {post : (Nat → Int32) → (Nat → Int32) → Prop} (hq : ∀ hM lM, rowN 34 hM (nup h k (h k - 1)) → rowN 34 lM (nup l k (l k + 1)) → post hM lM) : w_X2_lay hM lM (iI k) (1 : Int32) post := by
  have := p_mlay (c := 1) hh hl hk hc hq
  rw [← n1] at this
  exact this
