def dn (h : Nat → Nat) (k : Nat) : Nat → Nat := nup h k (h k - 1)
theorem dn_le (h : Nat → Nat) (k : Nat) : ∀ j, j < 34 → dn h k j ≤ h j := fun j _ => by
  unfold dn
  by_cases e : j = k
  · subst e; rw [nup_eq]; omega
  · rw [nup_ne _ _ e]; exact Nat.le_refl _
theorem dn_back {h : Nat → Nat} {k : Nat} (hp : 0 < h k) : nup (dn h k) k (dn h k k + 1) = h := by
  funext j
  unfold dn
  by_cases e : j = k
  · subst e; rw [nup_eq, nup_eq]; omega
  · rw [nup_ne _ _ e, nup_ne _ _ e]
def isAdv (h l : Nat → Nat) (M j : Nat) : Prop := j < 34 ∧ 0 < h j ∧ ∃ w, isMt (dn h j) l M w ∧ ∀ i, i < 34 → 0 < h i → ∀ v, isMt (dn h i) l M v → w ≤ v ∧ (i < j → w < v)
theorem n15 : (15 : Int32) = iI ((15 : Nat) : Int) := by decide
def advI (h l : Nat → Nat) (M k B : Nat) (z : Int) (b0 : Nat) : Prop := ((∀ i, i < k → h i = 0) ∧ z = -1 ∧ B = b0) ∨ (∃ j : Nat, j < k ∧ 0 < h j ∧ z = j ∧ isMt (dn h j) l M B ∧ ∀ i, i < k → 0 < h i → ∀ v, isMt (dn h i) l M v → B ≤ v ∧ (i < j → B < v))
section ADV
variable {h l : Nat → Nat} {M k B b0 : Nat} {z : Int}
theorem adv_skip (q : advI h l M k B z b0) (e : h k = 0) : advI h l M (k + 1) B z b0 := by
  rcases q with ⟨q1, q2, q3⟩ | ⟨j, j1, j2, j3, j4, j5⟩
  · refine Or.inl ⟨fun i hi => ?_, q2, q3⟩
    by_cases c : i = k
    · subst c; exact e
    · exact q1 i (by omega)
  · refine Or.inr ⟨j, by omega, j2, j3, j4, fun i hi hp => ?_⟩
    have : i ≠ k := fun c => by subst c; omega
    exact j5 i (by omega) hp
theorem adv_worse (q : advI h l M k B z b0) {r : Nat} (hr : isMt (dn h k) l M r) (hb : 15 ≤ b0) (e : B ≤ r) : advI h l M (k + 1) B z b0 := by
  have := isMt_le hr
  rcases q with ⟨q1, q2, q3⟩ | ⟨j, j1, j2, j3, j4, j5⟩
  · omega
  · refine Or.inr ⟨j, by omega, j2, j3, j4, fun i hi hp v hv => ?_⟩
    by_cases c : i = k
    · subst c
      have := isMt_one hr hv
      exact ⟨by omega, fun y => by omega⟩
    · exact j5 i (by omega) hp v hv
theorem adv_better (q : advI h l M k B z b0) {r : Nat} (hr : isMt (dn h k) l M r) (hp : 0 < h k) (e : r < B) : advI h l M (k + 1) r (k : Nat) b0 := by
  refine Or.inr ⟨k, by omega, hp, rfl, hr, fun i hi hpi v hv => ?_⟩
  by_cases c : i = k
  · subst c
    have := isMt_one hr hv
    exact ⟨by omega, fun y => by omega⟩
  · rcases q with ⟨q1, q2, q3⟩ | ⟨j, j1, j2, j3, j4, j5⟩
    · have := q1 i (by omega); omega
    · have := (j5 i (by omega) hpi v hv).1
      exact ⟨by omega, fun _ => by omega⟩
theorem adv_end (q : advI h l M 34 B z b0) (hs : 0 < sumN 34 h) : ∃ j : Nat, z = j ∧ isAdv h l M j := by
  rcases q with ⟨q1, q2, q3⟩ | ⟨j, j1, j2, j3, j4, j5⟩
  · have := sumN_zero q1; omega
  · exact ⟨j, j3, j1, j2, B, j4, j5⟩
theorem adv_stop (q : advI h l M k B z b0) (hk : k ≤ 34) {m : Nat} (hm : isMt h l M m) (hb : 15 ≤ b0) (e : B ≤ m) : ∃ j : Nat, z = j ∧ isAdv h l M j := by
  have := isMt_le hm
  rcases q with ⟨q1, q2, q3⟩ | ⟨j, j1, j2, j3, j4, j5⟩
  · omega
  · refine ⟨j, j3, by omega, j2, B, j4, fun i hi hp v hv => ?_⟩
    by_cases c : i < k
    · exact j5 i c hp v hv
    · have := isMt_mono (dn_le h i) hm hv
      exact ⟨by omega, fun y => by omega⟩
theorem advI_bd (q : advI h l M k B z b0) (hk : k ≤ 34) (hb : b0 ≤ 99) : B ≤ 99 ∧ -1 ≤ z ∧ z ≤ 34 := by
  rcases q with ⟨q1, q2, q3⟩ | ⟨j, j1, j2, j3, j4, j5⟩
  · omega
  · have := isMt_le j4; omega
theorem p_advice {tc : Nat} {hd la nw nx : Nat → Int32} {glm rom hel : Int32} {post : Int32 → Int32 → (Nat → Int32) → Int32 → Int32 → Int32 → (Nat → Int32) → (Nat → Int32) → Prop} (htc : tc = sumN 34 h) (ht : tc < 1000) (h0 : 0 < tc) (hh : rowN 34 hd h) (hl : rowN 34 la l) (h4 : ∀ k, k < 34 → h k ≤ 4) (l4 : ∀ k, k < 34 → l k ≤ 4) (hl16 : sumN 34 l ≤ 16) (hM : M ≤ 4)
    (hq : ∀ (j : Nat) hd glm rom hel nw nx, isAdv h l M j → rowN 34 hd h → post (iI j) (iI tc) hd glm rom hel nw nx) : w_X1_advice (iI tc) (iI M) hd la glm rom hel nw nx post := by
  unfold w_X1_advice
  rw [iI_eq0 ⟨by omega, by omega⟩]
  refine ⟨fun c => absurd c (by omega), fun _ => p_missing hh hl h4 l4 hl16 hM (fun m glm rom hel nw nx hm => ⟨35, ?_⟩)⟩
  have hm14 := isMt_le hm
  have key : ∀ (d k B : Nat) (z : Int) (hd : Nat → Int32) (glm rom hel : Int32) (nw nx : Nat → Int32), k + d = 34 → advI h l M k B z 15 → rowN 34 hd h → w_X1_advice_b30 post (iI M) la (d + 1) (iI m) (iI B) (iI z) (iI k) (iI tc) hd glm rom hel nw nx := by
    intro d
    induction d with
    | zero =>
      intro k B z hd glm rom hel nw nx hk hI hh
      have e : k = 34 := by omega
      subst e
      rw [w_X1_advice_b30, n34, iI_le' (a := 34) (b := 34) (by omega) (by omega)]
      refine ⟨fun _ => ?_, fun c => absurd (by omega) c⟩
      obtain ⟨j, ej, ha⟩ := adv_end hI (by omega)
      rw [ej]; exact hq j hd glm rom hel nw nx ha hh
    | succ d ih =>
      intro k B z hd glm rom hel nw nx hk hI hh
      have a := h4 k (by omega)
      obtain ⟨b1, b2, b3⟩ := advI_bd hI (by omega) (by omega)
      rw [w_X1_advice_b30, n34, iI_le' (a := 34) (b := k) (by omega) (by omega), iI_le' (a := B) (b := m) (by omega) (by omega), iI_ix k (by omega), hh k (by omega), iI_le0 ⟨by omega, by omega⟩]
      unfold w_X1_advice_b84
      rw [iI_inc k]
      refine ⟨fun c => absurd c (by omega), fun _ => ⟨fun c => ?_, fun _ => ⟨iI_in' (by omega) (by omega), fun c => ih (k + 1) B z hd glm rom hel nw nx (by omega) (adv_skip hI (by omega)) hh, fun c => ?_⟩⟩⟩
      · obtain ⟨j, ej, ha⟩ := adv_stop hI (by omega) hm (by omega) c
        rw [ej]; exact hq j hd glm rom hel nw nx ha hh
      · refine p_sub1 hh (by omega) (by omega) h0 (fun hd1 hh1 => ?_)
        refine p_missing hh1 hl (fun j hj => Nat.le_trans (dn_le h k j hj) (h4 j hj)) l4 hl16 hM (fun r glm rom hel nw nx hr => p_add1 hh1 (by omega) (fun hd2 hh2 => ?_))
        have hr' : isMt (dn h k) l M r := hr
        have hr14 := isMt_le hr'
        have hh3 : rowN 34 hd2 h := by
          have e := dn_back (h := h) (k := k) (by omega)
          unfold dn at e
          rw [e] at hh2; exact hh2
        rw [show tc - 1 + 1 = tc by omega, iI_le' (a := B) (b := r) (by omega) (by omega)]
        exact ⟨fun c2 => ih (k + 1) B z hd2 glm rom hel nw nx (by omega) (adv_worse hI hr' (by omega) c2) hh3, fun c2 => ih (k + 1) r (k : Nat) hd2 glm rom hel nw nx (by omega) (adv_better hI hr' (by omega) (by omega)) hh3⟩
  rw [n15, n0, iI_m1]
  exact key 34 0 15 (-1) hd glm rom hel nw nx (by omega) (Or.inl ⟨fun i hi => by omega, rfl, rfl⟩) hh
end ADV
