theorem p_in02 {a : Nat} (ha : a ≤ 2) {post : Int32 → Prop} (q : post 1) : w_X2_isIn (iI a) (0 : Int32) (2 : Int32) post := by
  unfold w_X2_isIn
  rw [iI_lt0 ⟨by omega, by omega⟩, n2, iI_lt' (a := 2) (b := a) (by omega) (by omega)]
  exact ⟨fun c => by omega, fun _ => ⟨fun c => by omega, fun _ => q⟩⟩
theorem p_cMeld {h l : Nat → Nat} {hd la so ki op : Nat → Int32} {M a k tc : Nat} {f : Int32} (hh : rowN 34 hd h) (hl : rowN 34 la l) (h4 : ∀ k, k < 34 → h k ≤ 4) (hk : k < 34) (ha : a ≤ 2) (hb : a = 0 → br k) (hM3 : M < 4) (hp : hld3 h a k) (ht : (if a = 2 then 4 else 3) ≤ tc) {post : Int32 → Int32 → Int32 → (Nat → Int32) → (Nat → Int32) → (Nat → Int32) → (Nat → Int32) → (Nat → Int32) → Prop}
    (hq : ∀ hd la, rowN 34 hd (mh h a k) → rowN 34 la (ml l a k) → post (iI ((tc - (if a = 2 then 4 else 3)) + 3 * (M + 1) : Nat)) (iI (tc - (if a = 2 then 4 else 3) : Nat)) (iI (M + 1 : Nat)) hd la (upd so M (iI a)) (upd ki M (iI k)) (upd op M (vp_nar .boolean f))) : w_X1_meld (iI tc) (iI M) hd la so ki op (iI a) (iI k) f post := by
  have fin : ∀ hd la, rowN 34 hd (mh h a k) → rowN 34 la (ml l a k) → w_X1_meld_b89 post (iI a) (iI k) f (iI (tc - (if a = 2 then 4 else 3) : Nat)) (iI M) hd la so ki op := fun hd la g1 g2 => by
    unfold w_X1_meld_b89
    rw [iI_ix M (by omega), iI_inc]
    exact ⟨iI_in' (by omega) (by omega), iI_in' (by omega) (by omega), iI_in' (by omega) (by omega), p_sizeNow (hq hd la g1 g2)⟩
  have mid : w_X1_meld_b44 post (iI a) (iI k) f (iI tc) (iI M) hd la so ki op := by
    unfold hld3 at hp
    unfold mh ml at fin
    unfold w_X1_meld_b44 w_X1_meld_b86
    rw [n4, n3, iI_lt' (a := M) (b := 4) (by omega) (by omega), iI_eq0 (z := (a : Nat)) ⟨by omega, by omega⟩, n2, iI_eq' (a := a) (b := 2) (by omega) (by omega)]
    refine ⟨fun _ => ⟨fun c => ?_, fun c => ⟨fun c2 => ?_, fun c2 => ?_⟩⟩, fun z => absurd hM3 z⟩
    · have c' : a = 0 := by omega
      have k2 : k + 2 < 34 := by have := (hb c').1; have := (hb c').2; omega
      rw [if_pos c'] at hp
      rw [if_pos c', if_pos c', if_neg (show ¬ a = 2 by omega)] at fin
      rw [if_neg (show ¬ a = 2 by omega)] at ht
      exact p_layRow hh hl h4 k2 hp ht fin
    · rw [if_neg (show ¬ a = 0 by omega)] at hp
      rw [if_neg (show ¬ a = 0 by omega), if_neg (show ¬ a = 0 by omega), if_pos c2, show a + 2 = 4 by omega] at fin
      rw [if_pos c2] at ht
      exact p_layA hh hl h4 hk (by omega) ht fin
    · rw [if_neg (show ¬ a = 0 by omega)] at hp
      rw [if_neg (show ¬ a = 0 by omega), if_neg (show ¬ a = 0 by omega), if_neg c2, show a + 2 = 3 by omega] at fin
      rw [if_neg c2] at ht
      exact p_layA hh hl h4 hk (by omega) ht fin
  unfold w_X1_meld
  refine p_reqKind_y hk ?_
  rw [iI_lt0 ⟨by omega, by omega⟩, iI_eq0 ⟨by omega, by omega⟩, n2, iI_le' (a := a) (b := 2) (by omega) (by omega)]
  exact ⟨fun z => by omega, fun _ => ⟨fun _ => ⟨fun c => p_cbr hk (fun _ => ⟨fun z => absurd z i10, fun _ => mid⟩) (fun z => absurd (hb (by omega)) z), fun _ => mid⟩, fun z => absurd ha z⟩⟩
theorem p_cMeld_s {h : Nat → Nat} {hd la so ki op : Nat → Int32} {M a k : Nat} {tc f : Int32} (hh : rowN 34 hd h) (h4 : ∀ k, k < 34 → h k ≤ 4) (hk : k < 34) (ha : a ≤ 2) (hb : a = 0 → br k) (hM4 : M ≤ 4) (no : M = 4 ∨ ¬ hld3 h a k) {px : String → Int32 → Int32 → (Nat → Int32) → (Nat → Int32) → (Nat → Int32) → (Nat → Int32) → (Nat → Int32) → Prop}
    (hq : px "java/lang/IllegalStateException" tc (iI M) hd la so ki op) : w_X1_meld_x tc (iI M) hd la so ki op (iI a) (iI k) f px := by
  have mid : w_X1_meld_x_b44 px (iI a) (iI k) f tc (iI M) hd la so ki op := by
    unfold w_X1_meld_x_b44 w_X1_meld_x_b86
    rw [n4, n3, iI_lt' (a := M) (b := 4) (by omega) (by omega), iI_eq0 (z := (a : Nat)) ⟨by omega, by omega⟩, n2, iI_eq' (a := a) (b := 2) (by omega) (by omega)]
    refine ⟨fun z => ?_, fun _ => hq⟩
    have no : ¬ hld3 h a k := no.elim (fun y => absurd y (by omega)) id
    unfold hld3 at no
    refine ⟨fun c => Or.inr ?_, fun c => ⟨fun c2 => Or.inr ?_, fun c2 => Or.inr ?_⟩⟩
    · have c' : a = 0 := by omega
      have k2 : k + 2 < 34 := by have := (hb c').1; have := (hb c').2; omega
      rw [if_pos c'] at no
      exact p_layRow_x hh h4 k2 no hq
    · rw [if_neg (show ¬ a = 0 by omega)] at no
      exact p_layA_x hh h4 hk (by omega) (by omega) hq
    · rw [if_neg (show ¬ a = 0 by omega)] at no
      exact p_layA_x hh h4 hk (by omega) (by omega) hq
  unfold w_X1_meld_x
  refine Or.inl (p_reqKind_y hk ?_)
  rw [iI_lt0 ⟨by omega, by omega⟩, iI_eq0 ⟨by omega, by omega⟩, n2, iI_le' (a := a) (b := 2) (by omega) (by omega)]
  exact ⟨fun z => by omega, fun _ => ⟨fun _ => ⟨fun c => p_cbr hk (fun _ => ⟨fun z => absurd z i10, fun _ => mid⟩) (fun z => absurd (hb (by omega)) z), fun _ => mid⟩, fun z => absurd ha z⟩⟩
theorem p_cMeld_a {hd la so ki op : Nat → Int32} {M k : Nat} {p tc f : Int32} (hk : k < 34) (no : (p < iI (0 : Nat) ∨ ¬ p < iI (0 : Nat) ∧ iI (2 : Nat) < p) ∨ p = iI (0 : Nat) ∧ ¬ br k) {px : String → Int32 → Int32 → (Nat → Int32) → (Nat → Int32) → (Nat → Int32) → (Nat → Int32) → (Nat → Int32) → Prop}
    (hq : px "java/lang/IllegalArgumentException" tc (iI M) hd la so ki op) : w_X1_meld_x tc (iI M) hd la so ki op p (iI k) f px := by
  unfold w_X1_meld_x w_X1_meld_x_b13
  refine Or.inl (p_reqKind_y hk ?_)
  rcases no with (z | ⟨z, z2⟩) | ⟨z, z2⟩
  · rw [← n0] at z
    exact ⟨fun _ => hq, fun y => absurd z y⟩
  · rw [← n0] at z
    have hx := r32_of p
    refine ⟨fun y => absurd y z, fun _ => ⟨fun y => absurd z2 ?_, fun _ => hq⟩⟩
    rw [iI_of p, n2, iI_le hx ⟨by omega, by omega⟩] at y
    rw [iI_of p, iI_lt ⟨by omega, by omega⟩ hx]
    omega
  · rw [z, iI_lt0 ⟨by omega, by omega⟩, iI_eq0 ⟨by omega, by omega⟩, n2, iI_le' (a := 0) (b := 2) (by omega) (by omega)]
    exact ⟨fun y => by omega, fun _ => ⟨fun _ => ⟨fun _ => p_cbr hk (fun y => absurd y z2) (fun _ => ⟨fun _ => hq, fun y => absurd rfl y⟩), fun y => absurd rfl y⟩, fun y => absurd (by omega) y⟩⟩
section MMELD
variable {h l : Nat → Nat} {hM lM oM kM zM : Nat → Int32} {M a k : Nat} {thr f : Int32} {post : Int32 → Int32 → Int32 → (Nat → Int32) → (Nat → Int32) → (Nat → Int32) → (Nat → Int32) → (Nat → Int32) → Prop}
theorem p_mMeld_top (hk : k < 34) (ha : a ≤ 2) (hb : a = 0 → br k) (q : w_X2_meld_b44 post (iI a) (iI k) f 0 (iI M) hM lM oM kM zM) : w_X2_meld thr (iI M) hM lM oM kM zM (iI a) (iI k) f post := by
  unfold w_X2_meld
  refine p_mKind_y hk ⟨fun z => absurd z i10, fun _ => p_in02 ha ⟨fun z => absurd z i10, fun _ => ?_⟩⟩
  rw [iI_eq0 ⟨by omega, by omega⟩]
  exact ⟨fun c => p_mbr hk (fun _ => ⟨fun z => absurd z i10, fun _ => q⟩) (fun z => absurd (hb (by omega)) z), fun _ => q⟩
theorem p_mMeld_a {p : Int32} (hk : k < 34) (no : (p < iI (0 : Nat) ∨ ¬ p < iI (0 : Nat) ∧ iI (2 : Nat) < p) ∨ p = iI (0 : Nat) ∧ ¬ br k) (q : post 0 2 (iI M) hM lM oM kM zM) : w_X2_meld thr (iI M) hM lM oM kM zM p (iI k) f post := by
  unfold w_X2_meld w_X2_meld_b38
  refine p_mKind_y hk ⟨fun z => absurd z i10, fun _ => ?_⟩
  rcases no with z | ⟨z, z2⟩
  · rw [← n0, ← n2] at z
    exact p_in_n z ⟨fun _ => q, fun y => absurd rfl y⟩
  · rw [z]
    refine p_in02 (by omega) ⟨fun y => absurd y i10, fun _ => ?_⟩
    rw [iI_eq0 ⟨by omega, by omega⟩]
    exact ⟨fun _ => p_mbr hk (fun y => absurd y z2) (fun _ => ⟨fun _ => q, fun y => absurd rfl y⟩), fun y => absurd rfl y⟩
theorem p_m104_n {s1 : Int32} (hM4 : M ≤ 4) (no : M = 4 ∨ s1 = 0) (q : post 0 3 (iI M) hM lM oM kM zM) : w_X2_meld_b104 post (iI a) (iI k) f s1 0 (iI M) hM lM oM kM zM := by
  unfold w_X2_meld_b104 w_X2_meld_b119
  rw [n4, iI_eq' (a := M) (b := 4) (by omega) (by omega)]
  refine ⟨fun _ => q, fun z => ⟨fun _ => q, fun y => ?_⟩⟩
  rcases no with e | e
  · exact absurd e y
  · exact absurd e z
theorem p_m104_y (hh : rowN 34 hM h) (hl : rowN 34 lM l) (hk : k < 34) (ha : a ≤ 2) (hb : a = 0 → br k) (hM3 : M < 4) (hp : hld3 h a k) (h4 : ∀ k, k < 34 → h k ≤ 4)
    (hq : ∀ hM lM, rowN 34 hM (mh h a k) → rowN 34 lM (ml l a k) → post (iI (sumN 34 (mh h a k) + 3 * (M + 1) : Nat)) 0 (iI (M + 1 : Nat)) hM lM (upd oM M (iI a)) (upd kM M (iI k)) (upd zM M (vp_nar .boolean f))) : w_X2_meld_b104 post (iI a) (iI k) f 1 0 (iI M) hM lM oM kM zM := by
  have fin : ∀ hM lM, rowN 34 hM (mh h a k) → rowN 34 lM (ml l a k) → w_X2_meld_b164 post (iI a) (iI k) f 0 (iI M) hM lM oM kM zM := fun hM lM g1 g2 => by
    unfold w_X2_meld_b164
    rw [iI_ix M (by omega), iI_inc]
    exact ⟨iI_in' (by omega) (by omega), iI_in' (by omega) (by omega), iI_in' (by omega) (by omega), p_sizeOf g1 (hq hM lM g1 g2)⟩
  unfold hld3 at hp
  unfold mh ml at fin
  unfold w_X2_meld_b104
  rw [n4, iI_eq' (a := M) (b := 4) (by omega) (by omega), iI_eq0 (z := (a : Nat)) ⟨by omega, by omega⟩, n2, iI_add']
  refine ⟨fun z => absurd z i10, fun _ => ⟨fun z => absurd z (by omega), fun _ => ⟨fun c => ⟨4, ?_⟩, fun c => ?_⟩⟩⟩
  · have c' : a = 0 := by omega
    have k2 : k + 2 < 34 := by have := (hb c').1; have := (hb c').2; omega
    rw [if_pos c'] at hp
    rw [if_pos c', if_pos c'] at fin
    obtain ⟨p1, p2, p3⟩ := hp
    have e3 : iI (k : Int) + (3 : Int32) = iI ((k + 3 : Nat) : Int) := by rw [n3, iI_add']
    rw [w_X2_meld_b132, e3, iI_le' (a := k + 3) (b := k) (by omega) (by omega), iI_inc]
    refine ⟨fun z => absurd z (by omega), fun _ => p_mlay1 hh hl (by omega) p1 (fun hM1 lM1 g1 g2 => ?_)⟩
    have n1e : nup h k (h k - 1) (k + 1) = h (k + 1) := nup_ne _ _ (by omega)
    have n1l : nup l k (l k + 1) (k + 1) = l (k + 1) := nup_ne _ _ (by omega)
    rw [w_X2_meld_b132, e3, iI_le' (a := k + 3) (b := k + 1) (by omega) (by omega), iI_inc]
    refine ⟨fun z => absurd z (by omega), fun _ => p_mlay1 g1 g2 (by omega) (by rw [n1e]; omega) (fun hM2 lM2 g3 g4 => ?_)⟩
    rw [n1e] at g3
    rw [n1l] at g4
    have n2e : nup (nup h k (h k - 1)) (k + 1) (h (k + 1) - 1) (k + 1 + 1) = h (k + 2) := by rw [nup_ne _ _ (by omega), nup_ne _ _ (by omega)]
    have n2l : nup (nup l k (l k + 1)) (k + 1) (l (k + 1) + 1) (k + 1 + 1) = l (k + 2) := by rw [nup_ne _ _ (by omega), nup_ne _ _ (by omega)]
    rw [w_X2_meld_b132, e3, iI_le' (a := k + 3) (b := k + 1 + 1) (by omega) (by omega), iI_inc]
    refine ⟨fun z => absurd z (by omega), fun _ => p_mlay1 g3 g4 (by omega) (by rw [n2e]; omega) (fun hM3 lM3 g5 g6 => ?_)⟩
    rw [n2e] at g5
    rw [n2l] at g6
    rw [w_X2_meld_b132, e3, iI_le' (a := k + 3) (b := k + 1 + 1 + 1) (by omega) (by omega)]
    refine ⟨fun _ => ?_, fun z => absurd (by omega) z⟩
    exact fin hM3 lM3 g5 g6
  · rw [if_neg (show ¬ a = 0 by omega)] at hp
    rw [if_neg (show ¬ a = 0 by omega), if_neg (show ¬ a = 0 by omega)] at fin
    exact p_mlay hh hl hk hp fin
theorem p_m44 (hh : rowN 34 hM h) (hk : k < 34) (ha : a ≤ 2) (hb : a = 0 → br k) (h4 : ∀ k, k < 34 → h k ≤ 4)
    (h1 : hld3 h a k → w_X2_meld_b104 post (iI a) (iI k) f 1 0 (iI M) hM lM oM kM zM) (h0 : ¬ hld3 h a k → w_X2_meld_b104 post (iI a) (iI k) f 0 0 (iI M) hM lM oM kM zM) : w_X2_meld_b44 post (iI a) (iI k) f 0 (iI M) hM lM oM kM zM := by
  have b0 := h4 k hk
  unfold hld3 at h1 h0
  unfold w_X2_meld_b44 w_X2_meld_b83
  rw [iI_eq0 (z := (a : Nat)) ⟨by omega, by omega⟩]
  refine ⟨fun c => ?_, fun c => ?_⟩
  · have c' : a = 0 := by omega
    have k2 : k + 2 < 34 := by have := (hb c').1; have := (hb c').2; omega
    rw [if_pos c'] at h1 h0
    have b1 := h4 (k + 1) (by omega)
    have b2 := h4 (k + 2) (by omega)
    have e2 : iI (k : Int) + (2 : Int32) = iI ((k + 2 : Nat) : Int) := by rw [n2, iI_add']
    rw [iI_inc, e2, iI_ix k (by omega), iI_ix (k + 1) (by omega), iI_ix (k + 2) (by omega), hh k hk, hh (k + 1) (by omega), hh (k + 2) (by omega), iI_le0 (z := (h k : Nat)) ⟨by omega, by omega⟩, iI_le0 (z := (h (k + 1) : Nat)) ⟨by omega, by omega⟩, iI_le0 (z := (h (k + 2) : Nat)) ⟨by omega, by omega⟩]
    exact ⟨iI_in' (by omega) (by omega), fun z => h0 (fun y => by have := y.1; omega), fun z => ⟨iI_in' (by omega) (by omega), fun z2 => h0 (fun y => by have := y.2.1; omega), fun z2 => ⟨iI_in' (by omega) (by omega), fun z3 => h0 (fun y => by have := y.2.2; omega), fun z3 => h1 ⟨by omega, by omega, by omega⟩⟩⟩⟩
  · rw [if_neg (show ¬ a = 0 by omega)] at h1 h0
    rw [iI_ix k (by omega), hh k hk, n2, iI_add', iI_lt' (a := h k) (b := a + 2) (by omega) (by omega)]
    exact ⟨iI_in' (by omega) (by omega), fun z => h0 (by omega), fun z => h1 (by omega)⟩
end MMELD
section MELD
variable {L : Nat} {xs : Nat → Int32} {i : Nat} {h l s σ κ ω : Nat → Nat} {M sw rw B Lm : Nat} {hd la se so ki op : Nat → Int32} {glm rom hel : Int32} {nw nx : Nat → Int32} {thr : Int32} {hM sM lM oM kM zM rM gM bM xM : Nat → Int32} {ou : Nat → Int64}
theorem inv_c3_b {p q f : Int32} (hL : L ≤ 2048) (hi : i + 4 ≤ L) (hp : p = xs (i + 1)) (hq : q = xs (i + 2)) (hf : f = if xs (i + 3) = 0 then 0 else 1) (hS : St h l s σ κ ω M sw rw B Lm) (hR : Rw h l s σ κ ω M hd la se so ki op hM sM lM oM kM zM) : w_L_c3_b331 L xs (iI (i : Int)) InvL f q p (iI (sumN 34 h : Nat)) (iI M) (iI sw) (iI rw) (iI B) (iI Lm) hd la se so ki op glm rom hel nw nx thr (iI M) (iI sw) (iI rw) (iI B) (iI Lm) hM sM lM oM kM zM rM gM bM xM ou := by
  obtain ⟨s1, s2, s3, s4, s5, s6, s7, s8, s9, s10, s11⟩ := id hS
  obtain ⟨⟨r1, r2, r3, r4, r5, r6⟩, ⟨m1, m2, m3, m4, m5, m6⟩⟩ := id hR
  have hσ : ∀ i, i < M → σ i ≤ 2 := fun i hi => (s4 i hi).1
  have hκ : ∀ i, i < M → κ i < 34 := fun i hi => (s4 i hi).2.1
  have hω : ∀ i, i < M → ω i ≤ 1 := fun i hi => (s4 i hi).2.2
  have hsw : sw < 100 := by omega
  have hrw : rw < 100 := by omega
  have h4 : ∀ k, k < 34 → h k ≤ 4 := fun k hk => by have := s1 k hk; omega
  have l4 : ∀ k, k < 34 → l k ≤ 4 := fun k hk => by have := s1 k hk; omega
  have hl4 : ∀ k, k < 34 → h k + l k ≤ 4 := fun k hk => by have := s1 k hk; omega
  have l16 : sumN 34 l ≤ 16 := by
    have := sumN_bd (n := M) (f := lsz σ) (c := 4) (fun k _ => by unfold lsz; split <;> omega)
    omega
  have again : ∀ (w TC MC : Int32) (HD LA SO KI OP : Nat → Int32) (OU : Nat → Int64), (w_L_c3_b364 L xs (iI (i : Int)) InvL w f q p TC MC (iI sw) (iI rw) (iI B) (iI Lm) HD LA se SO KI OP glm rom hel nw nx thr (iI M) (iI sw) (iI rw) (iI B) (iI Lm) hM sM lM oM kM zM rM gM bM xM OU) → (vp_in (iI (i : Int) + (1 : Int32)) L ∧ (vp_in (iI (i : Int) + (2 : Int32)) L ∧ (vp_in (iI (i : Int) + (3 : Int32)) L ∧ ((((xs (iI (i : Int) + (3 : Int32)).toNatClampNeg) = 0 → (w_L_c3_b364 L xs (iI (i : Int)) InvL w (0 : Int32) (xs (iI (i : Int) + (2 : Int32)).toNatClampNeg) (xs (iI (i : Int) + (1 : Int32)).toNatClampNeg) TC MC (iI sw) (iI rw) (iI B) (iI Lm) HD LA se SO KI OP glm rom hel nw nx thr (iI M) (iI sw) (iI rw) (iI B) (iI Lm) hM sM lM oM kM zM rM gM bM xM OU)) ∧ (¬ (xs (iI (i : Int) + (3 : Int32)).toNatClampNeg) = 0 → (w_L_c3_b364 L xs (iI (i : Int)) InvL w (1 : Int32) (xs (iI (i : Int) + (2 : Int32)).toNatClampNeg) (xs (iI (i : Int) + (1 : Int32)).toNatClampNeg) TC MC (iI sw) (iI rw) (iI B) (iI Lm) HD LA se SO KI OP glm rom hel nw nx thr (iI M) (iI sw) (iI rw) (iI B) (iI Lm) hM sM lM oM kM zM rM gM bM xM OU))))))) := fun w TC MC HD LA SO KI OP OU y => by
    have e2 : iI (i : Int) + (2 : Int32) = iI ((i + 2 : Nat) : Int) := by rw [n2, iI_add']
    have e3 : iI (i : Int) + (3 : Int32) = iI ((i + 3 : Nat) : Int) := by rw [n3, iI_add']
    rw [iI_inc, e2, e3, iI_ix (i + 1) (by omega), iI_ix (i + 2) (by omega), iI_ix (i + 3) (by omega), ← hp, ← hq]
    refine ⟨iI_in' (by omega) (by omega), iI_in' (by omega) (by omega), iI_in' (by omega) (by omega), fun c => ?_, fun c => ?_⟩
    · rw [if_pos c] at hf; rw [← hf]; exact y
    · rw [if_neg c] at hf; rw [← hf]; exact y
  have hfo : ∃ o : Nat, o ≤ 1 ∧ vp_nar .boolean f = iI (o : Nat) := by
    rw [hf]
    split
    · exact ⟨0, by omega, by decide⟩
    · exact ⟨1, by omega, by decide⟩
  unfold w_L_c3_b331 w_L_meld
  by_cases hk : isK q
  · obtain ⟨k, hk, ek⟩ := hk
    rw [ek] at again ⊢
    have argu : ((p < iI (0 : Nat) ∨ ¬ p < iI (0 : Nat) ∧ iI (2 : Nat) < p) ∨ p = iI (0 : Nat) ∧ ¬ br k) ∨ ∃ a : Nat, a ≤ 2 ∧ p = iI a ∧ (a = 0 → br k) := by
      rcases in_or p 0 2 (by omega) (by omega) with ⟨a, a1, a2, ea⟩ | z
      · by_cases c : a = 0 ∧ ¬ br k
        · exact Or.inl (Or.inr ⟨by rw [ea, c.1], c.2⟩)
        · exact Or.inr ⟨a, a2, ea, fun z => by
            by_cases y : br k
            · exact y
            · exact absurd ⟨z, y⟩ c⟩
      · exact Or.inl (Or.inl z)
    rcases argu with no | ⟨a, ha, ea, hb⟩
    · refine Or.inr (p_cMeld_a hk no (Or.inr (Or.inl ⟨rfl, again _ _ _ _ _ _ _ _ _ ?_⟩)))
      unfold w_L_c3_b364
      exact p_mMeld_a hk no (blkn i20 (InvL_mk rfl hS hR))
    · rw [ea] at again ⊢
      by_cases no : M = 4 ∨ ¬ hld3 h a k
      · refine Or.inr (p_cMeld_s r1 h4 hk ha hb s2 no (Or.inr (Or.inr ⟨rfl, again _ _ _ _ _ _ _ _ _ ?_⟩)))
        unfold w_L_c3_b364
        refine p_mMeld_top hk ha hb (p_m44 m1 hk ha hb h4 (fun y => p_m104_n s2 ?_ (blkn i30 (InvL_mk rfl hS hR))) (fun y => p_m104_n s2 (Or.inr rfl) (blkn i30 (InvL_mk rfl hS hR))))
        rcases no with z | z
        · exact Or.inl z
        · exact absurd y z
      · have hM3 : M < 4 := by
          have : ¬ M = 4 := fun z => no (Or.inl z)
          omega
        have hld : hld3 h a k := by
          by_cases y : hld3 h a k
          · exact y
          · exact absurd (Or.inr y) no
        have hm := Mv_mk (l := l) hk ha hb hld
        obtain ⟨f1, f2, f3, f4, f5⟩ := id hm
        obtain ⟨o, ho, eo⟩ := hfo
        refine Or.inl (p_cMeld r1 r2 h4 hk ha hb hM3 hld (by omega) (fun hd la g1 g2 => ⟨v01, again _ _ _ _ _ _ _ _ _ ?_⟩))
        unfold w_L_c3_b364
        refine p_mMeld_top hk ha hb (p_m44 m1 hk ha hb h4 (fun _ => p_m104_y m1 m3 hk ha hb hM3 hld h4 (fun hM lM q1 q3 => blk0 ?_ ?_)) (fun y => absurd hld y))
        · rw [ou0, show sumN 34 (mh h a k) = sumN 34 h - (if a = 2 then 4 else 3) by omega]
        · rw [eo]
          exact InvL_mk (by congr 2; omega) (St_meld hS hm hk ha ho hM3) ⟨⟨g1, g2, r3, rowN_push r4, rowN_push r5, rowN_push r6⟩, q1, m2, q3, rowN_push m4, rowN_push m5, rowN_push m6⟩
  · refine Or.inr (Or.inr (p_reqKind_n hk (Or.inl ⟨rfl, again _ _ _ _ _ _ _ _ _ ?_⟩)))
    unfold w_L_c3_b364 w_X2_meld
    exact p_mKind_n hk ⟨fun _ => blkn i10 (InvL_mk rfl hS hR), fun z => absurd rfl z⟩
theorem inv_c3 (hL : L ≤ 2048) (hi : i + 4 ≤ L) (hS : St h l s σ κ ω M sw rw B Lm) (hR : Rw h l s σ κ ω M hd la se so ki op hM sM lM oM kM zM) : w_L_c3 L xs (iI (i : Int)) InvL (iI (sumN 34 h : Nat)) (iI M) (iI sw) (iI rw) (iI B) (iI Lm) hd la se so ki op glm rom hel nw nx thr (iI M) (iI sw) (iI rw) (iI B) (iI Lm) hM sM lM oM kM zM rM gM bM xM ou := by
  obtain ⟨s1, s2, s3, s4, s5, s6, s7, s8, s9, s10, s11⟩ := id hS
  obtain ⟨⟨r1, r2, r3, r4, r5, r6⟩, ⟨m1, m2, m3, m4, m5, m6⟩⟩ := id hR
  have hσ : ∀ i, i < M → σ i ≤ 2 := fun i hi => (s4 i hi).1
  have hκ : ∀ i, i < M → κ i < 34 := fun i hi => (s4 i hi).2.1
  have hω : ∀ i, i < M → ω i ≤ 1 := fun i hi => (s4 i hi).2.2
  have hsw : sw < 100 := by omega
  have hrw : rw < 100 := by omega
  have h4 : ∀ k, k < 34 → h k ≤ 4 := fun k hk => by have := s1 k hk; omega
  have l4 : ∀ k, k < 34 → l k ≤ 4 := fun k hk => by have := s1 k hk; omega
  have hl4 : ∀ k, k < 34 → h k + l k ≤ 4 := fun k hk => by have := s1 k hk; omega
  have l16 : sumN 34 l ≤ 16 := by
    have := sumN_bd (n := M) (f := lsz σ) (c := 4) (fun k _ => by unfold lsz; split <;> omega)
    omega
  unfold w_L_c3
  have e2 : iI (i : Int) + (2 : Int32) = iI ((i + 2 : Nat) : Int) := by rw [n2, iI_add']
  have e3 : iI (i : Int) + (3 : Int32) = iI ((i + 3 : Nat) : Int) := by rw [n3, iI_add']
  rw [iI_inc, e2, e3, iI_ix (i + 1) (by omega), iI_ix (i + 2) (by omega), iI_ix (i + 3) (by omega)]
  refine ⟨iI_in' (by omega) (by omega), iI_in' (by omega) (by omega), iI_in' (by omega) (by omega), fun c => ?_, fun c => ?_⟩
  · exact inv_c3_b hL hi rfl rfl (by rw [if_pos c]) hS hR
  · exact inv_c3_b hL hi rfl rfl (by rw [if_neg c]) hS hR
end MELD
