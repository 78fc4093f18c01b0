def gso (M : Nat) (σ : Nat → Nat) (g : List Nat) : Nat → Nat := fun i => if i < M then σ i else if 100 ≤ g.getD (i - M) 0 then 1 else 0
def gki (M : Nat) (κ : Nat → Nat) (g : List Nat) : Nat → Nat := fun i => if i < M then κ i else if 100 ≤ g.getD (i - M) 0 then g.getD (i - M) 0 - 100 else g.getD (i - M) 0
def FF (sw rw M : Nat) (σ κ : Nat → Nat) (pair : Nat) (g : List Nat) : Int := (fset sw rw M (gso M σ g) (gki M κ g) pair : Nat)
theorem fset_le (sw rw M : Nat) (so ki : Nat → Nat) (pair : Nat) : fset sw rw M so ki pair ≤ 30 := by
  have b1 := sumN_bd (n := 4) (c := 1) (fun j _ => twi_le so ki M j)
  have b2 := sumN_bd (n := 4) (c := 4) (fun j _ => vli_le sw rw so ki j)
  unfold fset
  split <;> split <;> omega
theorem bsp_bd {F : List Nat → Int} (hF : ∀ g, 0 ≤ F g ∧ F g ≤ 30) : ∀ (n : Nat) (h : Nat → Nat) (acc : List Nat), -1 ≤ bsp F n h acc ∧ bsp F n h acc ≤ 30 := by
  intro n
  induction n with
  | zero => intro h acc; simp only [bsp]; have := hF acc; split <;> omega
  | succ n ih =>
    intro h acc
    simp only [bsp]
    have a := ih (h3 h (fh h)) (acc ++ [100 + fh h])
    have b := ih (hr h (fh h)) (acc ++ [fh h])
    split
    · omega
    · split <;> split <;> omega
theorem getD_app {g : List Nat} {c j : Nat} (h : j < g.length) : (g ++ [c]).getD j 0 = g.getD j 0 := by
  rw [List.getD_eq_getElem?_getD, List.getD_eq_getElem?_getD, List.getElem?_append_left h]
theorem getD_end {g : List Nat} {c : Nat} : (g ++ [c]).getD g.length 0 = c := by
  rw [List.getD_eq_getElem?_getD, List.getElem?_append_right (Nat.le_refl _)]; simp
section CSPLIT
variable {sw rw M : Nat} {σ κ : Nat → Nat} {pair : Nat}
theorem gso_app {acc : List Nat} {c : Nat} {so : Nat → Int32} {v : Nat} (h : rowN (M + acc.length) so (gso M σ acc)) (hv : v = if 100 ≤ c then 1 else 0) : rowN (M + (acc ++ [c]).length) (upd so (M + acc.length) (iI v)) (gso M σ (acc ++ [c])) := by
  intro j hj
  rw [List.length_append, List.length_singleton] at hj
  by_cases e : j = M + acc.length
  · subst e
    unfold upd gso
    rw [if_pos rfl, if_neg (by omega), show M + acc.length - M = acc.length by omega, getD_end, hv]
  · unfold upd
    rw [if_neg e, h j (by omega)]
    unfold gso
    by_cases q : j < M
    · rw [if_pos q, if_pos q]
    · rw [if_neg q, if_neg q, getD_app (by omega)]
theorem gki_app {acc : List Nat} {c : Nat} {ki : Nat → Int32} {v : Nat} (h : rowN (M + acc.length) ki (gki M κ acc)) (hv : v = if 100 ≤ c then c - 100 else c) : rowN (M + (acc ++ [c]).length) (upd ki (M + acc.length) (iI v)) (gki M κ (acc ++ [c])) := by
  intro j hj
  rw [List.length_append, List.length_singleton] at hj
  by_cases e : j = M + acc.length
  · subst e
    unfold upd gki
    rw [if_pos rfl, if_neg (by omega), show M + acc.length - M = acc.length by omega, getD_end, hv]
  · unfold upd
    rw [if_neg e, h j (by omega)]
    unfold gki
    by_cases q : j < M
    · rw [if_pos q, if_pos q]
    · rw [if_neg q, if_neg q, getD_app (by omega)]
theorem gso_back {acc : List Nat} {c : Nat} {so : Nat → Int32} (h : rowN (M + (acc ++ [c]).length) so (gso M σ (acc ++ [c]))) : rowN (M + acc.length) so (gso M σ acc) := by
  intro j hj
  rw [h j (by rw [List.length_append, List.length_singleton]; omega)]
  unfold gso
  by_cases q : j < M
  · rw [if_pos q, if_pos q]
  · rw [if_neg q, if_neg q, getD_app (by omega)]
theorem gki_back {acc : List Nat} {c : Nat} {ki : Nat → Int32} (h : rowN (M + (acc ++ [c]).length) ki (gki M κ (acc ++ [c]))) : rowN (M + acc.length) ki (gki M κ acc) := by
  intro j hj
  rw [h j (by rw [List.length_append, List.length_singleton]; omega)]
  unfold gki
  by_cases q : j < M
  · rw [if_pos q, if_pos q]
  · rw [if_neg q, if_neg q, getD_app (by omega)]
theorem p_firstHeld {hd : Nat → Int32} {h : Nat → Nat} (hh : rowN 34 hd h) (h4 : ∀ k, k < 34 → h k ≤ 100) {post : Int32 → Prop} (hq : post (iI (fh h : Nat))) {p0 : Int32} : ∀ (d k : Nat), k + d = 34 → (∀ j, j < k → h j = 0) → w_X1_firstHeld_b2 post hd p0 (d + 1) (iI k) := by
  intro d
  induction d with
  | zero =>
    intro k hk hl
    have e : k = 34 := by omega
    subst e
    rw [w_X1_firstHeld_b2, n34, iI_le' (a := 34) (b := 34) (by omega) (by omega)]
    rw [fh_is hl (Or.inl rfl)] at hq
    exact ⟨fun _ => hq, fun c => absurd (by omega) c⟩
  | succ d ih =>
    intro k hk hl
    have a := h4 k (by omega)
    rw [w_X1_firstHeld_b2, n34, iI_le' (a := 34) (b := k) (by omega) (by omega), iI_ix k (by omega), hh k (by omega), iI_le0 ⟨by omega, by omega⟩, iI_inc]
    refine ⟨fun c => absurd c (by omega), fun _ => ⟨iI_in' (by omega) (by omega), fun c => ih (k + 1) (by omega) (fun j hj => ?_), fun c => ?_⟩⟩
    · rcases Nat.lt_or_ge j k with e | e
      · exact hl j e
      · have e2 : j = k := by omega
        subst e2; omega
    · rw [fh_is hl (Or.inr ⟨by omega, by omega⟩)] at hq
      exact hq
theorem p_moveRow {hd : Nat → Int32} {k : Nat} (hk : k + 2 < 34) {d : Int32} {post : (Nat → Int32) → Prop} (hq : ∀ hd', (∀ j, (j = k ∨ j = k + 1 ∨ j = k + 2) → hd' j = hd j + d) → (∀ j, ¬ (j = k ∨ j = k + 1 ∨ j = k + 2) → hd' j = hd j) → post hd') : w_X1_moveRow hd (iI k) d post := by
  unfold w_X1_moveRow
  have e1 : iI (k : Int) + 1 = iI ((k + 1 : Nat) : Int) := iI_inc k
  have e2 : iI (k : Int) + 2 = iI ((k + 2 : Nat) : Int) := by rw [n2, iI_add']
  rw [e1, e2, iI_ix k (by omega), iI_ix (k + 1) (by omega), iI_ix (k + 2) (by omega)]
  refine ⟨iI_in' (by omega) (by omega), iI_in' (by omega) (by omega), iI_in' (by omega) (by omega), iI_in' (by omega) (by omega), iI_in' (by omega) (by omega), iI_in' (by omega) (by omega), hq _ (fun j hj => ?_) (fun j hj => ?_)⟩
  · rcases hj with e | e | e <;> subst e <;> simp [upd]
  · have a1 : ¬ j = k := fun z => hj (Or.inl z)
    have a2 : ¬ j = k + 1 := fun z => hj (Or.inr (Or.inl z))
    have a3 : ¬ j = k + 2 := fun z => hj (Or.inr (Or.inr z))
    simp [upd, a1, a2, a3]
theorem hr_at (h : Nat → Nat) (k j : Nat) : hr h k j = if j = k ∨ j = k + 1 ∨ j = k + 2 then h j - 1 else h j := by
  unfold hr nup
  by_cases a : j = k
  · subst a; simp
  · by_cases b : j = k + 1
    · subst b; simp
    · by_cases c : j = k + 2
      · subst c; simp
      · simp [a, b, c]
theorem row_minus {hd hd' : Nat → Int32} {h : Nat → Nat} {k : Nat} (hh : rowN 34 hd h) (hp : 0 < h k ∧ 0 < h (k + 1) ∧ 0 < h (k + 2)) (h1 : ∀ j, (j = k ∨ j = k + 1 ∨ j = k + 2) → hd' j = hd j + (-1)) (h2 : ∀ j, ¬ (j = k ∨ j = k + 1 ∨ j = k + 2) → hd' j = hd j) : rowN 34 hd' (hr h k) := by
  intro j hj
  rw [hr_at]
  by_cases e : j = k ∨ j = k + 1 ∨ j = k + 2
  · rw [if_pos e, h1 j e, hh j hj, iI_m1, iI_add]
    have : 0 < h j := by rcases e with e | e | e <;> subst e <;> omega
    congr 1; omega
  · rw [if_neg e, h2 j e, hh j hj]
theorem row_plus {hd hd' : Nat → Int32} {h : Nat → Nat} {k : Nat} (hh : rowN 34 hd (hr h k)) (hp : 0 < h k ∧ 0 < h (k + 1) ∧ 0 < h (k + 2)) (h1 : ∀ j, (j = k ∨ j = k + 1 ∨ j = k + 2) → hd' j = hd j + 1) (h2 : ∀ j, ¬ (j = k ∨ j = k + 1 ∨ j = k + 2) → hd' j = hd j) : rowN 34 hd' h := by
  intro j hj
  by_cases e : j = k ∨ j = k + 1 ∨ j = k + 2
  · rw [h1 j e, hh j hj, hr_at, if_pos e, iI_l1, iI_add]
    have : 0 < h j := by rcases e with e | e | e <;> subst e <;> omega
    congr 1; omega
  · rw [h2 j e, hh j hj, hr_at, if_neg e]
theorem hr_le {h : Nat → Nat} (h4 : ∀ k, k < 34 → h k ≤ 100) (k : Nat) : ∀ j, j < 34 → hr h k j ≤ 100 := fun j hj => by rw [hr_at]; have := h4 j hj; split <;> omega
theorem h3_le {h : Nat → Nat} (h4 : ∀ k, k < 34 → h k ≤ 100) (k : Nat) : ∀ j, j < 34 → h3 h k j ≤ 100 := fun j hj => by
  unfold h3
  by_cases e : j = k
  · subst e; rw [nup_eq]; have := h4 j hj; omega
  · rw [nup_ne _ _ e]; exact h4 j hj
theorem p_bestSplit (hM : M ≤ 4) (hσ : ∀ i, i < M → σ i ≤ 2) (hκ : ∀ i, i < M → κ i < 34) (hsw : sw < 100) (hrw : rw < 100) (hpair : pair < 34) : ∀ (n d : Nat) (h : Nat → Nat) (acc : List Nat) (fr : Nat) (hd so ki : Nat → Int32) (post : Int32 → (Nat → Int32) → (Nat → Int32) → (Nat → Int32) → Prop),
    n + 1 ≤ d → M + acc.length + n = 4 → (∀ c ∈ acc, c < 134 ∧ (c < 34 ∨ 100 ≤ c)) → rowN 34 hd h → (∀ k, k < 34 → h k ≤ 100) → fr ≤ 34 → (∀ j, j < fr → h j = 0) → rowN (M + acc.length) so (gso M σ acc) → rowN (M + acc.length) ki (gki M κ acc) →
    (∀ hd' so' ki', rowN 34 hd' h → rowN (M + acc.length) so' (gso M σ acc) → rowN (M + acc.length) ki' (gki M κ acc) → post (iI (bsp (FF sw rw M σ κ pair) n h acc)) hd' so' ki') →
    w_X1_bestSplit d (iI M) (iI sw) (iI rw) hd so ki (iI pair) (iI fr) (iI ((M + acc.length : Nat) : Int)) post := by
  have hF : ∀ g, 0 ≤ FF sw rw M σ κ pair g ∧ FF sw rw M σ κ pair g ≤ 30 := fun g => by
    unfold FF
    have := fset_le sw rw M (gso M σ g) (gki M κ g) pair
    omega
  intro n
  induction n with
  | zero =>
    intro d h acc fr hd so ki post hd1 hlen hacc hh h4 hfr hlow hso hki hq
    obtain ⟨d, rfl⟩ : ∃ d', d = d' + 1 := ⟨d - 1, by omega⟩
    rw [w_X1_bestSplit]
    unfold w_X1_bestSplit_s
    refine ⟨34 - fr + 1, p_firstHeld hh h4 ?_ (34 - fr) fr (by omega) hlow⟩
    have hfl := fh_le h
    have hq := hq hd so ki hh hso hki
    simp only [bsp] at hq
    rw [n34, iI_eq' (a := fh h) (b := 34) (by omega) (by omega), n4, iI_eq' (a := M + acc.length) (b := 4) (by omega) (by omega), iI_lt0 ⟨by omega, by omega⟩, iI_lt' (a := M + acc.length) (b := 4) (by omega) (by omega)]
    refine ⟨fun c => ⟨fun _ => ?_, fun c2 => absurd (by omega) c2⟩, fun c => ⟨fun c2 => by omega, fun _ => ⟨fun c2 => by omega, fun _ => ?_⟩⟩⟩
    · rw [if_pos c] at hq
      have hso4 : rowN 4 so (gso M σ acc) := by rw [show 4 = M + acc.length by omega]; exact hso
      have hki4 : rowN 4 ki (gki M κ acc) := by rw [show 4 = M + acc.length by omega]; exact hki
      have hg : ∀ i, i < 4 → ¬ i < M → acc.getD (i - M) 0 < 134 ∧ (acc.getD (i - M) 0 < 34 ∨ 100 ≤ acc.getD (i - M) 0) := fun i hi hn => by
        rw [List.getD_eq_getElem?_getD, List.getElem?_eq_getElem (show i - M < acc.length by omega)]
        exact hacc _ (List.getElem_mem _)
      refine p_fansOfSets hso4 hki4 (fun i hi => ?_) (fun i hi => ?_) hM (by omega) (by omega) hpair ?_
      · unfold gso
        by_cases e : i < M
        · rw [if_pos e]; exact hσ i e
        · rw [if_neg e]; split <;> omega
      · unfold gki
        by_cases e : i < M
        · rw [if_pos e]; have := hκ i e; omega
        · rw [if_neg e]; have := hg i hi e; split <;> omega
      · exact hq
    · rw [if_neg c] at hq
      rw [iI_m1]; exact hq
  | succ n ih =>
    intro d h acc fr hd so ki post hd1 hlen hacc hh h4 hfr hlow hso hki hq
    obtain ⟨d, rfl⟩ : ∃ d', d = d' + 1 := ⟨d - 1, by omega⟩
    rw [w_X1_bestSplit]
    unfold w_X1_bestSplit_s
    refine ⟨34 - fr + 1, p_firstHeld hh h4 ?_ (34 - fr) fr (by omega) hlow⟩
    have hfl := fh_le h
    have hfw : ∀ j, j < fh h → h j = 0 := fun j hj => fh_low h hj
    have hfp : fh h < 34 → 0 < h (fh h) := fun z => fh_pos h z
    simp only [bsp] at hq
    rw [n34, iI_eq' (a := fh h) (b := 34) (by omega) (by omega), n4, iI_eq' (a := M + acc.length) (b := 4) (by omega) (by omega), iI_lt0 ⟨by omega, by omega⟩, iI_lt' (a := M + acc.length) (b := 4) (by omega) (by omega)]
    refine ⟨fun c => ⟨fun c2 => by omega, fun _ => ?_⟩, fun c => ⟨fun c2 => by omega, fun _ => ⟨fun _ => ?_, fun c2 => absurd (by omega) c2⟩⟩⟩
    · rw [if_pos c] at hq
      rw [iI_m1]; exact hq hd so ki hh hso hki
    · rw [if_neg c] at hq
      generalize hk : fh h = k at *
      have hk34 : k < 34 := by omega
      have hkp := hfp hk34
      have hk100 := h4 k hk34
      have key : ∀ (A : Int) (hd so ki : Nat → Int32), A = (if 3 ≤ h k then bsp (FF sw rw M σ κ pair) n (h3 h k) (acc ++ [100 + k]) else -1) → rowN 34 hd h → rowN (M + acc.length) so (gso M σ acc) → rowN (M + acc.length) ki (gki M κ acc) →
          w_X1_splitWithRow (w_X1_bestSplit d) (iI M) (iI sw) (iI rw) hd so ki (iI pair) (iI k) (iI ((M + acc.length : Nat) : Int)) (fun r9 hd9 so9 ki9 => post (if iI A < r9 then r9 else iI A) hd9 so9 ki9) := by
        intro A hd so ki hA hh hso hki
        have hAb : -1 ≤ A ∧ A ≤ 30 := by
          have := bsp_bd hF n (h3 h k) (acc ++ [100 + k])
          rw [hA]; split <;> omega
        rw [← hA] at hq
        have e1 : iI (k : Int) + 1 = iI ((k + 1 : Nat) : Int) := iI_inc k
        have e2 : iI (k : Int) + 2 = iI ((k + 2 : Nat) : Int) := by rw [n2, iI_add']
        have no : ¬ rowok h k → post (if iI A < -1 then -1 else iI A) hd so ki := fun z => by
          rw [if_neg z] at hq
          rw [iI_m1, iI_max ⟨by omega, by omega⟩ ⟨by omega, by omega⟩]
          exact hq hd so ki hh hso hki
        unfold w_X1_splitWithRow
        refine p_cbr hk34 (fun hb => ⟨fun z => absurd z i10, fun _ => ?_⟩) (fun hb => ⟨fun _ => no (fun z => hb z.1), fun z => absurd rfl z⟩)
        have k2 : k + 2 < 34 := by have := hb.1; omega
        have b1 := h4 (k + 1) (by omega)
        have b2 := h4 (k + 2) (by omega)
        rw [e1, e2, iI_ix (k + 1) (by omega), iI_ix (k + 2) (by omega), iI_ix (M + acc.length) (by omega), hh (k + 1) (by omega), hh (k + 2) (by omega), iI_le0 ⟨by omega, by omega⟩, iI_0lt ⟨by omega, by omega⟩]
        refine ⟨iI_in' (by omega) (by omega), fun c1 => no (fun z => by have := z.2.1; omega), fun c1 => ⟨iI_in' (by omega) (by omega), fun c2 => ⟨iI_in' (by omega) (by omega), iI_in' (by omega) (by omega), ?_⟩, fun c2 => no (fun z => by have := z.2.2; omega)⟩⟩
        have hrk : rowok h k := ⟨hb, by omega, by omega⟩
        have hpos : 0 < h k ∧ 0 < h (k + 1) ∧ 0 < h (k + 2) := ⟨hkp, by omega, by omega⟩
        rw [if_pos hrk] at hq
        refine p_moveRow k2 (fun hd1 q1 q2 => ?_)
        have hh1 := row_minus hh hpos q1 q2
        rw [iI_inc, show M + acc.length + 1 = M + (acc ++ [k]).length by rw [List.length_append, List.length_singleton]; omega]
        refine ih d (hr h k) (acc ++ [k]) k hd1 _ _ _ (by omega) (by rw [List.length_append, List.length_singleton]; omega) (fun c hc => ?_) hh1 (hr_le h4 k) (by omega) (fun j hj => by rw [hr_at, if_neg (by omega)]; exact hfw j hj) (by rw [n0]; exact gso_app hso (by rw [if_neg (by omega)])) (gki_app hki (by rw [if_neg (by omega)])) (fun hd2 so2 ki2 g1 g2 g3 => ?_)
        · rcases List.mem_append.mp hc with z | z
          · exact hacc c z
          · rw [List.mem_singleton] at z; omega
        · have hBb := bsp_bd hF n (hr h k) (acc ++ [k])
          refine p_moveRow k2 (fun hd3 q3 q4 => ?_)
          have hz := hq hd3 so2 ki2 (row_plus g1 hpos q3 q4) (gso_back g2) (gki_back g3)
          rw [← iI_max ⟨by omega, by omega⟩ ⟨by omega, by omega⟩] at hz
          exact hz
      unfold w_X1_splitWithThree
      rw [iI_ix k (by omega), iI_ix (M + acc.length) (by omega), hh k hk34, n3, iI_le' (a := 3) (b := h k) (by omega) (by omega)]
      refine ⟨iI_in' (by omega) (by omega), fun c3 => ⟨iI_in' (by omega) (by omega), iI_in' (by omega) (by omega), iI_in' (by omega) (by omega), iI_in' (by omega) (by omega), ?_⟩, fun c3 => ?_⟩
      · rw [iI_sub' (show 3 ≤ h k by omega), iI_inc, show M + acc.length + 1 = M + (acc ++ [100 + k]).length by rw [List.length_append, List.length_singleton]; omega]
        refine ih d (h3 h k) (acc ++ [100 + k]) k _ _ _ _ (by omega) (by rw [List.length_append, List.length_singleton]; omega) (fun c hc => ?_) (rowN_upd hh rfl) (h3_le h4 k) (by omega) (fun j hj => by unfold h3; rw [nup_ne _ _ (by omega)]; exact hfw j hj) (by rw [n1]; exact gso_app hso (by rw [if_pos (by omega)])) (gki_app hki (by rw [if_pos (by omega)]; omega)) (fun hd2 so2 ki2 g1 g2 g3 => ⟨iI_in' (by omega) (by omega), iI_in' (by omega) (by omega), ?_⟩)
        · rcases List.mem_append.mp hc with z | z
          · exact hacc c z
          · rw [List.mem_singleton] at z; omega
        · refine key _ _ so2 ki2 (by rw [if_pos (by omega)]) (fun j hj => ?_) (gso_back g2) (gki_back g3)
          by_cases e : j = k
          · subst e
            have g := g1 j hj
            unfold h3 at g
            rw [nup_eq] at g
            unfold upd
            rw [if_pos rfl, g, iI_add']
            congr 2; omega
          · unfold upd
            rw [if_neg e, g1 j hj]
            unfold h3
            rw [nup_ne _ _ e]
      · rw [iI_m1]
        exact key (-1) hd so ki (by rw [if_neg (by omega)]) hh hso hki
end CSPLIT
