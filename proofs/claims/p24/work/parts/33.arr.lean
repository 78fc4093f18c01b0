def gmx (sw rw M : Nat) (σ κ h : Nat → Nat) : Nat → Int
  | 0 => -1
  | n + 1 => max (gmx sw rw M σ κ h n) (if 2 ≤ h n then bsp (FF sw rw M σ κ n) (4 - M) (nup h n (h n - 2)) [] else -1)
def arr (sw rw M : Nat) (σ κ h : Nat → Nat) : Int :=
  if sumN 34 h + 3 * M = 14 then max (max (gmx sw rw M σ κ h 34) (if M = 0 ∧ prH h = 14 then 2 else -1)) (if M = 0 ∧ orH h = 14 then 13 else -1) else -1
theorem FF_bd (sw rw M : Nat) (σ κ : Nat → Nat) (pair : Nat) : ∀ g, 0 ≤ FF sw rw M σ κ pair g ∧ FF sw rw M σ κ pair g ≤ 30 := fun g => by
  unfold FF
  have := fset_le sw rw M (gso M σ g) (gki M κ g) pair
  omega
theorem gmx_bd (sw rw M : Nat) (σ κ h : Nat → Nat) : ∀ n, -1 ≤ gmx sw rw M σ κ h n ∧ gmx sw rw M σ κ h n ≤ 30 := by
  intro n
  induction n with
  | zero => show (-1 : Int) ≤ -1 ∧ (-1 : Int) ≤ 30; omega
  | succ n ih =>
    have b := bsp_bd (FF_bd sw rw M σ κ n) (4 - M) (nup h n (h n - 2)) []
    simp only [gmx]
    split <;> omega
theorem arr_bd (sw rw M : Nat) (σ κ h : Nat → Nat) : -1 ≤ arr sw rw M σ κ h ∧ arr sw rw M σ κ h ≤ 30 := by
  have a := gmx_bd sw rw M σ κ h 34
  unfold arr
  split
  · split <;> split <;> omega
  · omega
section ARR
variable {sw rw M : Nat} {σ κ h : Nat → Nat}
theorem gso_nil {so : Nat → Int32} (q : rowN M so σ) : rowN (M + ([] : List Nat).length) so (gso M σ []) := fun j hj => by
  have hj' : j < M := hj
  unfold gso
  rw [if_pos hj']; exact q j hj'
theorem gki_nil {ki : Nat → Int32} (q : rowN M ki κ) : rowN (M + ([] : List Nat).length) ki (gki M κ []) := fun j hj => by
  have hj' : j < M := hj
  unfold gki
  rw [if_pos hj']; exact q j hj'
theorem gso_lin {so : Nat → Int32} (q : rowN (M + ([] : List Nat).length) so (gso M σ [])) : rowN M so σ := fun j hj => by
  have := q j hj
  unfold gso at this
  rw [if_pos hj] at this; exact this
theorem gki_lin {ki : Nat → Int32} (q : rowN (M + ([] : List Nat).length) ki (gki M κ [])) : rowN M ki κ := fun j hj => by
  have := q j hj
  unfold gki at this
  rw [if_pos hj] at this; exact this
theorem p_bog_b4 (hM : M ≤ 4) (hσ : ∀ i, i < M → σ i ≤ 2) (hκ : ∀ i, i < M → κ i < 34) (hsw : sw < 100) (hrw : rw < 100) (h4 : ∀ k, k < 34 → h k ≤ 100) {post : Int32 → (Nat → Int32) → (Nat → Int32) → (Nat → Int32) → Prop}
    (hq : ∀ hd so ki, rowN 34 hd h → rowN M so σ → rowN M ki κ → post (iI (gmx sw rw M σ κ h 34)) hd so ki) : ∀ (d k : Nat) (hd so ki : Nat → Int32), k + d = 34 → rowN 34 hd h → rowN M so σ → rowN M ki κ → w_X1_bestOfGroups_b4 post (iI M) (iI sw) (iI rw) (d + 1) (iI (gmx sw rw M σ κ h k)) (iI k) hd so ki := by
  intro d
  induction d with
  | zero =>
    intro k hd so ki hk hh hso hki
    have e : k = 34 := by omega
    subst e
    rw [w_X1_bestOfGroups_b4, n34, iI_le' (a := 34) (b := 34) (by omega) (by omega)]
    exact ⟨fun _ => hq hd so ki hh hso hki, fun c => absurd (by omega) c⟩
  | succ d ih =>
    intro k hd so ki hk hh hso hki
    have a := h4 k (by omega)
    have hn := ih (k + 1)
    have gb := gmx_bd sw rw M σ κ h k
    have bb := bsp_bd (FF_bd sw rw M σ κ k) (4 - M) (nup h k (h k - 2)) []
    rw [w_X1_bestOfGroups_b4, n34, iI_le' (a := 34) (b := k) (by omega) (by omega), iI_ix k (by omega), hh k (by omega), n2, iI_lt' (a := h k) (b := 2) (by omega) (by omega)]
    unfold w_X1_bestOfGroups_b55
    rw [iI_inc]
    refine ⟨fun c => absurd c (by omega), fun _ => ⟨iI_in' (by omega) (by omega), fun c => ?_, fun c => ⟨iI_in' (by omega) (by omega), iI_in' (by omega) (by omega), ?_⟩⟩⟩
    · have := hn hd so ki (by omega) hh hso hki
      simp only [gmx] at this
      rw [if_neg (by omega), show max (gmx sw rw M σ κ h k) (-1) = gmx sw rw M σ κ h k by omega] at this
      exact this
    · rw [iI_sub' (show 2 ≤ h k by omega), n0]
      refine p_bestSplit hM hσ hκ hsw hrw (by omega) (4 - M) 6 (nup h k (h k - 2)) [] 0 _ _ _ _ (by omega) (by show M + 0 + (4 - M) = 4; omega) (fun c hc => by cases hc) (rowN_upd hh rfl) (fun j hj => ?_) (by omega) (fun j hj => by omega) (gso_nil hso) (gki_nil hki) (fun hd2 so2 ki2 g1 g2 g3 t10 e10 => ⟨iI_in' (by omega) (by omega), iI_in' (by omega) (by omega), ?_⟩)
      · by_cases e : j = k
        · subst e; rw [nup_eq]; omega
        · rw [nup_ne _ _ e]; exact h4 j hj
      · rw [iI_max ⟨by omega, by omega⟩ ⟨by omega, by omega⟩] at e10
        have := hn (upd hd2 k (hd2 k + iI (2 : Nat))) so2 ki2 (by omega) (fun j hj => ?_) (gso_lin g2) (gki_lin g3)
        · simp only [gmx] at this
          rw [if_pos (by omega)] at this
          rw [e10]
          exact this
        · by_cases e : j = k
          · subst e
            have g := g1 j hj
            rw [nup_eq] at g
            unfold upd
            rw [if_pos rfl, g, iI_add']
            congr 2; omega
          · unfold upd
            rw [if_neg e, g1 j hj, nup_ne _ _ e]
theorem p_sizeNow {tc : Nat} {post : Int32 → Prop} (hq : post (iI ((tc + 3 * M : Nat) : Int))) : w_X1_sizeNow (iI tc) (iI M) post := by
  unfold w_X1_sizeNow
  rw [n3, iI_mul', iI_add']
  exact hq
theorem p_bestArr (hM : M ≤ 4) (hσ : ∀ i, i < M → σ i ≤ 2) (hκ : ∀ i, i < M → κ i < 34) (hsw : sw < 100) (hrw : rw < 100) (h4 : ∀ k, k < 34 → h k ≤ 4) {tc : Nat} (htc : tc = sumN 34 h) (ht : tc < 100) {hd so ki : Nat → Int32} {post : Int32 → (Nat → Int32) → (Nat → Int32) → (Nat → Int32) → Prop}
    (hh : rowN 34 hd h) (hso : rowN M so σ) (hki : rowN M ki κ)
    (hq : ∀ hd so ki, rowN 34 hd h → rowN M so σ → rowN M ki κ → post (iI (arr sw rw M σ κ h)) hd so ki) : w_X1_bestArrangement (iI tc) (iI M) (iI sw) (iI rw) hd so ki post := by
  unfold w_X1_bestArrangement
  refine p_sizeNow ?_
  rw [n14, iI_eq' (a := tc + 3 * M) (b := 14) (by omega) (by omega)]
  unfold arr at hq
  refine ⟨fun c => ⟨35, ?_⟩, fun c => ?_⟩
  · rw [if_pos (by omega)] at hq
    have gb := gmx_bd sw rw M σ κ h 34
    have pb := prH_le h
    have ob := orH_le h
    rw [n0, iI_m1]
    refine p_bog_b4 (h := h) hM hσ hκ hsw hrw (fun k hk => by have := h4 k hk; omega) (fun hd so ki hh hso hki => ?_) 34 0 hd so ki (by omega) hh hso hki
    have hq := hq hd so ki hh hso hki
    have fin : ∀ A : Int, -1 ≤ A → A ≤ 30 → A = max (gmx sw rw M σ κ h 34) (if M = 0 ∧ prH h = 14 then 2 else -1) → w_X1_bestArrangement_b38 post (iI tc) (iI M) (iI sw) (iI rw) (iI A) hd so ki := by
      intro A a1 a2 a3
      rw [← a3] at hq
      unfold w_X1_bestArrangement_b38
      rw [iI_eq0 ⟨by omega, by omega⟩]
      refine ⟨fun c2 => p_heldByOrphans hh h4 ?_, fun c2 => ?_⟩
      · rw [n14, iI_eq' (a := orH h) (b := 14) (by omega) (by omega)]
        refine ⟨fun c3 t e => ?_, fun c3 => ?_⟩
        · rw [n13, iI_max (b := ((13 : Nat) : Int)) ⟨by omega, by omega⟩ ⟨by omega, by omega⟩] at e
          rw [if_pos ⟨by omega, c3⟩] at hq
          rw [e]; exact hq
        · rw [if_neg (fun z => c3 z.2), show max A (-1) = A by omega] at hq
          exact hq
      · rw [if_neg (fun z => c2 (by omega)), show max A (-1) = A by omega] at hq
        exact hq
    rw [← n0, iI_eq0 ⟨by omega, by omega⟩]
    refine ⟨fun c2 => p_heldByPairs hh h4 ?_, fun c2 => fin _ gb.1 gb.2 (by rw [if_neg (fun z => c2 (by omega))]; omega)⟩
    rw [iI_eq' (a := prH h) (b := 14) (by omega) (by omega)]
    refine ⟨fun c3 t e => ?_, fun c3 => fin _ gb.1 gb.2 (by rw [if_neg (fun z => c3 z.2)]; omega)⟩
    rw [n2, iI_max (b := ((2 : Nat) : Int)) ⟨by omega, by omega⟩ ⟨by omega, by omega⟩] at e
    rw [e]
    exact fin _ (by omega) (by omega) (by rw [if_pos ⟨by omega, c3⟩]; rfl)
  · rw [if_neg (by omega)] at hq
    rw [iI_m1]; exact hq hd so ki hh hso hki
end ARR
