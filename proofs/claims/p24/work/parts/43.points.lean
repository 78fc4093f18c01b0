section POINTS
variable {sw rw M : Nat} {σ κ ω h l s : Nat → Nat}
def tot (sw rw M : Nat) (σ κ ω h l : Nat → Nat) (p0 : Int32) : Int := arr sw rw M σ κ h + (cmn h l ω M p0 : Nat)
theorem tot_bd {p0 : Int32} (c : ¬ arr sw rw M σ κ h = -1) : 0 ≤ tot sw rw M σ κ ω h l p0 ∧ tot sw rw M σ κ ω h l p0 ≤ 40 := by
  have a := arr_bd sw rw M σ κ h
  have b := cmn_le h l ω M p0
  unfold tot
  omega
theorem p_fansNow (hM : M ≤ 4) (hσ : ∀ i, i < M → σ i ≤ 2) (hκ : ∀ i, i < M → κ i < 34) (hω : ∀ i, i < M → ω i ≤ 1) (hsw : sw < 100) (hrw : rw < 100) (h4 : ∀ k, k < 34 → h k + l k ≤ 4) {tc : Nat} (htc : tc = sumN 34 h) (ht : tc < 100) {hd la so ki op : Nat → Int32} {p0 : Int32} {post : Int32 → (Nat → Int32) → (Nat → Int32) → (Nat → Int32) → Prop}
    (hh : rowN 34 hd h) (hl : rowN 34 la l) (hso : rowN M so σ) (hki : rowN M ki κ) (hop : rowN M op ω)
    (h1 : ¬ arr sw rw M σ κ h = -1 → ∀ hd so ki, rowN 34 hd h → rowN M so σ → rowN M ki κ → post (iI (tot sw rw M σ κ ω h l p0)) hd so ki)
    (h0 : arr sw rw M σ κ h = -1 → ∀ hd so ki, rowN 34 hd h → rowN M so σ → rowN M ki κ → post (-1) hd so ki) : w_X1_fansNow (iI tc) (iI M) (iI sw) (iI rw) hd la so ki op p0 post := by
  unfold w_X1_fansNow
  have ab := arr_bd sw rw M σ κ h
  refine p_bestArr hM hσ hκ hsw hrw (fun k hk => by have := h4 k hk; omega) htc ht hh hso hki (fun hd so ki hh hso hki => ?_)
  rw [iI_m1, iI_eq (a := arr sw rw M σ κ h) (b := -1) ⟨by omega, by omega⟩ ⟨by omega, by omega⟩, ← iI_m1]
  refine ⟨fun c => h0 c hd so ki hh hso hki, fun c => p_tileFans hh hl (fun k hk => by have := h4 k hk; omega) (fun k hk => by have := h4 k hk; omega) ?_⟩
  have h1 := h1 c hd so ki hh hso hki
  have fin : ∀ A : Nat, A = (if p0 = 0 then 0 else 1) → w_X1_fansNow_b26 post (iI tc) (iI M) (iI sw) (iI rw) la op p0 (iI (arr sw rw M σ κ h + ((tfn h l + A : Nat) : Int))) hd so ki := fun A eA => by
    unfold w_X1_fansNow_b26
    unfold tot cmn at h1
    rw [← eA] at h1
    refine p_hasOpen hM hop hω (fun z => ⟨fun y => absurd y i10, fun _ => ?_⟩) (fun z => ⟨fun _ => ?_, fun y => absurd rfl y⟩)
    · rw [if_neg (by omega)] at h1; exact h1
    · rw [if_pos z] at h1
      rw [iI_l1, iI_add, show arr sw rw M σ κ h + ((tfn h l + A : Nat) : Int) + 1 = arr sw rw M σ κ h + ((tfn h l + A + 1 : Nat) : Int) by omega]
      exact h1
  rw [iI_add]
  refine ⟨fun c => fin 0 (by rw [if_pos c]), fun c => ?_⟩
  rw [iI_l1, iI_add, show arr sw rw M σ κ h + ((tfn h l : Nat) : Int) + 1 = arr sw rw M σ κ h + ((tfn h l + 1 : Nat) : Int) by omega]
  exact fin 1 (by rw [if_neg c])
def pts (B L : Nat) (F : Int) : Int32 := iI B <<< (iI (min (L : Int) F) &&& 31)
theorem p_pointsFor {B L : Nat} {F : Int} (hL : L < 100) (hF : -1 ≤ F ∧ F ≤ 100) {post : Int32 → Prop} (q : post (pts B L F)) : w_X1_pointsFor (iI B) (iI L) (iI F) post := by
  unfold w_X1_pointsFor
  rw [iI_min (a := F) (b := (L : Int)) ⟨by omega, by omega⟩ ⟨by omega, by omega⟩, Int.min_comm]
  exact q
theorem p_cFans (hM : M ≤ 4) (hσ : ∀ i, i < M → σ i ≤ 2) (hκ : ∀ i, i < M → κ i < 34) (hω : ∀ i, i < M → ω i ≤ 1) (hsw : sw < 100) (hrw : rw < 100) (h4 : ∀ k, k < 34 → h k + l k ≤ 4) {tc : Nat} (htc : tc = sumN 34 h) (ht : tc < 100) {hd la so ki op : Nat → Int32} {p0 : Int32} {post : Int32 → (Nat → Int32) → (Nat → Int32) → (Nat → Int32) → Prop}
    (hh : rowN 34 hd h) (hl : rowN 34 la l) (hso : rowN M so σ) (hki : rowN M ki κ) (hop : rowN M op ω) (c : ¬ arr sw rw M σ κ h = -1)
    (h1 : ∀ hd so ki, rowN 34 hd h → rowN M so σ → rowN M ki κ → post (iI (tot sw rw M σ κ ω h l p0)) hd so ki) : w_X1_fansNow (iI tc) (iI M) (iI sw) (iI rw) hd la so ki op p0 (fun r9 hd so ki => w_X1_requireComplete r9 (post r9 hd so ki)) := by
  have b := tot_bd (ω := ω) (l := l) (p0 := p0) c
  refine p_fansNow hM hσ hκ hω hsw hrw h4 htc ht hh hl hso hki hop (fun _ hd so ki hh hso hki => (by
    unfold w_X1_requireComplete
    refine ⟨fun y => ?_, fun _ => h1 hd so ki hh hso hki⟩
    rw [iI_m1, iI_eq (a := tot sw rw M σ κ ω h l p0) (b := -1) ⟨by omega, by omega⟩ ⟨by omega, by omega⟩] at y
    omega)) (fun z => absurd z c)
end POINTS
