def wP (sw rw M : Nat) (σ κ h l : Nat → Nat) (k : Nat) : Prop := sumN 34 h + 3 * M = 13 ∧ h k + l k < 4 ∧ ¬ arr sw rw M σ κ (nup h k (h k + 1)) = -1
theorem wst_none {P : Nat → Prop} : ∀ n, (∀ k, k < n → ¬ P k) → wst P n = 0 := by
  intro n
  induction n with
  | zero => intro _; rfl
  | succ n ih => intro q; rw [wst_n (q n (by omega))]; exact ih (fun k hk => q k (by omega))
theorem nup_back {h : Nat → Nat} {k : Nat} : nup (nup h k (h k + 1)) k (nup h k (h k + 1) k - 1) = h := by
  funext j
  by_cases e : j = k
  · subst e; rw [nup_eq, nup_eq]; omega
  · rw [nup_ne _ _ e, nup_ne _ _ e]
theorem sum_up {h : Nat → Nat} {k : Nat} (hk : k < 34) : sumN 34 (nup h k (h k + 1)) = sumN 34 h + 1 := by have := sumN_nup (f := h) hk (h k + 1); omega
theorem sum_dn {h : Nat → Nat} {k : Nat} (hk : k < 34) (hp : 0 < h k) : sumN 34 (nup h k (h k - 1)) + 1 = sumN 34 h := by have := sumN_nup (f := h) hk (h k - 1); omega
theorem up_le {h l : Nat → Nat} {k : Nat} (h4 : ∀ j, j < 34 → h j + l j ≤ 4) (hk : h k + l k < 4) : ∀ j, j < 34 → nup h k (h k + 1) j + l j ≤ 4 := fun j hj => by
  by_cases e : j = k
  · subst e; rw [nup_eq]; omega
  · rw [nup_ne _ _ e]; exact h4 j hj
section WAITS
variable {sw rw M : Nat} {σ κ h l s : Nat → Nat}
theorem p_add1 {hd : Nat → Int32} (hh : rowN 34 hd h) {k : Nat} (hk : k < 34) {tc : Nat} {post : Int32 → (Nat → Int32) → Prop} (hq : ∀ hd', rowN 34 hd' (nup h k (h k + 1)) → post (iI (tc + 1 : Nat)) hd') : w_X1_addTiles (iI tc) hd (iI k) 1 post := by
  refine p_addTiles hh hk ?_
  rw [iI_inc, iI_inc]
  exact hq _ (rowN_upd hh rfl)
theorem p_sub1 {hd : Nat → Int32} (hh : rowN 34 hd h) {k : Nat} (hk : k < 34) (hp : 0 < h k) {tc : Nat} (ht : 0 < tc) {post : Int32 → (Nat → Int32) → Prop} (hq : ∀ hd', rowN 34 hd' (nup h k (h k - 1)) → post (iI (tc - 1 : Nat)) hd') : w_X1_addTiles (iI tc) hd (iI k) (-1) post := by
  refine p_addTiles hh hk ?_
  have e : ∀ a : Nat, 0 < a → iI (a : Int) + iI (-1) = iI ((a - 1 : Nat) : Int) := fun a ha => by rw [iI_add]; congr 1; omega
  rw [iI_m1, e _ ht, e _ hp]
  exact hq _ (rowN_upd hh rfl)
theorem p_waits (hM : M ≤ 4) (hσ : ∀ i, i < M → σ i ≤ 2) (hκ : ∀ i, i < M → κ i < 34) (hsw : sw < 100) (hrw : rw < 100) (h4 : ∀ k, k < 34 → h k + l k ≤ 4) {tc : Nat} (htc : tc = sumN 34 h) (ht : tc < 99) {hd la so ki : Nat → Int32} {post : Int64 → Int32 → (Nat → Int32) → (Nat → Int32) → (Nat → Int32) → Prop}
    (hh : rowN 34 hd h) (hl : rowN 34 la l) (hso : rowN M so σ) (hki : rowN M ki κ)
    (hq : ∀ hd so ki, rowN 34 hd h → rowN M so σ → rowN M ki κ → post (wst (wP sw rw M σ κ h l) 34) (iI tc) hd so ki) : w_X1_waits (iI tc) (iI M) (iI sw) (iI rw) hd la so ki post := by
  unfold w_X1_waits
  refine p_sizeNow ?_
  rw [n13, iI_eq' (a := tc + 3 * M) (b := 13) (by omega) (by omega)]
  refine ⟨fun c => ⟨35, ?_⟩, fun c => ?_⟩
  · have key : ∀ (d k : Nat) (hd so ki : Nat → Int32), k + d = 34 → rowN 34 hd h → rowN M so σ → rowN M ki κ → w_X1_waits_b15 post (iI M) (iI sw) (iI rw) la (d + 1) (wst (wP sw rw M σ κ h l) k) (iI k) (iI tc) hd so ki := by
      intro d
      induction d with
      | zero =>
        intro k hd so ki hk hh hso hki
        have e : k = 34 := by omega
        subst e
        rw [w_X1_waits_b15, n34, iI_le' (a := 34) (b := 34) (by omega) (by omega)]
        exact ⟨fun _ => hq hd so ki hh hso hki, fun c => absurd (by omega) c⟩
      | succ d ih =>
        intro k hd so ki hk hh hso hki
        have a := h4 k (by omega)
        rw [w_X1_waits_b15, n34, iI_le' (a := 34) (b := k) (by omega) (by omega), iI_ix k (by omega), hh k (by omega), hl k (by omega), iI_add', n4, iI_le' (a := 4) (b := h k + l k) (by omega) (by omega)]
        unfold w_X1_waits_b58 w_X1_waits_b64
        rw [iI_inc k]
        refine ⟨fun c => absurd c (by omega), fun _ => ⟨iI_in' (by omega) (by omega), iI_in' (by omega) (by omega), fun c2 => ?_, fun c2 => ?_⟩⟩
        · have := ih (k + 1) hd so ki (by omega) hh hso hki
          rw [wst_n (fun z => by have := z.2.1; omega)] at this
          exact this
        · refine p_add1 hh (by omega) (fun hd1 hh1 => p_bestArr hM hσ hκ hsw hrw (fun j hj => by have := up_le h4 (show h k + l k < 4 by omega) j hj; omega) (by rw [sum_up (by omega)]; omega) (by omega) hh1 hso hki (fun hd2 so2 ki2 g1 g2 g3 => ?_))
          have ab := arr_bd sw rw M σ κ (nup h k (h k + 1))
          rw [iI_m1, iI_eq (a := arr sw rw M σ κ (nup h k (h k + 1))) (b := -1) ⟨by omega, by omega⟩ ⟨by omega, by omega⟩, ← iI_m1]
          have back : ∀ v : Int64, v = wst (wP sw rw M σ κ h l) (k + 1) → w_X1_addTiles (iI (tc + 1 : Nat)) hd2 (iI k) (-1) (fun tcn_14 hd_15 => w_X1_waits_b15 post (iI M) (iI sw) (iI rw) la (d + 1) v (iI (k + 1 : Nat)) tcn_14 hd_15 so2 ki2) := fun v ev => by
            refine p_sub1 g1 (by omega) (by rw [nup_eq]; omega) (by omega) (fun hd3 hh3 => ?_)
            rw [nup_back] at hh3
            rw [ev]
            exact ih (k + 1) hd3 so2 ki2 (by omega) hh3 g2 g3
          refine ⟨fun c3 => back _ (wst_n (fun z => z.2.2 c3)).symm, fun c3 t16 e16 => back _ ?_⟩
          rw [e16, wst_y ⟨by omega, by omega, c3⟩]
    have := key 34 0 hd so ki (by omega) hh hso hki
    rw [n0]; exact this
  · have := hq hd so ki hh hso hki
    rw [wst_none 34 (fun k _ z => by have := z.1; omega)] at this
    exact this
theorem p_isIn {P : Nat → Prop} {k : Nat} (hk : k < 34) {post : Int32 → Prop} (h1 : P k → post 1) (h0 : ¬ P k → post 0) : w_X1_isIn (iI k) (wst P 34) post := by
  unfold w_X1_isIn
  have b := wst_bit P 34 (by omega) k hk
  rw [(bit64 (wst P 34) hk).2]
  refine ⟨fun c => h0 (fun z => ?_), fun c => h1 ?_⟩
  · rw [b.2 ⟨hk, z⟩] at c; cases c
  · have : (wst P 34).toBitVec.getLsbD k = true := by cases e : (wst P 34).toBitVec.getLsbD k with
      | true => rfl
      | false => exact absurd e c
    exact (b.1 this).2
noncomputable def osm (P : Nat → Prop) (h l s : Nat → Nat) : Nat → Nat
  | 0 => 0
  | n + 1 => @ite _ (P n) (Classical.propDecidable _) (osm P h l s n + (4 - h n - l n - s n)) (osm P h l s n)
theorem osm_y {P : Nat → Prop} {n : Nat} (q : P n) : osm P h l s (n + 1) = osm P h l s n + (4 - h n - l n - s n) := by rw [osm, if_pos q]
theorem osm_n {P : Nat → Prop} {n : Nat} (q : ¬ P n) : osm P h l s (n + 1) = osm P h l s n := by rw [osm, if_neg q]
theorem p_left1 {hd la se : Nat → Int32} (hh : rowN 34 hd h) (hl : rowN 34 la l) (hs : rowN 34 se s) (h4 : ∀ k, k < 34 → h k + l k + s k ≤ 4) {k : Nat} (hk : k < 34) {post : Int32 → Prop} (q : post (iI (4 - h k - l k - s k : Nat))) : w_X1_tilesLeft hd la se (iI k) post := by
  have a := h4 k hk
  refine p_tilesLeft hh hl hs hk ?_
  rw [show (4 : Int) - h k - l k - s k = ((4 - h k - l k - s k : Nat) : Int) by omega]
  exact q
theorem p_outs (hM : M ≤ 4) (hσ : ∀ i, i < M → σ i ≤ 2) (hκ : ∀ i, i < M → κ i < 34) (hsw : sw < 100) (hrw : rw < 100) (h4 : ∀ k, k < 34 → h k + l k + s k ≤ 4) {tc : Nat} (htc : tc = sumN 34 h) (ht : tc < 99) {hd la se so ki : Nat → Int32} {post : Int32 → Int32 → (Nat → Int32) → (Nat → Int32) → (Nat → Int32) → Prop}
    (hh : rowN 34 hd h) (hl : rowN 34 la l) (hs : rowN 34 se s) (hso : rowN M so σ) (hki : rowN M ki κ)
    (hq : ∀ hd so ki, rowN 34 hd h → rowN M so σ → rowN M ki κ → post (iI (osm (wP sw rw M σ κ h l) h l s 34 : Nat)) (iI tc) hd so ki) : w_X1_outs (iI tc) (iI M) (iI sw) (iI rw) hd la se so ki post := by
  unfold w_X1_outs
  refine p_waits hM hσ hκ hsw hrw (fun k hk => by have := h4 k hk; omega) htc ht hh hl hso hki (fun hd so ki hh hso hki => ⟨35, ?_⟩)
  have key : ∀ d k, k + d = 34 → w_X1_outs_b10 post (iI M) (iI sw) (iI rw) la se (d + 1) (wst (wP sw rw M σ κ h l) 34) (iI (osm (wP sw rw M σ κ h l) h l s k : Nat)) (iI k) (iI tc) hd so ki := by
    intro d
    induction d with
    | zero =>
      intro k hk
      have e : k = 34 := by omega
      subst e
      rw [w_X1_outs_b10, n34, iI_le' (a := 34) (b := 34) (by omega) (by omega)]
      exact ⟨fun _ => hq hd so ki hh hso hki, fun c => absurd (by omega) c⟩
    | succ d ih =>
      intro k hk
      have hn := ih (k + 1) (by omega)
      rw [w_X1_outs_b10, n34, iI_le' (a := 34) (b := k) (by omega) (by omega)]
      unfold w_X1_outs_b35
      rw [iI_inc]
      refine ⟨fun c => absurd c (by omega), fun _ => p_isIn (by omega) (fun z => ⟨fun y => absurd y i10, fun _ => p_left1 hh hl hs h4 (by omega) ?_⟩) (fun z => ⟨fun _ => ?_, fun y => absurd rfl y⟩)⟩
      · rw [osm_y z] at hn
        rw [iI_add']; exact hn
      · rw [osm_n z] at hn
        exact hn
  rw [n0]
  exact key 34 0 (by omega)
end WAITS
