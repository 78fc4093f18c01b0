theorem p_vf (v : Int64) {n : Nat} (h0 : 0 < n) (hn : n < 200) : vf_n64 (FP.ddiv (FP.l2d v) (FP.i2d (iI (n : Int)))) := by
  rw [vf_iff]
  show (UInt64.ofNat (FP.Core.div FP.Core.b64 (FP.l2d v).toNat (FP.i2d (iI (n : Int))).toNat)).toNat % 2 ^ 63 ≤ _
  rw [of_mod]
  unfold FP.Core.div
  refine enc_ok _ ?_
  obtain ⟨s, c, q, e, hc⟩ := i2d_dec ⟨n, hn⟩ h0
  have e' : FP.Core.decode FP.Core.b64 (FP.i2d (iI (n : Int))).toNat = .fin s c q := e
  have hl : ¬ FP.Core.decode FP.Core.b64 (FP.l2d v).toNat = .nan := dec_ok (by
    show (UInt64.ofNat (FP.Core.fromInt FP.Core.b64 v.toInt)).toNat % 2 ^ 63 ≤ _
    rw [of_mod]
    exact enc_ok _ (ratio_ok _ _ _ _))
  rw [e']
  revert hl
  cases FP.Core.decode FP.Core.b64 (FP.l2d v).toNat with
  | nan => intro z; exact absurd rfl z
  | inf s' => intro _; exact trivial
  | fin s' c' q' =>
    intro _
    show dOK (if c = 0 then _ else FP.Core.roundRatio FP.Core.b64 (s' != s) c' c (q' - q))
    rw [if_neg hc]
    exact ratio_ok _ _ _ _
section POINTS
variable {sw rw M : Nat} {σ κ ω h l s : Nat → Nat}
def tot (sw rw M : Nat) (σ κ ω h l : Nat → Nat) (p0 : Int32) : Int := arr sw rw M σ κ h + (cmn h l ω M p0 : Nat)
theorem tot_bd {p0 : Int32} (c : ¬ arr sw rw M σ κ h = -1) : 0 ≤ tot sw rw M σ κ ω h l p0 ∧ tot sw rw M σ κ ω h l p0 ≤ 40 := by
  have a := arr_bd sw rw M σ κ h
  have b := cmn_le h l ω M p0
  unfold tot
  omega
theorem p_fansNow (hM : M ≤ 4) (hσ : ∀ i, i < M → σ i ≤ 2) (hκ : ∀ i, i < M → κ i < 34) (hω : ∀ i, i < M → ω i ≤ 1) (hsw : sw < 100) (hrw : rw < 100) (h4 : ∀ k, k < 34 → h k + l k ≤ 4) {tc : Nat} (htc : tc = sumN 34 h) (ht : tc < 100) {hd la so ki op : Nat → Int32} {p0 : Int32} {post : Int32 → (Nat → Int32) → (Nat → Int32) → (Nat → Int32) → Prop}
    (hh : rowN 34 hd h) (hl : rowN 34 la l) (hso : rowN M so σ) (hki : rowN M ki κ) (hop : rowN M op ω)
    (h1 : ¬ arr sw rw M σ κ h = -1 → ∀ hd so ki, rowN 34 hd h → rowN M so σ → rowN M ki κ → post (iI (tot sw rw M σ κ ω h l p0)) hd so ki)
    (h0 : arr sw rw M σ κ h = -1 → ∀ hd so ki, rowN 34 hd h → rowN M so σ → rowN M ki κ → post (-1) hd so ki) : w_X1_fansNow (iI tc) (iI M) (iI sw) (iI rw) hd la so ki op p0 post := by
  unfold w_X1_fansNow
  have ab := arr_bd sw rw M σ κ h
  refine p_bestArr hM hσ hκ hsw hrw (fun k hk => by have := h4 k hk; omega) htc ht hh hso hki (fun hd so ki hh hso hki => ?_)
  rw [iI_m1, iI_eq (a := arr sw rw M σ κ h) (b := -1) ⟨by omega, by omega⟩ ⟨by omega, by omega⟩, ← iI_m1]
  refine ⟨fun c => h0 c hd so ki hh hso hki, fun c => p_tileFans hh hl (fun k hk => by have := h4 k hk; omega) (fun k hk => by have := h4 k hk; omega) ?_⟩
  have h1 := h1 c hd so ki hh hso hki
  have fin : ∀ A : Nat, A = (if p0 = 0 then 0 else 1) → w_X1_fansNow_b26 post (iI tc) (iI M) (iI sw) (iI rw) la op p0 (iI (arr sw rw M σ κ h + ((tfn h l + A : Nat) : Int))) hd so ki := fun A eA => by
    unfold w_X1_fansNow_b26
    unfold tot cmn at h1
    rw [← eA] at h1
    refine p_hasOpen hM hop hω (fun z => ⟨fun y => absurd y i10, fun _ => ?_⟩) (fun z => ⟨fun _ => ?_, fun y => absurd rfl y⟩)
    · rw [if_neg (by omega)] at h1; exact h1
    · rw [if_pos z] at h1
      rw [iI_l1, iI_add, show arr sw rw M σ κ h + ((tfn h l + A : Nat) : Int) + 1 = arr sw rw M σ κ h + ((tfn h l + A + 1 : Nat) : Int) by omega]
      exact h1
  rw [iI_add]
  refine ⟨fun c => fin 0 (by rw [if_pos c]), fun c => ?_⟩
  rw [iI_l1, iI_add, show arr sw rw M σ κ h + ((tfn h l : Nat) : Int) + 1 = arr sw rw M σ κ h + ((tfn h l + 1 : Nat) : Int) by omega]
  exact fin 1 (by rw [if_neg c])
def pts (B L : Nat) (F : Int) : Int32 := iI B <<< (iI (min (L : Int) F) &&& 31)
theorem p_pointsFor {B L : Nat} {F : Int} (hL : L < 100) (hF : -1 ≤ F ∧ F ≤ 100) {post : Int32 → Prop} (q : post (pts B L F)) : w_X1_pointsFor (iI B) (iI L) (iI F) post := by
  unfold w_X1_pointsFor
  rw [iI_min (a := F) (b := (L : Int)) ⟨by omega, by omega⟩ ⟨by omega, by omega⟩, Int.min_comm]
  exact q
theorem p_cFans (hM : M ≤ 4) (hσ : ∀ i, i < M → σ i ≤ 2) (hκ : ∀ i, i < M → κ i < 34) (hω : ∀ i, i < M → ω i ≤ 1) (hsw : sw < 100) (hrw : rw < 100) (h4 : ∀ k, k < 34 → h k + l k ≤ 4) {tc : Nat} (htc : tc = sumN 34 h) (ht : tc < 100) {hd la so ki op : Nat → Int32} {p0 : Int32} {post : Int32 → (Nat → Int32) → (Nat → Int32) → (Nat → Int32) → Prop}
    (hh : rowN 34 hd h) (hl : rowN 34 la l) (hso : rowN M so σ) (hki : rowN M ki κ) (hop : rowN M op ω) (c : ¬ arr sw rw M σ κ h = -1)
    (h1 : ∀ hd so ki, rowN 34 hd h → rowN M so σ → rowN M ki κ → post (iI (tot sw rw M σ κ ω h l p0)) hd so ki) : w_X1_fansNow (iI tc) (iI M) (iI sw) (iI rw) hd la so ki op p0 (fun r9 hd so ki => w_X1_requireComplete r9 (post r9 hd so ki)) := by
  have b := tot_bd (ω := ω) (l := l) (p0 := p0) c
  refine p_fansNow hM hσ hκ hω hsw hrw h4 htc ht hh hl hso hki hop (fun _ hd so ki hh hso hki => (by
    unfold w_X1_requireComplete
    refine ⟨fun y => ?_, fun _ => h1 hd so ki hh hso hki⟩
    rw [iI_m1, iI_eq (a := tot sw rw M σ κ ω h l p0) (b := -1) ⟨by omega, by omega⟩ ⟨by omega, by omega⟩] at y
    omega)) (fun z => absurd z c)
theorem p_cFans_x (hM : M ≤ 4) (hσ : ∀ i, i < M → σ i ≤ 2) (hκ : ∀ i, i < M → κ i < 34) (hω : ∀ i, i < M → ω i ≤ 1) (hsw : sw < 100) (hrw : rw < 100) (h4 : ∀ k, k < 34 → h k + l k ≤ 4) {tc : Nat} (htc : tc = sumN 34 h) (ht : tc < 100) {hd la so ki op : Nat → Int32} {p0 : Int32} {px : String → (Nat → Int32) → (Nat → Int32) → (Nat → Int32) → Prop} {Q : Int32 → (Nat → Int32) → (Nat → Int32) → (Nat → Int32) → Prop}
    (hh : rowN 34 hd h) (hl : rowN 34 la l) (hso : rowN M so σ) (hki : rowN M ki κ) (hop : rowN M op ω) (c : arr sw rw M σ κ h = -1)
    (h1 : ∀ hd so ki, rowN 34 hd h → rowN M so σ → rowN M ki κ → px "java/lang/IllegalStateException" hd so ki) : w_X1_fansNow (iI tc) (iI M) (iI sw) (iI rw) hd la so ki op p0 (fun r9 hd so ki => Q r9 hd so ki ∨ w_X1_requireComplete_x r9 (fun E => px E hd so ki)) := by
  refine p_fansNow hM hσ hκ hω hsw hrw h4 htc ht hh hl hso hki hop (fun z => absurd c z) (fun _ hd so ki hh hso hki => Or.inr ?_)
  unfold w_X1_requireComplete_x
  exact ⟨fun _ => h1 hd so ki hh hso hki, fun z => absurd rfl z⟩
theorem p_pointsOf (hM4 : M ≤ 4) (hσ : ∀ i, i < M → σ i ≤ 2) (hκ : ∀ i, i < M → κ i < 34) (hω : ∀ i, i < M → ω i ≤ 1) (hsw : sw < 100) (hrw : rw < 100) (hs : sumN 34 h + 3 * M = 14) (h4 : ∀ k, k < 34 → h k + l k ≤ 4) {B L : Nat} (hL : L < 100)
    {hM lM oM kM zM rM gM : Nat → Int32} (hh : rowN 34 hM h) (hl : rowN 34 lM l) (ho : rowN M oM σ) (hk : rowN M kM κ) (hz : rowN M zM ω) {p0 : Int32} {post : Int32 → (Nat → Int32) → (Nat → Int32) → Prop}
    (hq : ∀ rM gM, post (pts B L (tot sw rw M σ κ ω h l p0)) rM gM) : w_X2_pointsOf (iI M) (iI sw) (iI rw) (iI B) (iI L) hM lM oM kM zM rM gM p0 post := by
  unfold w_X2_pointsOf
  refine p_fansOf hM4 hσ hκ hω hsw hrw hs (fun k hk => by have := h4 k hk; omega) (fun k hk => by have := h4 k hk; omega) hh hl ho hk hz (fun rM gM => ?_)
  have a := arr_bd sw rw M σ κ h
  have b := cmn_le h l ω M p0
  rw [iI_min (a := (L : Int)) (b := arr sw rw M σ κ h + (cmn h l ω M p0 : Nat)) ⟨by omega, by omega⟩ ⟨by omega, by omega⟩]
  exact hq rM gM
/-- the sum of points over the tiles out -/
noncomputable def msm (P : Nat → Prop) (h l s : Nat → Nat) (f : Nat → Int32) : Nat → Int64
  | 0 => 0
  | n + 1 => @ite _ (P n) (Classical.propDecidable _) (msm P h l s f n + (iI ((4 - h n - l n - s n : Nat) : Int)).toInt64 * (f n).toInt64) (msm P h l s f n)
theorem msm_y {P : Nat → Prop} {f : Nat → Int32} {n : Nat} (q : P n) : msm P h l s f (n + 1) = msm P h l s f n + (iI ((4 - h n - l n - s n : Nat) : Int)).toInt64 * (f n).toInt64 := by rw [msm, if_pos q]
theorem msm_n {P : Nat → Prop} {f : Nat → Int32} {n : Nat} (q : ¬ P n) : msm P h l s f (n + 1) = msm P h l s f n := by rw [msm, if_neg q]
noncomputable def mean (P : Nat → Prop) (h l s : Nat → Nat) (f : Nat → Int32) : UInt64 := if osm P h l s 34 = 0 then 0 else FP.ddiv (FP.l2d (msm P h l s f 34)) (FP.i2d (iI (osm P h l s 34 : Nat)))
def mpt (sw rw M : Nat) (σ κ ω h l : Nat → Nat) (B L : Nat) (p0 : Int32) : Nat → Int32 := fun k => pts B L (tot sw rw M σ κ ω (nup h k (h k + 1)) l p0)
theorem p_mean (hM : M ≤ 4) (hσ : ∀ i, i < M → σ i ≤ 2) (hκ : ∀ i, i < M → κ i < 34) (hω : ∀ i, i < M → ω i ≤ 1) (hsw : sw < 100) (hrw : rw < 100) (h4 : ∀ k, k < 34 → h k + l k + s k ≤ 4) {tc B L : Nat} (hL : L < 100) (htc : tc = sumN 34 h) (ht : tc < 99) {hd la se so ki op : Nat → Int32} {p0 : Int32} {post : UInt64 → Int32 → (Nat → Int32) → (Nat → Int32) → (Nat → Int32) → Prop}
    (hh : rowN 34 hd h) (hl : rowN 34 la l) (hs : rowN 34 se s) (hso : rowN M so σ) (hki : rowN M ki κ) (hop : rowN M op ω)
    (hq : ∀ hd so ki, rowN 34 hd h → rowN M so σ → rowN M ki κ → post (mean (wP sw rw M σ κ h l) h l s (mpt sw rw M σ κ ω h l B L p0)) (iI tc) hd so ki) : w_X1_meanPoints (iI tc) (iI M) (iI sw) (iI rw) (iI B) (iI L) hd la se so ki op p0 post := by
  unfold w_X1_meanPoints
  refine p_waits hM hσ hκ hsw hrw (fun k hk => by have := h4 k hk; omega) htc ht hh hl hso hki (fun hd so ki hh hso hki => ⟨35, ?_⟩)
  have ob := osm_le (wP sw rw M σ κ h l) h l s
  have key : ∀ (d k : Nat) (hd so ki : Nat → Int32), k + d = 34 → rowN 34 hd h → rowN M so σ → rowN M ki κ → w_X1_meanPoints_b14 post (iI M) (iI sw) (iI rw) (iI B) (iI L) la se op p0 (d + 1) (wst (wP sw rw M σ κ h l) 34) (msm (wP sw rw M σ κ h l) h l s (mpt sw rw M σ κ ω h l B L p0) k) (iI (osm (wP sw rw M σ κ h l) h l s k : Nat)) (iI k) (iI tc) hd so ki := by
    intro d
    induction d with
    | zero =>
      intro k hd so ki hk hh hso hki
      have e : k = 34 := by omega
      subst e
      have ob := ob 34
      have hq := hq hd so ki hh hso hki
      unfold mean at hq
      rw [w_X1_meanPoints_b14, n34, iI_le' (a := 34) (b := 34) (by omega) (by omega)]
      refine ⟨fun _ => ?_, fun c => absurd (by omega) c⟩
      unfold w_X1_meanPoints_b89
      rw [iI_eq0 ⟨by omega, by omega⟩]
      refine ⟨fun c => ?_, fun c => ⟨p_vf _ (by omega) (by omega), ?_⟩⟩
      · rw [if_pos (by omega)] at hq; exact hq
      · rw [if_neg (by omega)] at hq; exact hq
    | succ d ih =>
      intro k hd so ki hk hh hso hki
      have a := h4 k (by omega)
      rw [w_X1_meanPoints_b14, n34, iI_le' (a := 34) (b := k) (by omega) (by omega)]
      unfold w_X1_meanPoints_b83
      rw [iI_inc]
      refine ⟨fun c => absurd c (by omega), fun _ => p_left1 hh hl hs h4 (by omega) (p_isIn (by omega) (fun z => ⟨fun y => absurd y i10, fun _ => ?_⟩) (fun z => ⟨fun _ => ?_, fun y => absurd rfl y⟩))⟩
      · rw [iI_le0 ⟨by omega, by omega⟩]
        refine ⟨fun c => ?_, fun c => p_add1 hh (by omega) (fun hd1 hh1 => p_fansNow hM hσ hκ hω hsw hrw (up_le (fun j hj => by have := h4 j hj; omega) z.2.1) (by rw [sum_up (by omega)]; omega) (by omega) hh1 hl hso hki hop (fun _ hd2 so2 ki2 g1 g2 g3 => ?_) (fun y => absurd y z.2.2))⟩
        · have := ih (k + 1) hd so ki (by omega) hh hso hki
          rw [msm_y z, osm_y z, show 4 - h k - l k - s k = 0 by omega, show (iI ((0 : Nat) : Int)).toInt64 = 0 by decide, Int64.zero_mul, Int64.add_zero] at this
          exact this
        · have b := tot_bd (ω := ω) (l := l) (p0 := p0) z.2.2
          refine p_pointsFor hL (by omega) (fun t20 e20 => p_sub1 g1 (by omega) (by rw [nup_eq]; omega) (by omega) (fun hd3 hh3 => ?_))
          rw [nup_back] at hh3
          have := ih (k + 1) hd3 so2 ki2 (by omega) hh3 g2 g3
          rw [msm_y z, osm_y z] at this
          rw [e20, iI_add']
          exact this
      · have := ih (k + 1) hd so ki (by omega) hh hso hki
        rw [msm_n z, osm_n z] at this
        exact this
  rw [n0]
  exact key 34 0 hd so ki (by omega) hh hso hki
theorem p_mMean (hM4 : M ≤ 4) (hσ : ∀ i, i < M → σ i ≤ 2) (hκ : ∀ i, i < M → κ i < 34) (hω : ∀ i, i < M → ω i ≤ 1) (hsw : sw < 100) (hrw : rw < 100) (h4 : ∀ k, k < 34 → h k + l k + s k ≤ 4) {B L : Nat} (hL : L < 100) (ht : sumN 34 h < 99) {hM sM lM oM kM zM rM gM : Nat → Int32} {p0 thr : Int32} {post : UInt64 → Int32 → (Nat → Int32) → (Nat → Int32) → (Nat → Int32) → Prop}
    (hh : rowN 34 hM h) (hl : rowN 34 lM l) (hs : rowN 34 sM s) (ho : rowN M oM σ) (hkM : rowN M kM κ) (hz : rowN M zM ω)
    (hq : ∀ hM rM gM, rowN 34 hM h → post (mean (wP sw rw M σ κ h l) h l s (mpt sw rw M σ κ ω h l B L p0)) 0 hM rM gM) : w_X2_meanPoints thr (iI M) (iI sw) (iI rw) (iI B) (iI L) hM sM lM oM kM zM rM gM p0 post := by
  unfold w_X2_meanPoints
  refine p_waitingSet (sw := sw) (rw := rw) (σ := σ) (κ := κ) hM4 ht (fun k hk => by have := h4 k hk; omega) hh hl (fun hM rM gM hh => p_outsOf hh hl hs h4 ⟨35, ?_⟩)
  have ob := osm_le (wP sw rw M σ κ h l) h l s 34
  have key : ∀ (d k : Nat) (hM rM gM : Nat → Int32), k + d = 34 → rowN 34 hM h → w_X2_meanPoints_b23 post (iI M) (iI sw) (iI rw) (iI B) (iI L) sM lM oM kM zM p0 (d + 1) (wst (wP sw rw M σ κ h l) 34) (iI (osm (wP sw rw M σ κ h l) h l s 34 : Nat)) (msm (wP sw rw M σ κ h l) h l s (mpt sw rw M σ κ ω h l B L p0) k) (iI k) 0 hM rM gM := by
    intro d
    induction d with
    | zero =>
      intro k hM rM gM hk hh
      have e : k = 34 := by omega
      subst e
      have hq := hq hM rM gM hh
      unfold mean at hq
      rw [w_X2_meanPoints_b23, n34, iI_le' (a := 34) (b := 34) (by omega) (by omega)]
      refine ⟨fun _ => ?_, fun c => absurd (by omega) c⟩
      unfold w_X2_meanPoints_b95
      rw [iI_eq0 ⟨by omega, by omega⟩]
      refine ⟨fun c => ?_, fun c => ⟨p_vf _ (by omega) (by omega), ?_⟩⟩
      · rw [if_pos (by omega)] at hq; exact hq
      · rw [if_neg (by omega)] at hq; exact hq
    | succ d ih =>
      intro k hM rM gM hk hh
      have a := h4 k (by omega)
      have b := wst_bit (wP sw rw M σ κ h l) 34 (by omega) k (by omega)
      have bz := (bit64 (wst (wP sw rw M σ κ h l) 34) (show k < 34 by omega)).2
      rw [w_X2_meanPoints_b23, n34, iI_le' (a := 34) (b := k) (by omega) (by omega), bz]
      unfold w_X2_meanPoints_b89
      rw [iI_inc]
      refine ⟨fun c => absurd c (by omega), fun _ => ⟨fun c => ?_, fun c => p_left2 hh hl hs h4 (by omega) ?_⟩⟩
      · have z : ¬ wP sw rw M σ κ h l k := fun z => by rw [b.2 ⟨by omega, z⟩] at c; cases c
        have := ih (k + 1) hM rM gM (by omega) hh
        rw [msm_n z] at this
        exact this
      · have z : wP sw rw M σ κ h l k := by
          cases e : (wst (wP sw rw M σ κ h l) 34).toBitVec.getLsbD k with
          | true => exact (b.1 e).2
          | false => exact absurd e c
        rw [iI_ix k (by omega), hh k (by omega), iI_inc]
        have hh1 : rowN 34 (upd hM k (iI (h k + 1 : Nat))) (nup h k (h k + 1)) := rowN_upd hh rfl
        refine ⟨iI_in' (by omega) (by omega), iI_in' (by omega) (by omega), p_pointsOf hM4 hσ hκ hω hsw hrw (by rw [sum_up (by omega)]; have := z.1; omega) (up_le (fun j hj => by have := h4 j hj; omega) z.2.1) hL hh1 hl ho hkM hz (fun rM gM t16 e16 => ⟨iI_in' (by omega) (by omega), iI_in' (by omega) (by omega), ?_⟩)⟩
        have := ih (k + 1) (upd (upd hM k (iI (h k + 1 : Nat))) k ((upd hM k (iI (h k + 1 : Nat))) k - 1)) rM gM (by omega) (fun j hj => by
          by_cases e : j = k
          · subst e
            unfold upd
            rw [if_pos rfl, if_pos rfl, n1, iI_sub' (by omega)]; rfl
          · unfold upd
            rw [if_neg e, if_neg e]; exact hh j hj)
        rw [msm_y z] at this
        rw [e16]
        exact this
  have := key 34 0 hM rM gM (by omega) hh
  rw [n0]
  exact this
end POINTS
