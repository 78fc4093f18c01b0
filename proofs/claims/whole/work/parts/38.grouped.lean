section GRP2
variable {sw rw M : Nat} {σ κ : Nat → Nat} {g : List Nat}
theorem p_gr_b127 {post : Int32 → Prop} {mel sea rnd p0 : Int32} {oM kM gM : Nat → Int32} {K75 : Int32 → Int32 → Int32 → Int32 → Prop} {v2 v3 v4 : Int32} {j : Nat} (hj : j < 4) (hg : ∀ t, t ≤ j → gM t = iI (g.getD t 0 : Nat)) (hs : ∀ t, t ≤ j → g.getD t 0 < 200)
    (hq : w_X2_grouped_b169 post mel sea rnd oM kM gM p0 K75 v2 v3 v4 (iI j) (iI (if 0 < cnt g (g.getD j 0) j then 1 else 0 : Nat))) : ∀ (d t : Nat), t + d = j → w_X2_grouped_b127 post mel sea rnd oM kM gM p0 K75 (d + 1) v2 v3 v4 (iI j) (iI (if 0 < cnt g (g.getD j 0) t then 1 else 0 : Nat)) (iI t) := by
  intro d
  induction d with
  | zero =>
    intro t ht
    have e : t = j := by omega
    subst e
    rw [w_X2_grouped_b127, iI_le' (a := t) (b := t) (by omega) (by omega)]
    exact ⟨fun _ => hq, fun c => absurd (by omega) c⟩
  | succ d ih =>
    intro t ht
    have hn := ih (t + 1) (by omega)
    have o1 : cnt g (g.getD j 0) (t + 1) = cnt g (g.getD j 0) t + (if g.getD t 0 = g.getD j 0 then 1 else 0) := rfl
    have a1 := hs t (by omega)
    have a2 := hs j (by omega)
    rw [w_X2_grouped_b127, iI_le' (a := j) (b := t) (by omega) (by omega), iI_ix t (by omega), iI_ix j (by omega), hg t (by omega), hg j (by omega), iI_eq' (a := g.getD t 0) (b := g.getD j 0) (by omega) (by omega)]
    unfold w_X2_grouped_b156 w_X2_grouped_b161
    rw [iI_inc]
    refine ⟨fun c => absurd c (by omega), fun _ => ?_⟩
    by_cases p : 0 < cnt g (g.getD j 0) t
    · rw [if_pos p]
      refine ⟨fun z => absurd z i10, fun _ => ?_⟩
      rw [if_pos (by omega)] at hn
      rw [n1]; exact hn
    · rw [if_neg p]
      refine ⟨fun _ => ⟨iI_in' (by omega) (by omega), iI_in' (by omega) (by omega), fun c => ?_, fun c => ?_⟩, fun z => absurd rfl z⟩
      · rw [if_pos (by rw [o1, if_pos c]; omega)] at hn
        rw [n1]; exact hn
      · rw [if_neg (by rw [o1, if_neg c]; omega)] at hn
        rw [n0]; exact hn
theorem gso_at {j : Nat} : gso M σ g (M + j) = if 100 ≤ g.getD j 0 then 1 else 0 := by
  unfold gso
  rw [if_neg (by omega), show M + j - M = j by omega]
theorem gki_at {j : Nat} : gki M κ g (M + j) = if 100 ≤ g.getD j 0 then g.getD j 0 - 100 else g.getD j 0 := by
  unfold gki
  rw [if_neg (by omega), show M + j - M = j by omega]
def cA (M : Nat) (σ : Nat → Nat) (g : List Nat) (j : Nat) : Nat := sumN (M + j) (rwi (gso M σ g))
def cB (sw rw M : Nat) (σ κ : Nat → Nat) (g : List Nat) (j : Nat) : Nat := sumN (M + j) (vli sw rw (gso M σ g) (gki M κ g)) + sumN (M + j) (twi (gso M σ g) (gki M κ g) M)
theorem cA_s (j : Nat) : cA M σ g (j + 1) = cA M σ g j + rwi (gso M σ g) (M + j) := rfl
theorem cB_s (j : Nat) : cB sw rw M σ κ g (j + 1) = cB sw rw M σ κ g j + vli sw rw (gso M σ g) (gki M κ g) (M + j) + twi (gso M σ g) (gki M κ g) M (M + j) := by
  show (sumN (M + j) (vli sw rw (gso M σ g) (gki M κ g)) + vli sw rw (gso M σ g) (gki M κ g) (M + j)) + (sumN (M + j) (twi (gso M σ g) (gki M κ g) M) + twi (gso M σ g) (gki M κ g) M (M + j)) = _
  unfold cB
  omega
theorem cA_le (j : Nat) : cA M σ g j ≤ M + j := by
  have := sumN_bd (n := M + j) (c := 1) (fun k _ => rwi_le (gso M σ g) k)
  unfold cA; omega
theorem cB_le (j : Nat) : cB sw rw M σ κ g j ≤ 5 * (M + j) := by
  have a := sumN_bd (n := M + j) (c := 4) (fun k _ => vli_le sw rw (gso M σ g) (gki M κ g) k)
  have b := sumN_bd (n := M + j) (c := 1) (fun k _ => twi_le (gso M σ g) (gki M κ g) M k)
  unfold cB; omega
theorem gso_r {j : Nat} (h : g.getD j 0 < 100) : gso M σ g (M + j) = 0 := by rw [gso_at, if_neg (by omega)]
theorem gso_t {j : Nat} (h : 100 ≤ g.getD j 0) : gso M σ g (M + j) = 1 := by rw [gso_at, if_pos h]
theorem row_A {j : Nat} (h : g.getD j 0 < 100) : rwi (gso M σ g) (M + j) = 1 := by unfold rwi; rw [gso_r h, if_pos rfl]
theorem row_V {j : Nat} (h : g.getD j 0 < 100) : vli sw rw (gso M σ g) (gki M κ g) (M + j) = 0 := by unfold vli; rw [gso_r h, if_pos rfl, if_neg (by omega)]
theorem row_T {j : Nat} (h : g.getD j 0 < 25) : twi (gso M σ g) (gki M κ g) M (M + j) = if cnt g (g.getD j 0) j = 1 then 1 else 0 := by
  unfold twi
  rw [bfr_cnt h rfl, gso_r (by omega)]
  by_cases c : cnt g (g.getD j 0) j = 1
  · rw [if_pos c, if_pos ⟨by omega, rfl, c⟩]
  · rw [if_neg c, if_neg (fun z => c z.2.2)]
theorem thr_A {j : Nat} (h : 100 ≤ g.getD j 0) : rwi (gso M σ g) (M + j) = 0 := by unfold rwi; rw [gso_t h, if_neg (by omega)]
theorem thr_V {j : Nat} (h : 100 ≤ g.getD j 0) : vli sw rw (gso M σ g) (gki M κ g) (M + j) = hon sw rw (g.getD j 0 - 100) := by unfold vli; rw [gso_t h, gki_at, if_pos h, if_neg (by omega), if_neg (by omega)]; rfl
theorem thr_T {j : Nat} (h : 100 ≤ g.getD j 0) : twi (gso M σ g) (gki M κ g) M (M + j) = 0 := by
  unfold twi
  rw [gso_t h, if_neg (fun z => by have := z.2.1; omega)]
theorem p_gr_b75 (hM : M ≤ 4) (hsw : sw < 100) (hrw : rw < 100) {pair : Nat} (hpair : pair < 34) (hok : ∀ c ∈ g, okc c) (hlen : g.length = 4 - M) {post : Int32 → Prop} {oM kM gM : Nat → Int32} (hg : ∀ t, t < 4 - M → gM t = iI (g.getD t 0 : Nat))
    (hq : post (iI (FF sw rw M σ κ pair g))) : ∀ (d j : Nat) (v4 : Int32), j + d = 4 - M → (∀ c, c < 25 → (v4.toBitVec.getLsbD c = true ↔ 2 ≤ cnt g c j)) → w_X2_grouped_b75 post (iI M) (iI sw) (iI rw) oM kM gM (iI pair) (d + 1) (iI (cA M σ g j : Nat)) (iI (cB sw rw M σ κ g j : Nat)) v4 (iI j) := by
  intro d
  induction d with
  | zero =>
    intro j v4 hj hm
    have ej : M + j = 4 := by omega
    rw [w_X2_grouped_b75, n4, iI_sub' hM, iI_le' (a := 4 - M) (b := j) (by omega) (by omega)]
    refine ⟨fun _ => ?_, fun c => absurd (by omega) c⟩
    have a1 := cA_le (M := M) (σ := σ) (g := g) j
    have a2 := cB_le (sw := sw) (rw := rw) (M := M) (σ := σ) (κ := κ) (g := g) j
    have a3 := hon_le sw rw pair
    have eF : FF sw rw M σ κ pair g = ((cB sw rw M σ κ g j + (if cA M σ g j = 0 then 2 else 0) + (if cA M σ g j = 4 ∧ hon sw rw pair = 0 then 1 else 0) : Nat) : Int) := by
      unfold FF fset cB cA
      rw [ej]
      congr 1
      omega
    rw [eF] at hq
    have fin : ∀ B : Nat, B ≤ 25 → B = cB sw rw M σ κ g j + (if cA M σ g j = 4 ∧ hon sw rw pair = 0 then 1 else 0) → w_X2_grouped_b232 post (iI M) (iI sw) (iI rw) oM kM gM (iI pair) (iI (cA M σ g j : Nat)) (iI B) := by
      intro B hB eB
      unfold w_X2_grouped_b232
      rw [iI_eq0 ⟨by omega, by omega⟩, n2, iI_add']
      refine ⟨fun c => ?_, fun c => ?_⟩
      · rw [if_pos (by omega)] at hq
        rw [show B + 2 = cB sw rw M σ κ g j + 2 + (if cA M σ g j = 4 ∧ hon sw rw pair = 0 then 1 else 0) by omega]; exact hq
      · rw [if_neg (by omega)] at hq
        rw [show B = cB sw rw M σ κ g j + 0 + (if cA M σ g j = 4 ∧ hon sw rw pair = 0 then 1 else 0) by omega]; exact hq
    unfold w_X2_grouped_b216
    rw [n4, iI_eq' (a := cA M σ g j) (b := 4) (by omega) (by omega), iI_inc]
    refine ⟨fun c => p_honoured (by omega) (by omega) (by omega) ?_, fun c => fin _ (by omega) (by rw [if_neg (fun z => c z.1)]; rfl)⟩
    rw [iI_eq0 ⟨by omega, by omega⟩]
    exact ⟨fun c2 => fin _ (by omega) (by rw [if_pos ⟨c, by omega⟩]), fun c2 => fin _ (by omega) (by rw [if_neg (fun z => c2 (by omega))]; rfl)⟩
  | succ d ih =>
    intro j v4 hj hm
    have hj4 : j < 4 - M := by omega
    have hc := hok _ (getD_mem (g := g) (j := j) (by omega))
    have hs : ∀ t, t ≤ j → g.getD t 0 < 200 := fun t ht => by
      have := hok _ (getD_mem (g := g) (j := t) (by omega))
      rcases this with z | z <;> omega
    have hs2 := hs j (Nat.le_refl _)
    have a1 := cA_le (M := M) (σ := σ) (g := g) j
    have a2 := cB_le (sw := sw) (rw := rw) (M := M) (σ := σ) (κ := κ) (g := g) j
    have hn := ih (j + 1)
    rw [cA_s, cB_s] at hn
    rw [w_X2_grouped_b75, n4, iI_sub' hM, iI_le' (a := 4 - M) (b := j) (by omega) (by omega), iI_ix j (by omega), hg j hj4, n100, iI_lt' (a := g.getD j 0) (b := 100) (by omega) (by omega)]
    refine ⟨fun c => absurd c (by omega), fun _ => ⟨iI_in' (by omega) (by omega), fun c => ⟨j + 1, ?_⟩, fun c => ⟨iI_in' (by omega) (by omega), ?_⟩⟩⟩
    · have hc25 : g.getD j 0 < 25 := by rcases hc with z | z <;> omega
      have cl := cnt_le g (g.getD j 0) j
      rw [row_A c, row_V c, row_T hc25] at hn
      rw [iI_inc]
      refine p_gr_b127 (g := g) (by omega) (fun t ht => hg t (by omega)) hs ?_ j 0 (by omega)
      unfold w_X2_grouped_b169 w_X2_grouped_b210
      have cs : ∀ c', cnt g c' (j + 1) = cnt g c' j + (if g.getD j 0 = c' then 1 else 0) := fun c' => rfl
      rw [iI_ix j (by omega), hg j hj4, iI_inc, bit32 v4 (show g.getD j 0 < 32 by omega), hm _ hc25]
      by_cases p : 0 < cnt g (g.getD j 0) j
      · rw [if_pos p]
        refine ⟨fun z => absurd z i10, fun _ => ⟨iI_in' (by omega) (by omega), fun c2 => ?_, fun c2 => ⟨iI_in' (by omega) (by omega), fun t14 e14 => ?_⟩⟩⟩
        · rw [if_neg (by omega)] at hn
          refine hn v4 (by omega) (fun c' hc' => ?_)
          rw [hm c' hc', cs]
          by_cases q : g.getD j 0 = c'
          · rw [if_pos q]; rw [q] at c2; omega
          · rw [if_neg q]; omega
        · rw [if_pos (by omega)] at hn
          rw [iI_inc]
          refine hn t14 (by omega) (fun c' hc' => ?_)
          rw [e14, set32 v4 (by omega) (by omega), hm c' hc', cs]
          by_cases q : g.getD j 0 = c'
          · rw [if_pos q]; rw [q] at p; omega
          · rw [if_neg q]; omega
      · rw [if_neg p]
        refine ⟨fun _ => ?_, fun z => absurd rfl z⟩
        rw [if_neg (by omega)] at hn
        refine hn v4 (by omega) (fun c' hc' => ?_)
        rw [hm c' hc', cs]
        by_cases q : g.getD j 0 = c'
        · rw [if_pos q]; rw [q] at p; omega
        · rw [if_neg q]; omega
    · have hge : 100 ≤ g.getD j 0 := by omega
      rw [thr_A hge, thr_V hge, thr_T hge] at hn
      rw [iI_sub' hge]
      refine p_honoured (by omega) (by omega) (by omega) ?_
      unfold w_X2_grouped_b210
      rw [iI_add', iI_inc]
      refine hn v4 (by omega) (fun c' hc' => ?_)
      rw [hm c' hc']
      show _ ↔ 2 ≤ cnt g c' j + (if g.getD j 0 = c' then 1 else 0)
      rw [if_neg (by omega)]; rfl
theorem p_gr_b7 (hM : M ≤ 4) (hσ : ∀ i, i < M → σ i ≤ 2) (hκ : ∀ i, i < M → κ i < 34) (hsw : sw < 100) (hrw : rw < 100) {pair : Nat} (hpair : pair < 34) (hok : ∀ c ∈ g, okc c) (hlen : g.length = 4 - M) {post : Int32 → Prop} {oM kM gM : Nat → Int32} (ho : rowN M oM σ) (hk : rowN M kM κ) (hg : ∀ t, t < 4 - M → gM t = iI (g.getD t 0 : Nat))
    (hq : post (iI (FF sw rw M σ κ pair g))) : ∀ (d j : Nat), j + d = M → w_X2_grouped_b7 post (iI M) (iI sw) (iI rw) oM kM gM (iI pair) (d + 1) (iI (sumN j (rwi (gso M σ g)) : Nat)) (iI (sumN j (vli sw rw (gso M σ g) (gki M κ g)) : Nat)) (iI j) := by
  intro d
  induction d with
  | zero =>
    intro j hj
    have e : j = M := by omega
    subst e
    rw [w_X2_grouped_b7, iI_le' (a := j) (b := j) (by omega) (by omega)]
    refine ⟨fun _ => ?_, fun c => absurd (by omega) c⟩
    unfold w_X2_grouped_b69
    refine ⟨4 - j + 1, ?_⟩
    have := p_gr_b75 (sw := sw) (rw := rw) (σ := σ) (κ := κ) hM hsw hrw hpair hok hlen (oM := oM) (kM := kM) hg hq (4 - j) 0 0 (by omega) (fun c hc => by rw [bit0_32]; exact ⟨fun z => (by cases z), fun z => absurd z (by show ¬ 2 ≤ 0; omega)⟩)
    unfold cA cB at this
    rw [show sumN (j + 0) (twi (gso j σ g) (gki j κ g) j) = 0 from sumN_zero (fun k hk => by unfold twi; rw [if_neg (fun z => by have := z.1; omega)])] at this
    exact this
  | succ d ih =>
    intro j hj
    have hn := ih (j + 1) (by omega)
    have s1 := hσ j (by omega)
    have k1 := hκ j (by omega)
    have es : gso M σ g j = σ j := by unfold gso; rw [if_pos (by omega)]
    have ek : gki M κ g j = κ j := by unfold gki; rw [if_pos (by omega)]
    rw [sumN_succ, sumN_succ] at hn
    unfold w_X2_grouped_b7 w_X2_grouped_b63
    rw [iI_le' (a := M) (b := j) (by omega) (by omega), iI_ix j (by omega), ho j (by omega), hk j (by omega), iI_eq0 (z := (σ j : Nat)) ⟨by omega, by omega⟩, n2, iI_eq' (a := σ j) (b := 2) (by omega) (by omega)]
    unfold w_X2_grouped_b60 w_X2_grouped_b63
    rw [iI_inc, iI_inc]
    refine ⟨fun c => absurd c (by omega), fun _ => ⟨iI_in' (by omega) (by omega), fun c => ?_, fun c => ⟨iI_in' (by omega) (by omega), p_honoured (by omega) (by omega) (by omega) ⟨iI_in' (by omega) (by omega), fun c2 => ?_, fun c2 => ?_⟩⟩⟩⟩
    · rw [show rwi (gso M σ g) j = 1 by unfold rwi; rw [es, if_pos (by omega)], show vli sw rw (gso M σ g) (gki M κ g) j = 0 by unfold vli; rw [es, if_pos (by omega), if_neg (by omega)]] at hn
      exact hn
    · rw [show rwi (gso M σ g) j = 0 by unfold rwi; rw [es, if_neg (by omega)], show vli sw rw (gso M σ g) (gki M κ g) j = hon sw rw (κ j) + 1 by unfold vli; rw [es, ek, if_neg (by omega), if_pos (by omega)]] at hn
      rw [n1, iI_add', iI_add']
      exact hn
    · rw [show rwi (gso M σ g) j = 0 by unfold rwi; rw [es, if_neg (by omega)], show vli sw rw (gso M σ g) (gki M κ g) j = hon sw rw (κ j) + 0 by unfold vli; rw [es, ek, if_neg (by omega), if_neg (by omega)]] at hn
      rw [n0, iI_add', iI_add']
      exact hn
theorem p_grouped (hM : M ≤ 4) (hσ : ∀ i, i < M → σ i ≤ 2) (hκ : ∀ i, i < M → κ i < 34) (hsw : sw < 100) (hrw : rw < 100) {pair : Nat} (hpair : pair < 34) (hok : ∀ c ∈ g, okc c) (hlen : g.length = 4 - M) {post : Int32 → Prop} {oM kM gM : Nat → Int32} (ho : rowN M oM σ) (hk : rowN M kM κ) (hg : ∀ t, t < 4 - M → gM t = iI (g.getD t 0 : Nat))
    (hq : post (iI (FF sw rw M σ κ pair g))) : w_X2_grouped (iI M) (iI sw) (iI rw) oM kM gM (iI pair) post :=
  ⟨M + 1, by rw [n0]; exact p_gr_b7 hM hσ hκ hsw hrw hpair hok hlen ho hk hg hq M 0 (by omega)⟩
end GRP2
