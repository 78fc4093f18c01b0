/-! telling a meld, and the digest -/
def tl (σ κ ω : Nat → Nat) (j t : Nat) : Int32 := if t = 0 then iI (σ j : Nat) else if t = 1 then iI (κ j : Nat) else if ω j = 0 then 0 else 1
def dg1 (h s : Nat → Nat) : Nat → Int64
  | 0 => 271
  | n + 1 => (((dg1 h s n * (31 : Int64)) + (iI (h n : Nat)).toInt64) * (31 : Int64)) + (iI (s n : Nat)).toInt64
def dgi (σ κ ω : Nat → Nat) (v : Int64) (j : Nat) : Nat → Int64
  | 0 => v
  | t + 1 => (dgi σ κ ω v j t * (31 : Int64)) + (tl σ κ ω j t).toInt64
def dg2 (σ κ ω : Nat → Nat) (v : Int64) : Nat → Int64
  | 0 => v
  | j + 1 => dgi σ κ ω (dg2 σ κ ω v j) j 3
def dgv (h s σ κ ω : Nat → Nat) (M sw rw B L : Nat) : Int64 := ((((((dg2 σ κ ω ((dg1 h s 34 * (31 : Int64)) + (iI (M : Nat)).toInt64) M * (31 : Int64)) + (iI (sw : Nat)).toInt64) * (31 : Int64)) + (iI (rw : Nat)).toInt64) * (31 : Int64)) + (iI (B : Nat)).toInt64) * (31 : Int64) + (iI (L : Nat)).toInt64
section DIG
variable {sw rw M : Nat} {σ κ ω h l s : Nat → Nat}
theorem p_tell {so ki op : Nat → Int32} (hso : rowN M so σ) (hki : rowN M ki κ) (hop : rowN M op ω) (hω : ∀ i, i < M → ω i ≤ 1) (hM : M ≤ 4) {j t : Nat} (hj : j < M) (ht : t < 3) {post : Int32 → Prop} (q : post (tl σ κ ω j t)) : w_X1_tellMeld so ki op (iI j) (iI t) post := by
  have a := hω j hj
  unfold w_X1_tellMeld
  unfold tl at q
  rw [iI_ix j (by omega), hso j hj, hki j hj, hop j hj, iI_eq0 (z := (ω j : Nat)) ⟨by omega, by omega⟩, iI_eq0 (z := (t : Nat)) ⟨by omega, by omega⟩, n1, iI_eq' (a := t) (b := 1) (by omega) (by omega), ← n1]
  refine ⟨fun c => ⟨iI_in' (by omega) (by omega), ?_⟩, fun c => ⟨fun c2 => ⟨iI_in' (by omega) (by omega), ?_⟩, fun c2 => ⟨iI_in' (by omega) (by omega), fun c3 => ?_, fun c3 => ?_⟩⟩⟩
  · rw [if_pos (by omega)] at q; exact q
  · rw [if_neg (by omega), if_pos c2] at q; exact q
  · rw [if_neg (by omega), if_neg c2, if_pos (by omega)] at q; exact q
  · rw [if_neg (by omega), if_neg c2, if_neg (by omega)] at q; exact q
theorem p_told {so ki op : Nat → Int32} (hso : rowN M so σ) (hki : rowN M ki κ) (hop : rowN M op ω) (hω : ∀ i, i < M → ω i ≤ 1) (hM : M ≤ 4) {j t : Nat} (hj : j < M) (ht : t < 3) {post : Int32 → Prop} (q : post (tl σ κ ω j t)) : w_X2_told so ki op (iI j) (iI t) post := by
  have a := hω j hj
  unfold w_X2_told
  unfold tl at q
  rw [iI_ix j (by omega), hso j hj, hki j hj, hop j hj, iI_eq0 (z := (ω j : Nat)) ⟨by omega, by omega⟩, iI_eq0 (z := (t : Nat)) ⟨by omega, by omega⟩, n1, iI_eq' (a := t) (b := 1) (by omega) (by omega), ← n1]
  refine ⟨fun c => ⟨iI_in' (by omega) (by omega), ?_⟩, fun c => ⟨fun c2 => ⟨iI_in' (by omega) (by omega), ?_⟩, fun c2 => ⟨iI_in' (by omega) (by omega), fun c3 => ?_, fun c3 => ?_⟩⟩⟩
  · rw [if_pos (by omega)] at q; exact q
  · rw [if_neg (by omega), if_pos c2] at q; exact q
  · rw [if_neg (by omega), if_neg c2, if_pos (by omega)] at q; exact q
  · rw [if_neg (by omega), if_neg c2, if_neg (by omega)] at q; exact q
theorem p_digest (hM : M ≤ 4) (hσ : ∀ i, i < M → σ i ≤ 2) (hκ : ∀ i, i < M → κ i < 34) (hω : ∀ i, i < M → ω i ≤ 1) (hsw : sw < 100) (hrw : rw < 100) (h4 : ∀ k, k < 34 → h k + l k + s k ≤ 4) (hl16 : sumN 34 l ≤ 16) {tc B L : Nat} (htc : tc = sumN 34 h) (ht : tc < 99) {hd la se so ki op nw nx : Nat → Int32} {glm rom hel : Int32} {post : Int64 → Int32 → (Nat → Int32) → (Nat → Int32) → (Nat → Int32) → Int32 → Int32 → Int32 → (Nat → Int32) → (Nat → Int32) → Prop}
    (hh : rowN 34 hd h) (hl : rowN 34 la l) (hs : rowN 34 se s) (hso : rowN M so σ) (hki : rowN M ki κ) (hop : rowN M op ω)
    (hq : ∀ (v : Nat) hd so ki glm rom hel nw nx, isMt h l M v → rowN 34 hd h → rowN M so σ → rowN M ki κ → post ((((dgv h s σ κ ω M sw rw B L * (31 : Int64)) + wst (wP sw rw M σ κ h l) 34) * (31 : Int64)) + (iI (v : Nat)).toInt64) (iI tc) hd so ki glm rom hel nw nx) : w_X1_digest (iI tc) (iI M) (iI sw) (iI rw) (iI B) (iI L) hd la se so ki op glm rom hel nw nx post := by
  have stop : w_X1_digest_b109 post (iI M) (iI sw) (iI rw) (iI B) (iI L) la se op (dg2 σ κ ω ((dg1 h s 34 * (31 : Int64)) + (iI (M : Nat)).toInt64) M) (iI tc) hd so ki glm rom hel nw nx := by
    unfold w_X1_digest_b109
    intro t4 e4 t5 e5 t6 e6 t7 e7
    have e : t7 = dgv h s σ κ ω M sw rw B L := by rw [e7, e6, e5, e4]; rfl
    rw [e]
    refine p_waits hM hσ hκ hsw hrw (fun k hk => by have := h4 k hk; omega) htc ht hh hl hso hki (fun hd so ki hh hso hki => p_missing hh hl (fun k hk => by have := h4 k hk; omega) (fun k hk => by have := h4 k hk; omega) hl16 hM (fun v glm rom hel nw nx hv => hq v hd so ki glm rom hel nw nx hv hh hso hki))
  have tells : ∀ (d j : Nat), j + d = M → w_X1_digest_b60 post (iI M) (iI sw) (iI rw) (iI B) (iI L) la se op (d + 1) (dg2 σ κ ω ((dg1 h s 34 * (31 : Int64)) + (iI (M : Nat)).toInt64) j) (iI j) (iI tc) hd so ki glm rom hel nw nx := by
    intro d
    induction d with
    | zero =>
      intro j hj
      have e : j = M := by omega
      subst e
      rw [w_X1_digest_b60, iI_le' (a := j) (b := j) (by omega) (by omega)]
      exact ⟨fun _ => stop, fun c => absurd (by omega) c⟩
    | succ d ih =>
      intro j hj
      have hn := ih (j + 1) (by omega)
      rw [w_X1_digest_b60, iI_le' (a := M) (b := j) (by omega) (by omega), n4, iI_le' (a := 4) (b := j) (by omega) (by omega)]
      refine ⟨fun c => absurd c (by omega), fun _ => ⟨fun c => absurd c (by omega), fun _ => ⟨4, ?_⟩⟩⟩
      have inner : ∀ (e t : Nat), t + e = 3 → w_X1_digest_b76 post (iI M) (iI sw) (iI rw) (iI B) (iI L) la se op (w_X1_digest_b60 post (iI M) (iI sw) (iI rw) (iI B) (iI L) la se op (d + 1)) (e + 1) (dgi σ κ ω (dg2 σ κ ω ((dg1 h s 34 * (31 : Int64)) + (iI (M : Nat)).toInt64) j) j t) (iI j) (iI t) (iI tc) hd so ki glm rom hel nw nx := by
        intro e
        induction e with
        | zero =>
          intro t het
          have e3 : t = 3 := by omega
          subst e3
          rw [w_X1_digest_b76, n2, iI_lt' (a := 2) (b := 3) (by omega) (by omega)]
          refine ⟨fun _ => ?_, fun c => absurd (by omega) c⟩
          unfold w_X1_digest_b103
          rw [iI_inc]
          exact hn
        | succ e ih2 =>
          intro t het
          rw [w_X1_digest_b76, n2, iI_lt' (a := 2) (b := t) (by omega) (by omega), iI_inc]
          exact ⟨fun c => absurd c (by omega), fun _ => p_tell hso hki hop hω hM (by omega) (by omega) (fun t24 e24 => by rw [e24]; exact ih2 (t + 1) (by omega))⟩
      rw [n0]
      exact inner 3 0 (by omega)
  have first : ∀ (d k : Nat), k + d = 34 → w_X1_digest_b6 post (iI M) (iI sw) (iI rw) (iI B) (iI L) la se op (d + 1) (dg1 h s k) (iI k) (iI tc) hd so ki glm rom hel nw nx := by
    intro d
    induction d with
    | zero =>
      intro k hk
      have e : k = 34 := by omega
      subst e
      rw [w_X1_digest_b6, n34, iI_le' (a := 34) (b := 34) (by omega) (by omega)]
      refine ⟨fun _ => ?_, fun c => absurd (by omega) c⟩
      unfold w_X1_digest_b46
      intro t2 e2
      rw [e2, n0]
      exact ⟨M + 1, tells M 0 (by omega)⟩
    | succ d ih =>
      intro k hk
      rw [w_X1_digest_b6, n34, iI_le' (a := 34) (b := k) (by omega) (by omega), iI_ix k (by omega), hh k (by omega), hs k (by omega), iI_inc]
      exact ⟨fun c => absurd c (by omega), fun _ => ⟨iI_in' (by omega) (by omega), fun t26 e26 => ⟨iI_in' (by omega) (by omega), fun t28 e28 => by rw [e28, e26]; exact ih (k + 1) (by omega)⟩⟩⟩
  unfold w_X1_digest
  exact ⟨35, by rw [n0]; exact first 34 0 (by omega)⟩
theorem p_mDigest (hM4 : M ≤ 4) (hω : ∀ i, i < M → ω i ≤ 1) (h4 : ∀ k, k < 34 → h k + l k + s k ≤ 4) (hl16 : sumN 34 l ≤ 16) {B L : Nat} (ht : sumN 34 h < 99) {hM sM lM oM kM zM rM gM bM xM : Nat → Int32} {thr : Int32} {post : Int64 → Int32 → (Nat → Int32) → (Nat → Int32) → (Nat → Int32) → (Nat → Int32) → (Nat → Int32) → Prop}
    (hh : rowN 34 hM h) (hl : rowN 34 lM l) (hs : rowN 34 sM s) (ho : rowN M oM σ) (hkM : rowN M kM κ) (hz : rowN M zM ω)
    (hq : ∀ (v : Nat) hM rM gM bM xM, isMt h l M v → rowN 34 hM h → post ((((dgv h s σ κ ω M sw rw B L * (31 : Int64)) + wst (wP sw rw M σ κ h l) 34) * (31 : Int64)) + (iI (v : Nat)).toInt64) 0 hM rM gM bM xM) : w_X2_digest thr (iI M) (iI sw) (iI rw) (iI B) (iI L) hM sM lM oM kM zM rM gM bM xM post := by
  have stop : w_X2_digest_b107 post (iI M) (iI sw) (iI rw) (iI B) (iI L) sM lM oM kM zM (dg2 σ κ ω ((dg1 h s 34 * (31 : Int64)) + (iI (M : Nat)).toInt64) M) 0 hM rM gM bM xM := by
    unfold w_X2_digest_b107
    intro t4 e4
    have e : t4 = dgv h s σ κ ω M sw rw B L := e4
    rw [e]
    refine p_waitingSet (sw := sw) (rw := rw) (σ := σ) (κ := κ) hM4 ht (fun k hk => by have := h4 k hk; omega) hh hl (fun hM rM gM hh => p_missingTiles hh hl (fun k hk => by have := h4 k hk; omega) (fun k hk => by have := h4 k hk; omega) hl16 hM4 (fun v bM xM hv => hq v hM rM gM bM xM hv hh))
  have tells : ∀ (d j : Nat), j + d = M → w_X2_digest_b63 post (iI M) (iI sw) (iI rw) (iI B) (iI L) sM lM oM kM zM (d + 1) (dg2 σ κ ω ((dg1 h s 34 * (31 : Int64)) + (iI (M : Nat)).toInt64) j) (iI j) 0 hM rM gM bM xM := by
    intro d
    induction d with
    | zero =>
      intro j hj
      have e : j = M := by omega
      subst e
      rw [w_X2_digest_b63, iI_le' (a := j) (b := j) (by omega) (by omega)]
      exact ⟨fun _ => stop, fun c => absurd (by omega) c⟩
    | succ d ih =>
      intro j hj
      have hn := ih (j + 1) (by omega)
      rw [w_X2_digest_b63, iI_le' (a := M) (b := j) (by omega) (by omega)]
      refine ⟨fun c => absurd c (by omega), fun _ => ⟨4, ?_⟩⟩
      have inner : ∀ (e t : Nat), t + e = 3 → w_X2_digest_b74 post (iI M) (iI sw) (iI rw) (iI B) (iI L) sM lM oM kM zM (w_X2_digest_b63 post (iI M) (iI sw) (iI rw) (iI B) (iI L) sM lM oM kM zM (d + 1)) (e + 1) (dgi σ κ ω (dg2 σ κ ω ((dg1 h s 34 * (31 : Int64)) + (iI (M : Nat)).toInt64) j) j t) (iI j) (iI t) 0 hM rM gM bM xM := by
        intro e
        induction e with
        | zero =>
          intro t het
          have e3 : t = 3 := by omega
          subst e3
          rw [w_X2_digest_b74, n3, iI_le' (a := 3) (b := 3) (by omega) (by omega)]
          refine ⟨fun _ => ?_, fun c => absurd (by omega) c⟩
          unfold w_X2_digest_b101
          rw [iI_inc]
          exact hn
        | succ e ih2 =>
          intro t het
          rw [w_X2_digest_b74, n3, iI_le' (a := 3) (b := t) (by omega) (by omega), iI_inc]
          exact ⟨fun c => absurd c (by omega), fun _ => p_told ho hkM hz hω hM4 (by omega) (by omega) (fun t24 e24 => by rw [e24]; exact ih2 (t + 1) (by omega))⟩
      have := inner 3 0 (by omega)
      exact this
  have first : ∀ (d k : Nat), k + d = 34 → w_X2_digest_b11 post (iI M) (iI sw) (iI rw) (iI B) (iI L) sM lM oM kM zM (d + 1) (dg1 h s k) (iI k) 0 hM rM gM bM xM := by
    intro d
    induction d with
    | zero =>
      intro k hk
      have e : k = 34 := by omega
      subst e
      rw [w_X2_digest_b11, n34, iI_le' (a := 34) (b := 34) (by omega) (by omega)]
      refine ⟨fun _ => ?_, fun c => absurd (by omega) c⟩
      unfold w_X2_digest_b49
      intro t2 e2
      rw [e2]
      exact ⟨M + 1, tells M 0 (by omega)⟩
    | succ d ih =>
      intro k hk
      rw [w_X2_digest_b11, n34, iI_le' (a := 34) (b := k) (by omega) (by omega), iI_ix k (by omega), hh k (by omega), hs k (by omega), iI_inc]
      exact ⟨fun c => absurd c (by omega), fun _ => ⟨iI_in' (by omega) (by omega), iI_in' (by omega) (by omega), fun t28 e28 => by rw [e28]; exact ih (k + 1) (by omega)⟩⟩
  unfold w_X2_digest
  exact ⟨35, first 34 0 (by omega)⟩
end DIG
