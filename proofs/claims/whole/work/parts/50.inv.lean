/-! the invariant of the two -/
def lsz (σ : Nat → Nat) : Nat → Nat := fun i => if σ i = 2 then 4 else 3
def St (h l s σ κ ω : Nat → Nat) (M sw rw B Lm : Nat) : Prop := (∀ k, k < 34 → h k + l k + s k ≤ 4) ∧ M ≤ 4 ∧ sumN 34 h + 3 * M ≤ 14 ∧ (∀ i, i < M → σ i ≤ 2 ∧ κ i < 34 ∧ ω i ≤ 1) ∧ sumN 34 l = sumN M (lsz σ) ∧ (∀ i, i < M → σ i = 1 → 3 ≤ l (κ i)) ∧ (∀ i j, i < M → j < M → σ i = 1 → σ j = 1 → κ i = κ j → i = j) ∧ (27 ≤ sw ∧ sw ≤ 30) ∧ (27 ≤ rw ∧ rw ≤ 30) ∧ (1 ≤ B ∧ B ≤ 100) ∧ (1 ≤ Lm ∧ Lm ≤ 13)
def Rw (h l s σ κ ω : Nat → Nat) (M : Nat) (hd la se so ki op hM sM lM oM kM zM : Nat → Int32) : Prop := (rowN 34 hd h ∧ rowN 34 la l ∧ rowN 34 se s ∧ rowN M so σ ∧ rowN M ki κ ∧ rowN M op ω) ∧ (rowN 34 hM h ∧ rowN 34 sM s ∧ rowN 34 lM l ∧ rowN M oM σ ∧ rowN M kM κ ∧ rowN M zM ω)
def InvL (tcn mcn swd rwd bpt flm : Int32) (hd la se so ki op : Nat → Int32) (glm rom hel : Int32) (nw nx : Nat → Int32) (thr mel sea rnd bas lim : Int32) (hM sM lM oM kM zM rM gM bM xM : Nat → Int32) (ou : Nat → Int64) : Prop :=
  ∃ (h l s σ κ ω : Nat → Nat) (M sw rw B Lm : Nat), (tcn = iI (sumN 34 h : Nat) ∧ mcn = iI M ∧ swd = iI sw ∧ rwd = iI rw ∧ bpt = iI B ∧ flm = iI Lm) ∧ (mel = iI M ∧ sea = iI sw ∧ rnd = iI rw ∧ bas = iI B ∧ lim = iI Lm) ∧ St h l s σ κ ω M sw rw B Lm ∧ Rw h l s σ κ ω M hd la se so ki op hM sM lM oM kM zM
theorem InvL_mk {h l s σ κ ω : Nat → Nat} {M sw rw B Lm : Nat} {hd la se so ki op : Nat → Int32} {glm rom hel : Int32} {nw nx : Nat → Int32} {thr : Int32} {hM sM lM oM kM zM rM gM bM xM : Nat → Int32} {ou : Nat → Int64} {tcn : Int32} (et : tcn = iI (sumN 34 h : Nat)) (hS : St h l s σ κ ω M sw rw B Lm) (hR : Rw h l s σ κ ω M hd la se so ki op hM sM lM oM kM zM) : InvL tcn (iI M) (iI sw) (iI rw) (iI B) (iI Lm) hd la se so ki op glm rom hel nw nx thr (iI M) (iI sw) (iI rw) (iI B) (iI Lm) hM sM lM oM kM zM rM gM bM xM ou :=
  ⟨h, l, s, σ, κ, ω, M, sw, rw, B, Lm, ⟨et, rfl, rfl, rfl, rfl, rfl⟩, ⟨rfl, rfl, rfl, rfl, rfl⟩, hS, hR⟩
theorem blk0 {a x : Int64} {K : Prop} (e : a = x) (hK : K) : ((0 : Int32) = 0 → (((0 : Int32) = 0 → (vp_in (0 : Int32) 1 ∧ ((a = x → K) ∧ (¬ a = x → False)))) ∧ (¬ (0 : Int32) = 0 → K))) ∧ (¬ (0 : Int32) = 0 → False) :=
  ⟨fun _ => ⟨fun _ => ⟨by rw [n0]; exact iI_in' (by omega) (by omega), fun _ => hK, fun c => absurd e c⟩, fun c => absurd rfl c⟩, fun c => absurd rfl c⟩
theorem blkn {c : Int32} (hc : ¬ c = 0) {X K : Prop} (hK : K) : (c = c → ((c = 0 → X) ∧ (¬ c = 0 → K))) ∧ (¬ c = c → False) :=
  ⟨fun _ => ⟨fun z => absurd z hc, fun _ => hK⟩, fun z => absurd rfl z⟩
theorem v01 : vp_in (0 : Int32) 1 := by rw [n0]; exact iI_in' (by omega) (by omega)
theorem ou0 (ou : Nat → Int64) (r : Int32) : (vp_updL ou (0 : Int32).toNatClampNeg r.toInt64) (0 : Int32).toNatClampNeg = r.toInt64 := by unfold vp_updL; rw [if_pos rfl]
theorem at1 {i L : Nat} (hL : L ≤ 2048) (hi : i + 4 ≤ L) (j : Nat) (hj : j < 4) : vp_in (iI (i : Int) + iI (j : Nat)) L := by rw [iI_add']; exact iI_in' (by omega) (by omega)
theorem i20 : ¬ (2 : Int32) = 0 := by decide
theorem i30 : ¬ (3 : Int32) = 0 := by decide
theorem p_mKind_y {k : Nat} (hk : k < 34) {post : Int32 → Prop} (h : post 1) : w_X2_isKind (iI k) post := by
  unfold w_X2_isKind w_X2_isIn
  rw [iI_lt0 ⟨by omega, by omega⟩, iI_l33, iI_lt ⟨by omega, by omega⟩ ⟨by omega, by omega⟩]
  exact ⟨fun c => by omega, fun _ => ⟨fun c => by omega, fun _ => ⟨rfl, h⟩⟩⟩
theorem p_mKind_n {p : Int32} (hp : ¬ isK p) {post : Int32 → Prop} (h : post 0) : w_X2_isKind p post := by
  unfold w_X2_isKind w_X2_isIn
  rcases notK hp with q | ⟨q, q2⟩
  · exact ⟨fun _ => ⟨rfl, h⟩, fun c => absurd q c⟩
  · refine ⟨fun c => absurd c q, fun _ => ⟨fun _ => ⟨rfl, h⟩, fun c => absurd ?_ c⟩⟩
    have hr := r32_of p
    rw [iI_of p, iI_l34, iI_le ⟨by omega, by omega⟩ hr] at q2
    rw [iI_of p, iI_l33, iI_lt ⟨by omega, by omega⟩ hr]
    omega
