/-! the reference's completeness and fans -/
def mbv (F : List Nat → Int) (n : Nat) (h : Nat → Nat) (b : Nat) : Int := match ctp n b h [] with
  | some g => F g
  | none => -1
theorem mbv_some {F : List Nat → Int} {n b : Nat} {h : Nat → Nat} {g : List Nat} (e : ctp n b h [] = some g) : mbv F n h b = F g := by unfold mbv; rw [e]
theorem mbv_none {F : List Nat → Int} {n b : Nat} {h : Nat → Nat} (e : ctp n b h [] = none) : mbv F n h b = -1 := by unfold mbv; rw [e]
def mbx (F : List Nat → Int) (n : Nat) (h : Nat → Nat) : Nat → Int
  | 0 => -1
  | b + 1 => max (mbx F n h b) (mbv F n h b)
theorem mbx_ge (F : List Nat → Int) (n : Nat) (h : Nat → Nat) : ∀ b, -1 ≤ mbx F n h b := by
  intro b
  induction b with
  | zero => exact Int.le_refl _
  | succ b ih => simp only [mbx]; omega
theorem mbx_get (F : List Nat → Int) (n : Nat) (h : Nat → Nat) : ∀ b c, c < b → mbv F n h c ≤ mbx F n h b := by
  intro b
  induction b with
  | zero => intro c z; omega
  | succ b ih =>
    intro c z
    simp only [mbx]
    by_cases e : c = b
    · subst e; omega
    · have := ih c (by omega); omega
theorem mbx_le {F : List Nat → Int} (hF : ∀ g, 0 ≤ F g ∧ F g ≤ 30) (n : Nat) (h : Nat → Nat) : ∀ b, mbx F n h b ≤ bsp F n h [] := by
  have q := (bsp_bd hF n h []).1
  intro b
  induction b with
  | zero => exact q
  | succ b ih =>
    simp only [mbx]
    cases e : ctp n b h [] with
    | none => rw [mbv_none e]; omega
    | some g => rw [mbv_some e]; have := bsp_ge (F := F) n b h [] g e; omega
theorem mbx_eq {F : List Nat → Int} (hF : ∀ g, 0 ≤ F g ∧ F g ≤ 30) {n : Nat} (hn : n ≤ 4) (h : Nat → Nat) : mbx F n h 16 = bsp F n h [] := by
  have a := mbx_le hF n h 16
  have b : bsp F n h [] ≤ mbx F n h 16 := by
    rcases bsp_at (F := F) n h [] with q | ⟨bits, g, q1, q2, q3⟩
    · rw [q]; exact mbx_ge F n h 16
    · have p : 2 ^ n ≤ 2 ^ 4 := Nat.pow_le_pow_right (by omega) hn
      have := mbx_get F n h 16 bits (by omega)
      rw [mbv_some q2, q3] at this
      exact this
  omega
section FOF
variable {sw rw M : Nat} {σ κ h : Nat → Nat}
theorem gmx_n {k : Nat} (c : ¬ 2 ≤ h k) : gmx sw rw M σ κ h (k + 1) = gmx sw rw M σ κ h k := by
  have := gmx_bd sw rw M σ κ h k
  simp only [gmx]
  rw [if_neg c]
  omega
theorem gmx_y {k : Nat} (c : 2 ≤ h k) : gmx sw rw M σ κ h (k + 1) = max (gmx sw rw M σ κ h k) (mbx (FF sw rw M σ κ k) (4 - M) (nup h k (h k - 2)) 16) := by
  simp only [gmx]
  rw [if_pos c, mbx_eq (FF_bd sw rw M σ κ k) (by omega)]
theorem gmx_mono : ∀ n m, n ≤ m → gmx sw rw M σ κ h n ≤ gmx sw rw M σ κ h m := by
  intro n m
  induction m with
  | zero => intro q; rw [show n = 0 by omega]; exact Int.le_refl _
  | succ m ih =>
    intro q
    by_cases e : n = m + 1
    · subst e; exact Int.le_refl _
    · have := ih (by omega)
      simp only [gmx]
      omega
theorem arr_seven (hs : sumN 34 h + 3 * M = 14) (q : M = 0 ∧ prH h = 14) : ¬ arr sw rw M σ κ h = -1 := by
  have := gmx_bd sw rw M σ κ h 34
  unfold arr
  rw [if_pos hs, if_pos q]
  split <;> omega
theorem arr_orph (hs : sumN 34 h + 3 * M = 14) (q : M = 0 ∧ orH h = 14) : ¬ arr sw rw M σ κ h = -1 := by
  have := gmx_bd sw rw M σ κ h 34
  unfold arr
  rw [if_pos hs, if_pos q]
  split <;> omega
theorem arr_gmx (hs : sumN 34 h + 3 * M = 14) (q : ¬ gmx sw rw M σ κ h 34 = -1) : ¬ arr sw rw M σ κ h = -1 := by
  have := gmx_bd sw rw M σ κ h 34
  unfold arr
  rw [if_pos hs]
  split <;> split <;> omega
theorem p_completes (hM4 : M ≤ 4) (ht : sumN 34 h < 100) (h4 : ∀ k, k < 34 → h k ≤ 4) {hM rM gM : Nat → Int32} (hh : rowN 34 hM h) {post : Int32 → (Nat → Int32) → (Nat → Int32) → Prop} (h1 : ¬ arr sw rw M σ κ h = -1 → ∀ rM gM, post 1 rM gM) (h0 : arr sw rw M σ κ h = -1 → ∀ rM gM, post 0 rM gM) : w_X2_completes (iI M) hM rM gM post := by
  unfold w_X2_completes
  refine p_sizeOf hh ?_
  rw [n14, iI_eq' (a := sumN 34 h + 3 * M) (b := 14) (by omega) (by omega)]
  refine ⟨fun hs => p_seven hM4 hs h4 hh (fun z => ⟨fun y => absurd y i10, fun _ => h1 (arr_seven hs z) rM gM⟩) (fun z1 => ⟨fun _ => p_orph hM4 hs h4 hh (fun z => ⟨fun y => absurd y i10, fun _ => h1 (arr_orph hs z) rM gM⟩) (fun z2 => ⟨fun _ => ⟨35, ?_⟩, fun y => absurd rfl y⟩), fun y => absurd rfl y⟩), fun hs => h0 (by unfold arr; rw [if_neg hs]) rM gM⟩
  have inner : ∀ (K : Int32 → (Nat → Int32) → (Nat → Int32) → Prop) (k : Nat), k < 34 → (gmx sw rw M σ κ h k = -1) → (gmx sw rw M σ κ h (k + 1) = -1 → ∀ rM gM, K (iI (k + 1 : Nat)) rM gM) → 2 ≤ h k → ∀ (d b : Nat) (rM gM : Nat → Int32), b + d = 16 → mbx (FF sw rw M σ κ k) (4 - M) (nup h k (h k - 2)) b = -1 → w_X2_completes_b37 post (iI M) hM K (d + 1) (iI k) (iI b) rM gM := by
    intro K k hk hg hK h2 d
    induction d with
    | zero =>
      intro b rM gM hb hx
      have e : b = 16 := by omega
      subst e
      rw [w_X2_completes_b37, n16, iI_le' (a := 16) (b := 16) (by omega) (by omega)]
      refine ⟨fun _ => ?_, fun c => absurd (by omega) c⟩
      unfold w_X2_completes_b70
      rw [iI_inc]
      exact hK (by rw [gmx_y h2, hg, hx]; rfl) rM gM
    | succ d ih =>
      intro b rM gM hb hx
      have a := h4 k hk
      rw [w_X2_completes_b37, n16, iI_le' (a := 16) (b := b) (by omega) (by omega), iI_ix k (by omega), hh k hk, n1, iI_le' (a := h k) (b := 1) (by omega) (by omega)]
      refine ⟨fun c => absurd c (by omega), fun _ => ⟨iI_in' (by omega) (by omega), fun c => absurd c (by omega), fun _ => p_cut hM4 hh (fun k hk => by have := h4 k hk; omega) hk h2 (by omega) (fun g eg rM gM _ => ⟨fun y => absurd y i10, fun _ => ?_⟩) (fun eg rM gM => ⟨fun _ => ?_, fun y => absurd rfl y⟩)⟩⟩
      · refine h1 (arr_gmx hs ?_) rM gM
        have f := FF_bd sw rw M σ κ k g
        have g1 := mbx_get (FF sw rw M σ κ k) (4 - M) (nup h k (h k - 2)) 16 b (by omega)
        rw [mbv_some eg] at g1
        have g2 := gmx_mono (sw := sw) (rw := rw) (M := M) (σ := σ) (κ := κ) (h := h) (k + 1) 34 (by omega)
        rw [gmx_y h2] at g2
        omega
      · rw [iI_add']
        exact ih (b + 1) rM gM (by omega) (by simp only [mbx]; rw [hx, mbv_none eg]; rfl)
  have outer : ∀ (d k : Nat) (rM gM : Nat → Int32), k + d = 34 → gmx sw rw M σ κ h k = -1 → w_X2_completes_b29 post (iI M) hM (d + 1) (iI k) rM gM := by
    intro d
    induction d with
    | zero =>
      intro k rM gM hk hg
      have e : k = 34 := by omega
      subst e
      rw [w_X2_completes_b29, n34, iI_le' (a := 34) (b := 34) (by omega) (by omega)]
      refine ⟨fun _ => h0 ?_ rM gM, fun c => absurd (by omega) c⟩
      unfold arr
      rw [if_pos hs, if_neg z1, if_neg z2, hg]; rfl
    | succ d ih =>
      intro k rM gM hk hg
      have a := h4 k (by omega)
      rw [w_X2_completes_b29, n34, iI_le' (a := 34) (b := k) (by omega) (by omega)]
      refine ⟨fun c => absurd c (by omega), fun _ => ⟨17, ?_⟩⟩
      by_cases h2 : 2 ≤ h k
      · rw [n0]
        exact inner _ k (by omega) hg (fun q rM gM => ih (k + 1) rM gM (by omega) q) h2 16 0 rM gM (by omega) rfl
      · rw [w_X2_completes_b37, n16, n0, iI_le' (a := 16) (b := 0) (by omega) (by omega), iI_ix k (by omega), hh k (by omega), n1, iI_le' (a := h k) (b := 1) (by omega) (by omega)]
        refine ⟨fun c => absurd c (by omega), fun _ => ⟨iI_in' (by omega) (by omega), fun _ => ?_, fun c => absurd (by omega) c⟩⟩
        unfold w_X2_completes_b70
        rw [iI_inc]
        exact ih (k + 1) rM gM (by omega) (by rw [gmx_n h2]; exact hg)
  rw [n0]
  exact outer 34 0 rM gM (by omega) rfl
theorem p_fansOf {l ω : Nat → Nat} (hM4 : M ≤ 4) (hσ : ∀ i, i < M → σ i ≤ 2) (hκ : ∀ i, i < M → κ i < 34) (hω : ∀ i, i < M → ω i ≤ 1) (hsw : sw < 100) (hrw : rw < 100) (hs : sumN 34 h + 3 * M = 14) (h4 : ∀ k, k < 34 → h k ≤ 4) (l4 : ∀ k, k < 34 → l k ≤ 4)
    {hM lM oM kM zM rM gM : Nat → Int32} (hh : rowN 34 hM h) (hl : rowN 34 lM l) (ho : rowN M oM σ) (hk : rowN M kM κ) (hz : rowN M zM ω) {p0 : Int32} {post : Int32 → (Nat → Int32) → (Nat → Int32) → Prop}
    (hq : ∀ rM gM, post (iI (arr sw rw M σ κ h + (cmn h l ω M p0 : Nat))) rM gM) : w_X2_fansOf (iI M) (iI sw) (iI rw) hM lM oM kM zM rM gM p0 post := by
  have ab := arr_bd sw rw M σ κ h
  have hb := gmx_bd sw rw M σ κ h
  have outer : ∀ (A : Int), -1 ≤ A → A ≤ 30 → arr sw rw M σ κ h = max A (gmx sw rw M σ κ h 34) → ∀ (d k : Nat) (rM gM : Nat → Int32), k + d = 34 → w_X2_fansOf_b27 post (iI M) (iI sw) (iI rw) hM lM oM kM zM p0 (d + 1) (iI (max A (gmx sw rw M σ κ h k))) (iI k) rM gM := by
    intro A a1 a2 ea d
    induction d with
    | zero =>
      intro k rM gM hk1
      have e : k = 34 := by omega
      subst e
      rw [w_X2_fansOf_b27, n34, iI_le' (a := 34) (b := 34) (by omega) (by omega)]
      refine ⟨fun _ => ?_, fun c => absurd (by omega) c⟩
      unfold w_X2_fansOf_b85
      refine p_common hM4 hz hω hh hl h4 l4 ?_
      rw [iI_add, ← ea]
      exact hq rM gM
    | succ d ih =>
      intro k rM gM hk1
      have a := h4 k (by omega)
      have hbk := hb k
      rw [w_X2_fansOf_b27, n34, iI_le' (a := 34) (b := k) (by omega) (by omega)]
      refine ⟨fun c => absurd c (by omega), fun _ => ⟨17, ?_⟩⟩
      by_cases h2 : 2 ≤ h k
      · have inner : ∀ (d2 b : Nat) (rM gM : Nat → Int32), b + d2 = 16 → w_X2_fansOf_b36 post (iI M) (iI sw) (iI rw) hM lM oM kM zM p0 (w_X2_fansOf_b27 post (iI M) (iI sw) (iI rw) hM lM oM kM zM p0 (d + 1)) (d2 + 1) (iI (max (max A (gmx sw rw M σ κ h k)) (mbx (FF sw rw M σ κ k) (4 - M) (nup h k (h k - 2)) b))) (iI k) (iI b) rM gM := by
          intro d2
          induction d2 with
          | zero =>
            intro b rM gM hb2
            have e : b = 16 := by omega
            subst e
            rw [w_X2_fansOf_b36, n16, iI_le' (a := 16) (b := 16) (by omega) (by omega)]
            refine ⟨fun _ => ?_, fun c => absurd (by omega) c⟩
            unfold w_X2_fansOf_b79
            rw [iI_inc]
            have := ih (k + 1) rM gM (by omega)
            rw [gmx_y h2] at this
            rw [Int.max_assoc]
            exact this
          | succ d2 ih2 =>
            intro b rM gM hb2
            have mb1 := mbx_ge (FF sw rw M σ κ k) (4 - M) (nup h k (h k - 2)) b
            have mb2 := mbx_le (FF_bd sw rw M σ κ k) (4 - M) (nup h k (h k - 2)) b
            have mb3 := bsp_bd (FF_bd sw rw M σ κ k) (4 - M) (nup h k (h k - 2)) []
            rw [w_X2_fansOf_b36, n16, iI_le' (a := 16) (b := b) (by omega) (by omega), iI_ix k (by omega), hh k (by omega), n1, iI_le' (a := h k) (b := 1) (by omega) (by omega)]
            refine ⟨fun c => absurd c (by omega), fun _ => ⟨iI_in' (by omega) (by omega), fun c => absurd c (by omega), fun _ => p_cut hM4 hh (fun k hk => by have := h4 k hk; omega) (by omega) h2 (by omega) (fun g eg rM gM hgM => ⟨fun y => absurd y i10, fun _ => ?_⟩) (fun eg rM gM => ⟨fun _ => ?_, fun y => absurd rfl y⟩)⟩⟩
            · obtain ⟨ok1, ok2⟩ := ctp_ok _ _ _ _ _ (fun c hc => by cases hc) eg
              have f := FF_bd sw rw M σ κ k g
              refine p_grouped hM4 hσ hκ hsw hrw (by omega) ok1 (by rw [ok2]; show 0 + (4 - M) = 4 - M; omega) ho hk hgM (fun t15 e15 => ?_)
              unfold w_X2_fansOf_b73
              rw [iI_max ⟨by omega, by omega⟩ ⟨by omega, by omega⟩] at e15
              have := ih2 (b + 1) rM gM (by omega)
              simp only [mbx] at this
              rw [mbv_some eg, ← Int.max_assoc] at this
              rw [e15, iI_inc]
              exact this
            · unfold w_X2_fansOf_b73
              have := ih2 (b + 1) rM gM (by omega)
              simp only [mbx] at this
              rw [mbv_none eg, show max (mbx (FF sw rw M σ κ k) (4 - M) (nup h k (h k - 2)) b) (-1) = mbx (FF sw rw M σ κ k) (4 - M) (nup h k (h k - 2)) b by omega] at this
              rw [iI_inc]
              exact this
        have := inner 16 0 rM gM (by omega)
        simp only [mbx] at this
        rw [show max (max A (gmx sw rw M σ κ h k)) (-1) = max A (gmx sw rw M σ κ h k) by omega] at this
        rw [n0]
        exact this
      · rw [w_X2_fansOf_b36, n16, n0, iI_le' (a := 16) (b := 0) (by omega) (by omega), iI_ix k (by omega), hh k (by omega), n1, iI_le' (a := h k) (b := 1) (by omega) (by omega)]
        refine ⟨fun c => absurd c (by omega), fun _ => ⟨iI_in' (by omega) (by omega), fun _ => ?_, fun c => absurd (by omega) c⟩⟩
        unfold w_X2_fansOf_b79
        rw [iI_inc]
        have := ih (k + 1) rM gM (by omega)
        rw [gmx_n h2] at this
        exact this
  have start : ∀ (A : Int), -1 ≤ A → A ≤ 30 → arr sw rw M σ κ h = max A (gmx sw rw M σ κ h 34) → w_X2_fansOf_b25 post (iI M) (iI sw) (iI rw) hM lM oM kM zM p0 (iI A) rM gM := fun A a1 a2 ea => by
    unfold w_X2_fansOf_b25
    have := outer A a1 a2 ea 34 0 rM gM (by omega)
    simp only [gmx] at this
    rw [show max A (-1) = A by omega] at this
    exact ⟨35, by rw [n0]; exact this⟩
  have g34 := hb 34
  have mid : ∀ (A : Int), -1 ≤ A → A ≤ 13 → arr sw rw M σ κ h = max (max (gmx sw rw M σ κ h 34) (if M = 0 ∧ prH h = 14 then 2 else -1)) A → w_X2_fansOf_b12 post (iI M) (iI sw) (iI rw) hM lM oM kM zM p0 (iI A) rM gM := fun A a1 a2 ea => by
    unfold w_X2_fansOf_b12
    refine p_seven hM4 hs h4 hh (fun z => ⟨fun y => absurd y i10, fun _ t16 e16 => ?_⟩) (fun z => ⟨fun _ => ?_, fun y => absurd rfl y⟩)
    · rw [if_pos z] at ea
      rw [n2, iI_max (b := ((2 : Nat) : Int)) ⟨by omega, by omega⟩ ⟨by omega, by omega⟩] at e16
      rw [e16]
      exact start _ (by omega) (by omega) (by rw [ea]; omega)
    · rw [if_neg z] at ea
      exact start A a1 (by omega) (by rw [ea]; omega)
  unfold w_X2_fansOf
  refine p_orph hM4 hs h4 hh (fun z => ⟨fun y => absurd y i10, fun _ => ?_⟩) (fun z => ⟨fun _ => ?_, fun y => absurd rfl y⟩)
  · rw [n13]
    exact mid ((13 : Nat) : Int) (by omega) (by omega) (by unfold arr; rw [if_pos hs, if_pos z]; rfl)
  · rw [iI_m1]
    exact mid (-1) (by omega) (by omega) (by unfold arr; rw [if_pos hs, if_neg z])
end FOF
