abbrev outer (k : Nat) : Prop := 27 ≤ k ∨ k % 9 = 0 ∨ k % 9 = 8
def i2 (h : Nat → Nat) : Nat → Nat := fun k => if 2 ≤ h k then 1 else 0
def i1 (h : Nat → Nat) : Nat → Nat := fun k => if h k = 1 then 1 else 0
def io (h : Nat → Nat) : Nat → Nat := fun k => if outer k ∧ 0 < h k then 1 else 0
def otw (h : Nat → Nat) : Nat → Nat
  | 0 => 0
  | n + 1 => if outer n ∧ 1 < h n then 1 else otw h n
def prH (h : Nat → Nat) : Nat := 2 * min (sumN 34 (i2 h)) 7 + min (sumN 34 (i1 h)) (7 - min (sumN 34 (i2 h)) 7)
def orH (h : Nat → Nat) : Nat := sumN 34 (io h) + otw h 34
theorem sumN_one {n : Nat} {f : Nat → Nat} (h : ∀ k, k < n → f k ≤ 1) : sumN n f ≤ n := by
  induction n with
  | zero => exact Nat.le_refl _
  | succ n ih => rw [sumN]; have := ih (fun k hk => h k (by omega)); have := h n (by omega); omega
theorem i2_le (h : Nat → Nat) (k : Nat) : i2 h k ≤ 1 := by unfold i2; split <;> omega
theorem i1_le (h : Nat → Nat) (k : Nat) : i1 h k ≤ 1 := by unfold i1; split <;> omega
theorem otw_le (h : Nat → Nat) (n : Nat) : otw h n ≤ 1 := by
  induction n with
  | zero => exact Nat.zero_le _
  | succ n ih => rw [otw]; split <;> omega
theorem io13 (h : Nat → Nat) : sumN 34 (io h) ≤ 13 := by
  refine Nat.le_trans (sumN_le (g := fun k => if outer k then 1 else 0) (fun k _ => ?_)) (by decide)
  unfold io
  by_cases e : outer k
  · rw [if_pos e]; split <;> omega
  · rw [if_neg (fun z => e z.1)]; exact Nat.zero_le _
theorem prH_le (h : Nat → Nat) : prH h ≤ 14 := by unfold prH; omega
theorem orH_le (h : Nat → Nat) : orH h ≤ 14 := by unfold orH; have := io13 h; have := otw_le h 34; omega
/-- the number of missing tiles -/
def isMt (h l : Nat → Nat) (M v : Nat) : Prop := ∃ g, isMin h l (4 - M) g ∧ v = if M = 0 then min (min g (14 - prH h)) (14 - orH h) else g
theorem isMin_le {h l : Nat → Nat} {G v : Nat} (hG : G ≤ 4) (a : isMin h l G v) : v ≤ 14 := by
  obtain ⟨⟨r, t, p, g1, g2, g3, g4⟩, -⟩ := a
  have := cst_le (h := h) g1
  omega
theorem isMt_le {h l : Nat → Nat} {M v : Nat} (a : isMt h l M v) : v ≤ 14 := by
  obtain ⟨g, g1, rfl⟩ := a
  have := isMin_le (by omega) g1
  split <;> omega
theorem isMt_one {h l : Nat → Nat} {M v w : Nat} (a : isMt h l M v) (b : isMt h l M w) : v = w := by
  obtain ⟨g, g1, rfl⟩ := a
  obtain ⟨g', g2, rfl⟩ := b
  rw [isMin_one g1 g2]
theorem prH_mono {h h' : Nat → Nat} (q : ∀ k, k < 34 → h' k ≤ h k) : prH h' ≤ prH h := by
  have a : sumN 34 (i2 h') ≤ sumN 34 (i2 h) := sumN_le (fun k hk => by have := q k hk; unfold i2; split <;> split <;> omega)
  have b : sumN 34 (i2 h') + sumN 34 (i1 h') ≤ sumN 34 (i2 h) + sumN 34 (i1 h) := by
    rw [← sumN_add, ← sumN_add]
    exact sumN_le (fun k hk => by have := q k hk; unfold i1 i2; split <;> split <;> split <;> split <;> omega)
  unfold prH
  omega
theorem otw_mono {h h' : Nat → Nat} : ∀ n, n ≤ 34 → (∀ k, k < 34 → h' k ≤ h k) → otw h' n ≤ otw h n := by
  intro n
  induction n with
  | zero => intro _ _; exact Nat.le_refl _
  | succ n ih =>
    intro hn q
    have := ih (by omega) q
    have a := q n (by omega)
    have b := otw_le h n
    rw [otw, otw]
    by_cases e : outer n ∧ 1 < h' n
    · rw [if_pos e, if_pos ⟨e.1, by omega⟩]; exact Nat.le_refl _
    · rw [if_neg e]
      split <;> omega
theorem orH_mono {h h' : Nat → Nat} (q : ∀ k, k < 34 → h' k ≤ h k) : orH h' ≤ orH h := by
  have a : sumN 34 (io h') ≤ sumN 34 (io h) := sumN_le (fun k hk => by
    have := q k hk
    unfold io
    by_cases e : outer k ∧ 0 < h' k
    · rw [if_pos e, if_pos ⟨e.1, by omega⟩]; exact Nat.le_refl _
    · rw [if_neg e]; exact Nat.zero_le _)
  have b := otw_mono 34 (by omega) q
  unfold orH
  omega
theorem isMt_mono {h h' l : Nat → Nat} {M v w : Nat} (q : ∀ k, k < 34 → h' k ≤ h k) (a : isMt h l M v) (b : isMt h' l M w) : v ≤ w := by
  obtain ⟨g, g1, rfl⟩ := a
  obtain ⟨g', g2, rfl⟩ := b
  have x1 := isMin_mono q g1 g2
  have x2 := prH_mono q
  have x3 := orH_mono q
  split <;> omega
theorem n8 : (8 : Int32) = iI ((8 : Nat) : Int) := by decide
theorem p_isHonour {k : Nat} (hk : k < 34) {post : Int32 → Prop} (h1 : 27 ≤ k → post 1) (h0 : k < 27 → post 0) : w_X1_isHonour (iI k) post := by
  unfold w_X1_isHonour
  rw [n27, iI_lt' (a := k) (b := 27) (by omega) (by omega)]
  exact ⟨fun c => h0 c, fun c => h1 (by omega)⟩
theorem p_isEnd {k : Nat} (hk : k < 34) {post : Int32 → Prop} (h1 : k < 27 ∧ (k % 9 = 0 ∨ k % 9 = 8) → post 1) (h0 : ¬ (k < 27 ∧ (k % 9 = 0 ∨ k % 9 = 8)) → post 0) : w_X1_isEnd (iI k) post := by
  intro t1 e1
  rw [n9, iI_mod (a := k) (b := 9) (by omega) (by omega)] at e1
  subst e1
  refine p_isHonour hk (fun c => ⟨fun c2 => absurd c2 i10, fun _ => h0 (by omega)⟩) (fun c => ⟨fun _ => ?_, fun c2 => absurd rfl c2⟩)
  rw [iI_eq0 ⟨by omega, by omega⟩, n8, iI_eq' (a := k % 9) (b := 8) (by omega) (by omega)]
  exact ⟨fun z => h1 ⟨c, by omega⟩, fun z => ⟨fun z2 => h1 ⟨c, Or.inr z2⟩, fun z2 => h0 (by omega)⟩⟩
section MISS
variable {h : Nat → Nat}
theorem p_hbp_b6 {hd : Nat → Int32} {post : Int32 → Prop} (hh : rowN 34 hd h) (h4 : ∀ k, k < 34 → h k ≤ 4) (hq : post (iI (prH h))) : ∀ (d k : Nat), k + d = 34 → w_X1_heldByPairs_b6 post hd (d + 1) (iI (sumN k (i2 h))) (iI (sumN k (i1 h))) (iI k) := by
  intro d
  induction d with
  | zero =>
    intro k hk
    have e : k = 34 := by omega
    subst e
    rw [w_X1_heldByPairs_b6, n34, iI_le' (a := 34) (b := 34) (by omega) (by omega)]
    refine ⟨fun _ => ?_, fun c => absurd (by omega) c⟩
    have a := sumN_one (n := 34) (fun k _ => i2_le h k)
    have b := sumN_one (n := 34) (fun k _ => i1_le h k)
    intro t2 e2
    rw [n7, iI_min (a := (sumN 34 (i2 h) : Int)) (b := ((7 : Nat) : Int)) ⟨by omega, by omega⟩ ⟨by omega, by omega⟩] at e2
    have e2' : t2 = iI ((min (sumN 34 (i2 h)) 7 : Nat) : Int) := by rw [e2]; congr 1; omega
    rw [e2', n2, n7, iI_mul' 2 (min (sumN 34 (i2 h)) 7), iI_sub' (show min (sumN 34 (i2 h)) 7 ≤ 7 by omega), iI_min (a := (sumN 34 (i1 h) : Int)) (b := ((7 - min (sumN 34 (i2 h)) 7 : Nat) : Int)) ⟨by omega, by omega⟩ ⟨by omega, by omega⟩, iI_add]
    have e9 : ((2 * min (sumN 34 (i2 h)) 7 : Nat) : Int) + min (sumN 34 (i1 h) : Int) ((7 - min (sumN 34 (i2 h)) 7 : Nat) : Int) = (prH h : Int) := by unfold prH; omega
    rw [e9]
    exact hq
  | succ d ih =>
    intro k hk
    have hk4 := h4 k (by omega)
    have a := sumN_one (n := k) (fun k _ => i2_le h k)
    have b := sumN_one (n := k) (fun k _ => i1_le h k)
    rw [w_X1_heldByPairs_b6, n34, n2, iI_le' (a := 34) (b := k) (by omega) (by omega), iI_ix k (by omega), hh k (by omega), iI_lt' (a := h k) (b := 2) (by omega) (by omega)]
    refine ⟨fun c => absurd c (by omega), fun _ => ⟨iI_in' (by omega) (by omega), fun c => ⟨iI_in' (by omega) (by omega), ?_⟩, fun c => ?_⟩⟩
    · rw [show (iI (h k : Int) = 1 ↔ h k = 1) by rw [n1, iI_eq' (a := h k) (b := 1) (by omega) (by omega)]]
      refine ⟨fun c2 => ?_, fun c2 => ?_⟩
      · unfold w_X1_heldByPairs_b41
        rw [iI_inc, iI_inc]
        have := ih (k + 1) (by omega)
        rw [sumN, sumN, show i2 h k = 0 by unfold i2; rw [if_neg (by omega)], show i1 h k = 1 by unfold i1; rw [if_pos c2]] at this
        exact this
      · unfold w_X1_heldByPairs_b41
        rw [iI_inc]
        have := ih (k + 1) (by omega)
        rw [sumN, sumN, show i2 h k = 0 by unfold i2; rw [if_neg (by omega)], show i1 h k = 0 by unfold i1; rw [if_neg c2]] at this
        exact this
    · unfold w_X1_heldByPairs_b41
      rw [iI_inc, iI_inc]
      have := ih (k + 1) (by omega)
      rw [sumN, sumN, show i2 h k = 1 by unfold i2; rw [if_pos (by omega)], show i1 h k = 0 by unfold i1; rw [if_neg (by omega)]] at this
      exact this
theorem p_heldByPairs {hd : Nat → Int32} {post : Int32 → Prop} (hh : rowN 34 hd h) (h4 : ∀ k, k < 34 → h k ≤ 4) (hq : post (iI (prH h))) : w_X1_heldByPairs hd post :=
  ⟨35, by rw [n0]; exact p_hbp_b6 hh h4 hq 34 0 (by omega)⟩
theorem p_hbo_b6 {hd : Nat → Int32} {post : Int32 → Prop} (hh : rowN 34 hd h) (h4 : ∀ k, k < 34 → h k ≤ 4) (hq : post (iI (orH h))) : ∀ (d k : Nat), k + d = 34 → w_X1_heldByOrphans_b6 post hd (d + 1) (iI (sumN k (io h))) (iI (otw h k)) (iI k) := by
  intro d
  induction d with
  | zero =>
    intro k hk
    have e : k = 34 := by omega
    subst e
    rw [w_X1_heldByOrphans_b6, n34, iI_le' (a := 34) (b := 34) (by omega) (by omega), iI_add']
    exact ⟨fun _ => hq, fun c => absurd (by omega) c⟩
  | succ d ih =>
    intro k hk
    have hk4 := h4 k (by omega)
    have hn := ih (k + 1) (by omega)
    rw [w_X1_heldByOrphans_b6, n34, iI_le' (a := 34) (b := k) (by omega) (by omega)]
    have skip : ¬ outer k → w_X1_heldByOrphans_b50 post hd (w_X1_heldByOrphans_b6 post hd (d + 1)) (iI (sumN k (io h))) (iI (otw h k)) (iI k) := fun ho => by
      unfold w_X1_heldByOrphans_b50
      rw [iI_inc]
      rw [sumN, otw, show io h k = 0 by unfold io; rw [if_neg (fun z => ho z.1)], if_neg (fun z => ho z.1)] at hn
      exact hn
    have take : outer k → w_X1_heldByOrphans_b26 post hd (w_X1_heldByOrphans_b6 post hd (d + 1)) (iI (sumN k (io h))) (iI (otw h k)) (iI k) := fun ho => by
      unfold w_X1_heldByOrphans_b26 w_X1_heldByOrphans_b38 w_X1_heldByOrphans_b50
      rw [iI_ix k (by omega), hh k (by omega), iI_le0 ⟨by omega, by omega⟩, n1, iI_le' (a := h k) (b := 1) (by omega) (by omega), ← n1, iI_inc, iI_inc]
      refine ⟨iI_in' (by omega) (by omega), fun c => ⟨iI_in' (by omega) (by omega), fun c2 => ?_, fun c2 => absurd (by omega) c2⟩, fun c => ⟨iI_in' (by omega) (by omega), fun c2 => ?_, fun c2 => ?_⟩⟩
      · rw [sumN, otw, show io h k = 0 by unfold io; rw [if_neg (by omega)], if_neg (by omega)] at hn
        exact hn
      · rw [sumN, otw, show io h k = 1 by unfold io; rw [if_pos ⟨ho, by omega⟩], if_neg (by omega)] at hn
        exact hn
      · rw [n1]
        rw [sumN, otw, show io h k = 1 by unfold io; rw [if_pos ⟨ho, by omega⟩], if_pos ⟨ho, by omega⟩] at hn
        exact hn
    refine ⟨fun c => absurd c (by omega), fun _ => p_isEnd (by omega) (fun c => ⟨fun z => absurd z i10, fun _ => take (by omega)⟩) (fun c => ⟨fun _ => p_isHonour (by omega) (fun c2 => ⟨fun z => absurd z i10, fun _ => take (Or.inl c2)⟩) (fun c2 => ⟨fun _ => skip (by omega), fun z => absurd rfl z⟩), fun z => absurd rfl z⟩)⟩
theorem p_heldByOrphans {hd : Nat → Int32} {post : Int32 → Prop} (hh : rowN 34 hd h) (h4 : ∀ k, k < 34 → h k ≤ 4) (hq : post (iI (orH h))) : w_X1_heldByOrphans hd post :=
  ⟨35, by rw [n0]; exact p_hbo_b6 hh h4 hq 34 0 (by omega)⟩
/-- the class's missing() -/
theorem p_missing {l : Nat → Nat} {M : Nat} {hd la nw nx : Nat → Int32} {glm rom hel : Int32} {post : Int32 → Int32 → Int32 → Int32 → (Nat → Int32) → (Nat → Int32) → Prop} (hh : rowN 34 hd h) (hl : rowN 34 la l) (h4 : ∀ k, k < 34 → h k ≤ 4) (l4 : ∀ k, k < 34 → l k ≤ 4) (hl16 : sumN 34 l ≤ 16) (hM : M ≤ 4)
    (hq : ∀ v glm rom hel nw nx, isMt h l M v → post (iI (v : Nat)) glm rom hel nw nx) : w_X1_missing (iI M) hd la glm rom hel nw nx post := by
  unfold w_X1_missing
  rw [n4, iI_sub' (show M ≤ 4 from hM)]
  refine p_mostHeld hh hl h4 l4 (by omega) (fun v glm rom hel nw nx hv hv2 t9 e9 => ?_)
  obtain ⟨hle, hmin⟩ := isMax_isMin (by omega) hl16 hv
  rw [n14, n3, iI_mul' 3 M, iI_sub' (show 3 * M ≤ 14 by omega), iI_sub' (show v ≤ 14 - 3 * M by omega)] at e9
  subst e9
  rw [iI_eq0 ⟨by omega, by omega⟩]
  have hmin2 : isMin h l (4 - M) (14 - 3 * M - v) := by rw [show 14 - 3 * M - v = 3 * (4 - M) + 2 - v by omega]; exact hmin
  have a := prH_le h
  have b := orH_le h
  refine ⟨fun c => p_heldByPairs hh h4 (fun t12 e12 => p_heldByOrphans hh h4 (fun t14 e14 => ?_)), fun c => hq _ _ _ _ _ _ ⟨_, hmin2, by rw [if_neg (by omega)]⟩⟩
  have hM0 : M = 0 := by omega
  rw [n14, iI_sub' a, iI_min (a := ((14 - 3 * M - v : Nat) : Int)) (b := ((14 - prH h : Nat) : Int)) ⟨by omega, by omega⟩ ⟨by omega, by omega⟩] at e12
  rw [e12, n14, iI_sub' b, iI_min (b := ((14 - orH h : Nat) : Int)) ⟨by omega, by omega⟩ ⟨by omega, by omega⟩] at e14
  have e14' : t14 = iI ((min (min (14 - 3 * M - v) (14 - prH h)) (14 - orH h) : Nat) : Int) := by rw [e14]; congr 1; omega
  rw [e14']
  exact hq _ _ _ _ _ _ ⟨_, hmin2, by rw [if_pos hM0]⟩
end MISS
