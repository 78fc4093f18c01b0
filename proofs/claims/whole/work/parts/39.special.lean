/-! seven pairs and orphans -/
def e2 (h : Nat → Nat) : Nat → Nat := fun k => if h k = 2 then 1 else 0
theorem sumN_3 {n : Nat} {a b c : Nat → Nat} (h : ∀ k, k < n → 3 * a k ≤ b k + c k) : 3 * sumN n a ≤ sumN n b + sumN n c := by
  induction n with
  | zero => exact Nat.le_refl _
  | succ n ih => rw [sumN_succ, sumN_succ, sumN_succ]; have := ih (fun k hk => h k (by omega)); have := h n (by omega); omega
theorem sumN_2 {n : Nat} {a b : Nat → Nat} (h : ∀ k, k < n → 2 * a k ≤ b k) : 2 * sumN n a ≤ sumN n b := by
  induction n with
  | zero => exact Nat.le_refl _
  | succ n ih => rw [sumN_succ, sumN_succ]; have := ih (fun k hk => h k (by omega)); have := h n (by omega); omega
theorem pr_e2 {h : Nat → Nat} (hs : sumN 34 h = 14) : prH h = 14 ↔ sumN 34 (e2 h) = 7 := by
  have a := sumN_3 (n := 34) (a := i2 h) (b := h) (c := e2 h) (fun k _ => by unfold i2 e2; split <;> split <;> omega)
  have b := sumN_2 (n := 34) (a := e2 h) (b := h) (fun k _ => by unfold e2; split <;> omega)
  have c := sumN_le (n := 34) (f := e2 h) (g := i2 h) (fun k _ => by unfold i2 e2; split <;> split <;> omega)
  unfold prH
  omega
def inn (h : Nat → Nat) : Nat → Nat := fun k => if outer k then 0 else h k
def hu (h : Nat → Nat) : Nat → Nat := fun k => if 0 < h k then 1 else 0
theorem or_low {h : Nat → Nat} : ∀ n, sumN n (io h) + otw h n + sumN n (inn h) ≤ sumN n h := by
  intro n
  induction n with
  | zero => exact Nat.le_refl _
  | succ n ih =>
    rw [sumN_succ, sumN_succ, sumN_succ, otw]
    have o := otw_le h n
    by_cases e : outer n
    · by_cases c : 1 < h n
      · rw [if_pos ⟨e, c⟩, show io h n = 1 by unfold io; rw [if_pos ⟨e, by omega⟩], show inn h n = 0 by unfold inn; rw [if_pos e]]; omega
      · rw [if_neg (fun z => c z.2), show inn h n = 0 by unfold inn; rw [if_pos e]]
        have : io h n ≤ h n := by unfold io; split <;> omega
        omega
    · rw [if_neg (fun z => e z.1), show io h n = 0 by unfold io; rw [if_neg (fun z => e z.1)], show inn h n = h n by unfold inn; rw [if_neg e]]; omega
theorem or_high {h : Nat → Nat} : ∀ n, otw h n = 0 → sumN n (io h) + sumN n (inn h) = sumN n h := by
  intro n
  induction n with
  | zero => intro _; rfl
  | succ n ih =>
    intro q
    rw [otw] at q
    by_cases e : outer n ∧ 1 < h n
    · rw [if_pos e] at q; omega
    · rw [if_neg e] at q
      rw [sumN_succ, sumN_succ, sumN_succ, ← ih q]
      by_cases o : outer n
      · have : ¬ 1 < h n := fun z => e ⟨o, z⟩
        have e1 : io h n = h n := by unfold io; by_cases z : 0 < h n
                                     · rw [if_pos ⟨o, z⟩]; omega
                                     · rw [if_neg (fun y => z y.2)]; omega
        rw [e1, show inn h n = 0 by unfold inn; rw [if_pos o]]; omega
      · rw [show io h n = 0 by unfold io; rw [if_neg (fun z => o z.1)], show inn h n = h n by unfold inn; rw [if_neg o]]; omega
theorem or_iff {h : Nat → Nat} (hs : sumN 34 h = 14) : orH h = 14 ↔ (∀ k, k < 34 → 0 < h k → outer k) ∧ sumN 34 (hu h) = 13 := by
  have a := or_low (h := h) 34
  have b := or_high (h := h) 34
  have o := otw_le h 34
  have i := io13 h
  unfold orH
  constructor
  · intro q
    have z : sumN 34 (inn h) = 0 := by omega
    have out : ∀ k, k < 34 → 0 < h k → outer k := fun k hk hp => by
      by_cases e : outer k
      · exact e
      · have := sumN_get (f := inn h) hk
        rw [show inn h k = h k by unfold inn; rw [if_neg e]] at this
        omega
    refine ⟨out, ?_⟩
    have : sumN 34 (hu h) = sumN 34 (io h) := sumN_congr (fun k hk => by
      unfold hu io
      by_cases p : 0 < h k
      · rw [if_pos p, if_pos ⟨out k hk p, p⟩]
      · rw [if_neg p, if_neg (fun z => p z.2)])
    omega
  · intro ⟨out, q⟩
    have : sumN 34 (hu h) = sumN 34 (io h) := sumN_congr (fun k hk => by
      unfold hu io
      by_cases p : 0 < h k
      · rw [if_pos p, if_pos ⟨out k hk p, p⟩]
      · rw [if_neg p, if_neg (fun z => p z.2)])
    have z : sumN 34 (inn h) = 0 := sumN_zero (fun k hk => by
      unfold inn
      by_cases e : outer k
      · rw [if_pos e]
      · rw [if_neg e]
        by_cases p : 0 < h k
        · exact absurd (out k hk p) e
        · omega)
    by_cases oo : otw h 34 = 0
    · have := b oo; omega
    · omega
section SPEC
variable {M : Nat} {h : Nat → Nat}
theorem p_tiles {hM : Nat → Int32} (hh : rowN 34 hM h) {post : Int32 → Prop} (hq : post (iI (sumN 34 h : Nat))) : w_X2_tiles hM post := by
  have key : ∀ d k, k + d = 34 → w_X2_tiles_b13 post hM (d + 1) (iI (sumN k h : Nat)) (iI (34 : Nat)) (iI k) := by
    intro d
    induction d with
    | zero =>
      intro k hk
      have e : k = 34 := by omega
      subst e
      rw [w_X2_tiles_b13, iI_le' (a := 34) (b := 34) (by omega) (by omega)]
      exact ⟨fun _ => hq, fun c => absurd (by omega) c⟩
    | succ d ih =>
      intro k hk
      have hn := ih (k + 1) (by omega)
      rw [sumN_succ] at hn
      rw [w_X2_tiles_b13, iI_le' (a := 34) (b := k) (by omega) (by omega), iI_ix k (by omega), hh k (by omega), iI_inc, iI_add']
      exact ⟨fun c => absurd c (by omega), fun _ => ⟨iI_in' (by omega) (by omega), fun t e => by rw [e]; exact hn⟩⟩
  exact ⟨35, by rw [n0, n34]; exact key 34 0 (by omega)⟩
theorem p_sizeOf {hM : Nat → Int32} (hh : rowN 34 hM h) {post : Int32 → Prop} (hq : post (iI (sumN 34 h + 3 * M : Nat))) : w_X2_sizeOf (iI M) hM post := by
  unfold w_X2_sizeOf
  refine p_tiles hh ?_
  rw [n3, iI_mul', iI_add']
  exact hq
theorem p_seven (hM4 : M ≤ 4) (hs : sumN 34 h + 3 * M = 14) (h4 : ∀ k, k < 34 → h k ≤ 4) {hM : Nat → Int32} (hh : rowN 34 hM h) {post : Int32 → Prop} (h1 : M = 0 ∧ prH h = 14 → post 1) (h0 : ¬ (M = 0 ∧ prH h = 14) → post 0) : w_X2_areSevenPairs (iI M) hM post := by
  have key : ∀ d k, k + d = 34 → w_X2_areSevenPairs_b13 post (iI M) hM (d + 1) (iI (sumN k (e2 h) : Nat)) (iI (34 : Nat)) (iI k) := by
    intro d
    induction d with
    | zero =>
      intro k hk
      have e : k = 34 := by omega
      subst e
      have b := sumN_2 (n := 34) (a := e2 h) (b := h) (fun k _ => by unfold e2; split <;> omega)
      rw [w_X2_areSevenPairs_b13, iI_le' (a := 34) (b := 34) (by omega) (by omega)]
      refine ⟨fun _ => ?_, fun c => absurd (by omega) c⟩
      unfold w_X2_areSevenPairs_b45
      rw [iI_eq0 ⟨by omega, by omega⟩, n7, iI_eq' (a := sumN 34 (e2 h)) (b := 7) (by omega) (by omega)]
      refine ⟨fun c => ⟨fun c2 => p_tiles hh ?_, fun c2 => h0 (fun z => c2 ((pr_e2 (by omega)).1 z.2))⟩, fun c => h0 (fun z => by omega)⟩
      rw [n14, iI_eq' (a := sumN 34 h) (b := 14) (by omega) (by omega)]
      exact ⟨fun c3 => h1 ⟨by omega, (pr_e2 c3).2 c2⟩, fun c3 => absurd (by omega) c3⟩
    | succ d ih =>
      intro k hk
      have a := h4 k (by omega)
      have hn := ih (k + 1) (by omega)
      rw [sumN_succ] at hn
      rw [w_X2_areSevenPairs_b13, iI_le' (a := 34) (b := k) (by omega) (by omega), iI_ix k (by omega), hh k (by omega), n2, iI_eq' (a := h k) (b := 2) (by omega) (by omega)]
      unfold w_X2_areSevenPairs_b37
      rw [iI_inc, iI_inc]
      refine ⟨fun c => absurd c (by omega), fun _ => ⟨iI_in' (by omega) (by omega), fun c => ?_, fun c => ?_⟩⟩
      · rw [show e2 h k = 1 by unfold e2; rw [if_pos c]] at hn
        exact hn
      · rw [show e2 h k = 0 by unfold e2; rw [if_neg c]] at hn
        rw [n0, iI_add']; exact hn
  exact ⟨35, by rw [n0, n34]; exact key 34 0 (by omega)⟩
theorem p_orph (hM4 : M ≤ 4) (hs : sumN 34 h + 3 * M = 14) (h4 : ∀ k, k < 34 → h k ≤ 4) {hM : Nat → Int32} (hh : rowN 34 hM h) {post : Int32 → Prop} (h1 : M = 0 ∧ orH h = 14 → post 1) (h0 : ¬ (M = 0 ∧ orH h = 14) → post 0) : w_X2_areOrphans (iI M) hM post := by
  have key : ∀ d k, k + d = 34 → (∀ j, j < k → 0 < h j → outer j) → w_X2_areOrphans_b4 post (iI M) hM (d + 1) (iI (sumN k (hu h) : Nat)) (iI k) := by
    intro d
    induction d with
    | zero =>
      intro k hk hout
      have e : k = 34 := by omega
      subst e
      have b := sumN_le (n := 34) (f := hu h) (g := h) (fun k _ => by unfold hu; split <;> omega)
      rw [w_X2_areOrphans_b4, n34, iI_le' (a := 34) (b := 34) (by omega) (by omega)]
      refine ⟨fun _ => ?_, fun c => absurd (by omega) c⟩
      unfold w_X2_areOrphans_b51
      rw [iI_eq0 ⟨by omega, by omega⟩, n13, iI_eq' (a := sumN 34 (hu h)) (b := 13) (by omega) (by omega)]
      refine ⟨fun c => ⟨fun c2 => p_tiles hh ?_, fun c2 => h0 (fun z => c2 ((or_iff (by omega)).1 z.2).2)⟩, fun c => h0 (fun z => by omega)⟩
      rw [n14, iI_eq' (a := sumN 34 h) (b := 14) (by omega) (by omega)]
      exact ⟨fun c3 => h1 ⟨by omega, (or_iff c3).2 ⟨hout, c2⟩⟩, fun c3 => absurd (by omega) c3⟩
    | succ d ih =>
      intro k hk hout
      have a := h4 k (by omega)
      have hn := ih (k + 1) (by omega)
      rw [sumN_succ] at hn
      have nx : (0 < h k → outer k) → ∀ j, j < k + 1 → 0 < h j → outer j := fun q j hj => by
        by_cases e : j = k
        · subst e; exact q
        · exact hout j (by omega)
      rw [w_X2_areOrphans_b4, n34, iI_le' (a := 34) (b := k) (by omega) (by omega), iI_ix k (by omega), hh k (by omega), iI_le0 ⟨by omega, by omega⟩]
      have go : (0 < h k → outer k) → w_X2_areOrphans_b28 post (iI M) hM (w_X2_areOrphans_b4 post (iI M) hM (d + 1)) (iI (sumN k (hu h) : Nat)) (iI k) := fun q => by
        unfold w_X2_areOrphans_b28 w_X2_areOrphans_b43
        rw [iI_ix k (by omega), hh k (by omega), iI_le0 ⟨by omega, by omega⟩, iI_inc, iI_inc]
        refine ⟨iI_in' (by omega) (by omega), fun c => ?_, fun c => ?_⟩
        · have := hn (nx q)
          rw [show hu h k = 0 by unfold hu; rw [if_neg (by omega)]] at this
          rw [n0, iI_add']; exact this
        · have := hn (nx q)
          rw [show hu h k = 1 by unfold hu; rw [if_pos (by omega)]] at this
          exact this
      refine ⟨fun c => absurd c (by omega), fun _ => ⟨iI_in' (by omega) (by omega), fun c => go (fun z => by omega), fun c => p_mOuter (by omega) (fun ho => ⟨fun z => absurd z i10, fun _ => go (fun _ => ho)⟩) (fun ho => ⟨fun _ => ?_, fun z => absurd rfl z⟩)⟩⟩
      refine h0 (fun z => ho (((or_iff (by omega)).1 z.2).1 k (by omega) (by omega)))
  exact ⟨35, by rw [n0]; exact key 34 0 (by omega) (fun j hj => by omega)⟩
end SPEC
