section MMISS
variable {h : Nat → Nat}
theorem p_mp_b16 {hM : Nat → Int32} {post : Int32 → Prop} (hh : rowN 34 hM h) (h4 : ∀ k, k < 34 → h k ≤ 4) (hq : post (iI ((14 - prH h : Nat) : Int))) : ∀ (d k : Nat), k + d = 34 → w_X2_missingPairs_b16 post hM (d + 1) (iI (sumN k (i2 h))) (iI (sumN k (i1 h))) (iI (34 : Nat)) (iI k) := by
  intro d
  induction d with
  | zero =>
    intro k hk
    have e : k = 34 := by omega
    subst e
    rw [w_X2_missingPairs_b16, iI_le' (a := 34) (b := 34) (by omega) (by omega)]
    refine ⟨fun _ => ?_, fun c => absurd (by omega) c⟩
    have a := sumN_one (n := 34) (fun k _ => i2_le h k)
    have b := sumN_one (n := 34) (fun k _ => i1_le h k)
    intro t2 e2 t3 e3
    rw [n7, iI_min (a := ((7 : Nat) : Int)) (b := (sumN 34 (i2 h) : Int)) ⟨by omega, by omega⟩ ⟨by omega, by omega⟩] at e2
    have e2' : t2 = iI ((min (sumN 34 (i2 h)) 7 : Nat) : Int) := by rw [e2]; congr 1; omega
    rw [e2', n7, iI_sub' (show min (sumN 34 (i2 h)) 7 ≤ 7 by omega), iI_min (a := ((7 - min (sumN 34 (i2 h)) 7 : Nat) : Int)) (b := (sumN 34 (i1 h) : Int)) ⟨by omega, by omega⟩ ⟨by omega, by omega⟩] at e3
    rw [e3, e2', n2, n7, iI_sub' (show min (sumN 34 (i2 h)) 7 ≤ 7 by omega), iI_mul' 2 _, iI_sub]
    have e9 : ((2 * (7 - min (sumN 34 (i2 h)) 7) : Nat) : Int) - min ((7 - min (sumN 34 (i2 h)) 7 : Nat) : Int) (sumN 34 (i1 h) : Int) = ((14 - prH h : Nat) : Int) := by unfold prH; omega
    rw [e9]
    exact hq
  | succ d ih =>
    intro k hk
    have hk4 := h4 k (by omega)
    have hn := ih (k + 1) (by omega)
    rw [w_X2_missingPairs_b16, iI_le' (a := 34) (b := k) (by omega) (by omega), iI_ix k (by omega), hh k (by omega), n1, iI_le' (a := h k) (b := 1) (by omega) (by omega)]
    refine ⟨fun c => absurd c (by omega), fun _ => ⟨iI_in' (by omega) (by omega), fun c => ?_, fun c => ?_⟩⟩
    · unfold w_X2_missingPairs_b41 w_X2_missingPairs_b55
      rw [n0, n1, iI_eq' (a := h k) (b := 1) (by omega) (by omega), iI_add', iI_add', iI_add', iI_add']
      refine ⟨fun c2 => ?_, fun c2 => ?_⟩
      · rw [sumN, sumN, show i2 h k = 0 by unfold i2; rw [if_neg (by omega)], show i1 h k = 1 by unfold i1; rw [if_pos c2]] at hn
        exact hn
      · rw [sumN, sumN, show i2 h k = 0 by unfold i2; rw [if_neg (by omega)], show i1 h k = 0 by unfold i1; rw [if_neg c2]] at hn
        exact hn
    · unfold w_X2_missingPairs_b41 w_X2_missingPairs_b55
      rw [n0, n1, iI_eq' (a := h k) (b := 1) (by omega) (by omega), iI_add', iI_add', iI_add', iI_add']
      refine ⟨fun c2 => absurd c2 (by omega), fun c2 => ?_⟩
      rw [sumN, sumN, show i2 h k = 1 by unfold i2; rw [if_pos (by omega)], show i1 h k = 0 by unfold i1; rw [if_neg (by omega)]] at hn
      exact hn
theorem p_missingPairs {hM : Nat → Int32} {post : Int32 → Prop} (hh : rowN 34 hM h) (h4 : ∀ k, k < 34 → h k ≤ 4) (hq : post (iI ((14 - prH h : Nat) : Int))) : w_X2_missingPairs hM post :=
  ⟨35, by rw [n0, n34]; exact p_mp_b16 hh h4 hq 34 0 (by omega)⟩
theorem p_mo_b7 {hM : Nat → Int32} {post : Int32 → Prop} (hh : rowN 34 hM h) (h4 : ∀ k, k < 34 → h k ≤ 4) (hq : post (iI ((14 - orH h : Nat) : Int))) : ∀ (d k : Nat), k + d = 34 → w_X2_missingOrphans_b7 post hM (d + 1) (iI ((13 : Int) - (sumN k (io h) : Int))) (iI ((1 : Int) - (otw h k : Int))) (iI k) := by
  intro d
  induction d with
  | zero =>
    intro k hk
    have e : k = 34 := by omega
    subst e
    rw [w_X2_missingOrphans_b7, n34, iI_le' (a := 34) (b := 34) (by omega) (by omega), iI_add]
    have a := io13 h
    have b := otw_le h 34
    rw [show (13 : Int) - (sumN 34 (io h) : Int) + (1 - (otw h 34 : Int)) = ((14 - orH h : Nat) : Int) by unfold orH; omega]
    exact ⟨fun _ => hq, fun c => absurd (by omega) c⟩
  | succ d ih =>
    intro k hk
    have hk4 := h4 k (by omega)
    have hn := ih (k + 1) (by omega)
    have skip : ¬ outer k → w_X2_missingOrphans_b52 post hM (w_X2_missingOrphans_b7 post hM (d + 1)) (iI ((13 : Int) - (sumN k (io h) : Int))) (iI ((1 : Int) - (otw h k : Int))) (iI k) := fun ho => by
      unfold w_X2_missingOrphans_b52
      rw [iI_inc]
      rw [sumN, otw, show io h k = 0 by unfold io; rw [if_neg (fun z => ho z.1)], if_neg (fun z => ho z.1)] at hn
      exact hn
    rw [w_X2_missingOrphans_b7, n34, iI_le' (a := 34) (b := k) (by omega) (by omega), iI_ix k (by omega), hh k (by omega), iI_le0 ⟨by omega, by omega⟩]
    refine ⟨fun c => absurd c (by omega), fun _ => p_mOuter (by omega) (fun ho => ⟨fun z => absurd z i10, fun _ => ⟨iI_in' (by omega) (by omega), fun c => ?_, fun c => ?_⟩⟩) (fun ho => ⟨fun _ => skip ho, fun z => absurd rfl z⟩)⟩
    · unfold w_X2_missingOrphans_b38 w_X2_missingOrphans_b52
      rw [iI_ix k (by omega), hh k (by omega), n1, iI_le' (a := h k) (b := 1) (by omega) (by omega), ← n1, iI_inc, iI_l0, iI_sub]
      refine ⟨iI_in' (by omega) (by omega), fun c2 => ?_, fun c2 => absurd (by omega) c2⟩
      rw [sumN, otw, show io h k = 0 by unfold io; rw [if_neg (by omega)], if_neg (by omega)] at hn
      rw [Int.sub_zero]
      exact hn
    · unfold w_X2_missingOrphans_b38 w_X2_missingOrphans_b52
      rw [iI_ix k (by omega), hh k (by omega), iI_inc, iI_l1, iI_le (a := (h k : Int)) (b := 1) ⟨by omega, by omega⟩ ⟨by omega, by omega⟩, iI_sub]
      rw [sumN, show io h k = 1 by unfold io; rw [if_pos ⟨ho, by omega⟩], show (13 : Int) - ((sumN k (io h) + 1 : Nat) : Int) = 13 - (sumN k (io h) : Int) - 1 by omega] at hn
      refine ⟨iI_in' (by omega) (by omega), fun c2 => ?_, fun c2 => ?_⟩
      · rw [otw, if_neg (by omega)] at hn
        exact hn
      · rw [otw, if_pos ⟨ho, by omega⟩] at hn
        rw [iI_l0]
        exact hn
theorem p_missingOrphans {hM : Nat → Int32} {post : Int32 → Prop} (hh : rowN 34 hM h) (h4 : ∀ k, k < 34 → h k ≤ 4) (hq : post (iI ((14 - orH h : Nat) : Int))) : w_X2_missingOrphans hM post :=
  ⟨35, by rw [iI_l13, iI_l1, n0]; exact p_mo_b7 hh h4 hq 34 0 (by omega)⟩
/-- the reference's missing number -/
theorem p_missingTiles {l : Nat → Nat} {M : Nat} {hM lM bM xM : Nat → Int32} {post : Int32 → (Nat → Int32) → (Nat → Int32) → Prop} (hh : rowN 34 hM h) (hl : rowN 34 lM l) (h4 : ∀ k, k < 34 → h k ≤ 4) (l4 : ∀ k, k < 34 → l k ≤ 4) (hl16 : sumN 34 l ≤ 16) (hM4 : M ≤ 4)
    (hq : ∀ v bM' xM', isMt h l M v → post (iI (v : Nat)) bM' xM') : w_X2_missingTiles (iI M) hM lM bM xM post := by
  unfold w_X2_missingTiles
  refine p_missingGroups (G := 4 - M) hh hl h4 l4 hl16 (by omega) (fun v bM' xM' hv hv2 => ?_)
  rw [iI_le0 ⟨by omega, by omega⟩]
  have a := prH_le h
  have b := orH_le h
  refine ⟨fun c => p_missingPairs hh h4 (p_missingOrphans hh h4 ?_), fun c => hq _ _ _ ⟨v, hv, by rw [if_neg (by omega)]⟩⟩
  rw [iI_min (a := ((14 - prH h : Nat) : Int)) (b := ((14 - orH h : Nat) : Int)) ⟨by omega, by omega⟩ ⟨by omega, by omega⟩, iI_min (a := (v : Int)) ⟨by omega, by omega⟩ ⟨by omega, by omega⟩]
  rw [show min (v : Int) (min ((14 - prH h : Nat) : Int) ((14 - orH h : Nat) : Int)) = ((min (min v (14 - prH h)) (14 - orH h) : Nat) : Int) by omega]
  exact hq _ _ _ ⟨v, hv, by rw [if_pos (by omega)]⟩
end MMISS
