def hon (sw rw k : Nat) : Nat := (if 31 ≤ k then 1 else 0) + (if k = sw then 1 else 0) + (if k = rw then 1 else 0)
theorem hon_le (sw rw k : Nat) : hon sw rw k ≤ 3 := by unfold hon; split <;> split <;> split <;> omega
def bfi (so ki : Nat → Nat) (M i : Nat) : Nat → Nat := fun j => if M ≤ j ∧ so j = 0 ∧ ki j = ki i then 1 else 0
def bfr (so ki : Nat → Nat) (M i n : Nat) : Nat := sumN n (bfi so ki M i)
def twi (so ki : Nat → Nat) (M : Nat) : Nat → Nat := fun i => if M ≤ i ∧ so i = 0 ∧ bfr so ki M i i = 1 then 1 else 0
def rwi (so : Nat → Nat) : Nat → Nat := fun i => if so i = 0 then 1 else 0
def vli (sw rw : Nat) (so ki : Nat → Nat) : Nat → Nat := fun i => (if so i = 0 then 0 else hon sw rw (ki i)) + (if so i = 2 then 1 else 0)
def fset (sw rw M : Nat) (so ki : Nat → Nat) (pair : Nat) : Nat :=
  sumN 4 (twi so ki M) + sumN 4 (vli sw rw so ki) + (if sumN 4 (rwi so) = 0 then 2 else 0) + (if sumN 4 (rwi so) = 4 ∧ hon sw rw pair = 0 then 1 else 0)
theorem bfi_le (so ki : Nat → Nat) (M i j : Nat) : bfi so ki M i j ≤ 1 := by unfold bfi; split <;> omega
theorem twi_le (so ki : Nat → Nat) (M i : Nat) : twi so ki M i ≤ 1 := by unfold twi; split <;> omega
theorem rwi_le (so : Nat → Nat) (i : Nat) : rwi so i ≤ 1 := by unfold rwi; split <;> omega
theorem vli_le (sw rw : Nat) (so ki : Nat → Nat) (i : Nat) : vli sw rw so ki i ≤ 4 := by unfold vli; have := hon_le sw rw (ki i); split <;> split <;> omega
theorem sumN_bd {n c : Nat} {f : Nat → Nat} (h : ∀ k, k < n → f k ≤ c) : sumN n f ≤ n * c := by
  induction n with
  | zero => exact Nat.zero_le _
  | succ n ih => rw [sumN, Nat.succ_mul]; have := ih (fun k hk => h k (by omega)); have := h n (by omega); omega
theorem sumN_succ (n : Nat) (f : Nat → Nat) : sumN (n + 1) f = sumN n f + f n := rfl
theorem n31 : (31 : Int32) = iI ((31 : Nat) : Int) := by decide
section FSET
variable {sw rw M : Nat} {so ki : Nat → Int32} {s0 k0 : Nat → Nat}
theorem p_honour {k : Nat} (hk : k < 1000) (hw : sw < 1000) (hr : rw < 1000) {post : Int32 → Prop} (q : post (iI (hon sw rw k : Nat))) : w_X1_honourFans (iI sw) (iI rw) (iI k) post := by
  unfold w_X1_honourFans
  rw [n31, iI_lt' (a := k) (b := 31) (by omega) (by omega)]
  have key : ∀ d : Nat, d ≤ 1 → (d = if 31 ≤ k then 1 else 0) → w_X1_honourFans_b11 post (iI sw) (iI rw) (iI k) (iI d) := by
    intro d hd e
    unfold w_X1_honourFans_b11 w_X1_honourFans_b23
    rw [iI_eq' (a := k) (b := sw) (by omega) (by omega), iI_eq' (a := k) (b := rw) (by omega) (by omega), iI_inc, iI_inc]
    unfold hon at q
    rw [← e] at q
    refine ⟨fun c => ⟨fun c2 => ?_, fun c2 => ?_⟩, fun c => ⟨fun c2 => ?_, fun c2 => ?_⟩⟩
    · rw [if_pos c, if_pos c2] at q; exact q
    · rw [if_pos c, if_neg c2] at q; exact q
    · rw [if_neg c, if_pos c2] at q; exact q
    · rw [if_neg c, if_neg c2] at q; exact q
  refine ⟨fun c => ?_, fun c => ?_⟩
  · rw [n0]; exact key 0 (by omega) (by rw [if_neg (by omega)])
  · rw [n1]; exact key 1 (by omega) (by rw [if_pos (by omega)])
theorem p_tw_b20 (hso : rowN 4 so s0) (hki : rowN 4 ki k0) (hs : ∀ i, i < 4 → s0 i ≤ 2) (hkk : ∀ i, i < 4 → k0 i < 100) {post : Int32 → Prop} {K7 : Int32 → Int32 → Prop} {i : Nat} (hi : i < 4) {v1 : Int32}
    (hq : w_X1_twinRows_b61 post (iI M) so ki K7 v1 (iI i) (iI (bfr s0 k0 M i i : Nat))) : ∀ (d j : Nat), j + d = i → M ≤ j → w_X1_twinRows_b20 post (iI M) so ki K7 (d + 1) v1 (iI i) (iI (bfr s0 k0 M i j : Nat)) (iI j) := by
  intro d
  induction d with
  | zero =>
    intro j hj hm
    have e : j = i := by omega
    subst e
    rw [w_X1_twinRows_b20, iI_le' (a := j) (b := j) (by omega) (by omega)]
    exact ⟨fun _ => hq, fun c => absurd (by omega) c⟩
  | succ d ih =>
    intro j hj hm
    have hn := ih (j + 1) (by omega) (by omega)
    have a1 := hs j (by omega)
    have a2 := hkk j (by omega)
    have a3 := hkk i hi
    rw [w_X1_twinRows_b20, iI_le' (a := i) (b := j) (by omega) (by omega), iI_ix j (by omega), iI_ix i (by omega), hso j (by omega), hki j (by omega), hki i hi, iI_eq0 ⟨by omega, by omega⟩, iI_eq' (a := k0 j) (b := k0 i) (by omega) (by omega)]
    unfold w_X1_twinRows_b55
    rw [iI_inc, iI_inc]
    refine ⟨fun c => absurd c (by omega), fun _ => ⟨iI_in' (by omega) (by omega), fun c => ⟨iI_in' (by omega) (by omega), iI_in' (by omega) (by omega), fun c2 => ?_, fun c2 => ?_⟩, fun c => ?_⟩⟩
    · rw [bfr, sumN, show bfi s0 k0 M i j = 1 by unfold bfi; rw [if_pos ⟨hm, by omega, c2⟩]] at hn
      exact hn
    · rw [bfr, sumN, show bfi s0 k0 M i j = 0 by unfold bfi; rw [if_neg (fun z => c2 z.2.2)]] at hn
      exact hn
    · rw [bfr, sumN, show bfi s0 k0 M i j = 0 by unfold bfi; rw [if_neg (by omega)]] at hn
      exact hn
theorem bfr_M (M i : Nat) : bfr s0 k0 M i M = 0 := sumN_zero (fun j hj => by unfold bfi; rw [if_neg (by omega)])
theorem twi_M (M : Nat) : sumN M (twi s0 k0 M) = 0 := sumN_zero (fun j hj => by unfold twi; rw [if_neg (by omega)])
theorem p_tw_b7 (hso : rowN 4 so s0) (hki : rowN 4 ki k0) (hs : ∀ i, i < 4 → s0 i ≤ 2) (hkk : ∀ i, i < 4 → k0 i < 100) {post : Int32 → Prop}
    (hq : post (iI (sumN 4 (twi s0 k0 M) : Nat))) : ∀ (d i : Nat), i + d = 4 → M ≤ i → w_X1_twinRows_b7 post (iI M) so ki (d + 1) (iI (sumN i (twi s0 k0 M) : Nat)) (iI i) := by
  intro d
  induction d with
  | zero =>
    intro i hi hm
    have e : i = 4 := by omega
    subst e
    rw [w_X1_twinRows_b7, n4, iI_le' (a := 4) (b := 4) (by omega) (by omega)]
    exact ⟨fun _ => hq, fun c => absurd (by omega) c⟩
  | succ d ih =>
    intro i hi hm
    have hn := ih (i + 1) (by omega) (by omega)
    have a1 := hs i (by omega)
    have a2 := sumN_bd (n := i) (c := 1) (fun j _ => bfi_le s0 k0 M i j)
    rw [w_X1_twinRows_b7, n4, iI_le' (a := 4) (b := i) (by omega) (by omega)]
    refine ⟨fun c => absurd c (by omega), fun _ => ⟨i - M + 1, ?_⟩⟩
    rw [show (0 : Int32) = iI (bfr s0 k0 M i M : Nat) by rw [bfr_M]; exact n0]
    refine p_tw_b20 hso hki hs hkk (by omega) ?_ (i - M) M (by omega) (Nat.le_refl _)
    unfold w_X1_twinRows_b61 w_X1_twinRows_b78
    rw [iI_ix i (by omega), hso i (by omega), iI_eq0 ⟨by omega, by omega⟩, n1, iI_eq' (a := bfr s0 k0 M i i) (b := 1) (by unfold bfr; omega) (by omega), ← n1, iI_inc, iI_inc]
    refine ⟨iI_in' (by omega) (by omega), fun c => ⟨fun c2 => ?_, fun c2 => ?_⟩, fun c => ?_⟩
    · rw [sumN, show twi s0 k0 M i = 1 by unfold twi; rw [if_pos ⟨hm, by omega, c2⟩]] at hn
      exact hn
    · rw [sumN, show twi s0 k0 M i = 0 by unfold twi; rw [if_neg (fun z => c2 z.2.2)]] at hn
      exact hn
    · rw [sumN, show twi s0 k0 M i = 0 by unfold twi; rw [if_neg (by omega)]] at hn
      exact hn
theorem p_twinRows (hso : rowN 4 so s0) (hki : rowN 4 ki k0) (hs : ∀ i, i < 4 → s0 i ≤ 2) (hkk : ∀ i, i < 4 → k0 i < 100) (hM : M ≤ 4) {post : Int32 → Prop}
    (hq : post (iI (sumN 4 (twi s0 k0 M) : Nat))) : w_X1_twinRows (iI M) so ki post :=
  ⟨4 - M + 1, by rw [show (0 : Int32) = iI (sumN M (twi s0 k0 M) : Nat) by rw [twi_M]; exact n0]; exact p_tw_b7 hso hki hs hkk hq (4 - M) M (by omega) (Nat.le_refl _)⟩
theorem p_fos_b10 (hso : rowN 4 so s0) (hki : rowN 4 ki k0) (hs : ∀ i, i < 4 → s0 i ≤ 2) (hkk : ∀ i, i < 4 → k0 i < 100) (hw : sw < 1000) (hr : rw < 1000) {pair : Nat} (hp : pair < 34) {post : Int32 → Prop} {mcn : Int32}
    (hq : post (iI (fset sw rw M s0 k0 pair : Nat))) : ∀ (d i : Nat), i + d = 4 → w_X1_fansOfSets_b10 post mcn (iI sw) (iI rw) so ki (iI pair) (d + 1) (iI ((sumN 4 (twi s0 k0 M) + sumN i (vli sw rw s0 k0) : Nat) : Int)) (iI (sumN i (rwi s0) : Nat)) (iI i) := by
  intro d
  induction d with
  | zero =>
    intro i hi
    have e : i = 4 := by omega
    subst e
    have b1 := sumN_bd (n := 4) (c := 1) (fun j _ => twi_le s0 k0 M j)
    have b2 := sumN_bd (n := 4) (c := 4) (fun j _ => vli_le sw rw s0 k0 j)
    have b3 := sumN_bd (n := 4) (c := 1) (fun j _ => rwi_le s0 j)
    rw [w_X1_fansOfSets_b10, n4, iI_le' (a := 4) (b := 4) (by omega) (by omega)]
    refine ⟨fun _ => ?_, fun c => absurd (by omega) c⟩
    unfold w_X1_fansOfSets_b66
    rw [iI_eq0 ⟨by omega, by omega⟩]
    have last : ∀ x : Nat, x + (if sumN 4 (rwi s0) = 4 ∧ hon sw rw pair = 0 then 1 else 0) = fset sw rw M s0 k0 pair → w_X1_fansOfSets_b73 post mcn (iI sw) (iI rw) so ki (iI pair) (iI x) (iI (sumN 4 (rwi s0) : Nat)) := by
      intro x e
      unfold w_X1_fansOfSets_b73
      rw [n4, iI_eq' (a := sumN 4 (rwi s0)) (b := 4) (by omega) (by omega), iI_inc]
      refine ⟨fun c => p_honour (by omega) hw hr ?_, fun c => ?_⟩
      · rw [iI_eq0 ⟨by omega, by have := hon_le sw rw pair; omega⟩]
        refine ⟨fun c2 => ?_, fun c2 => ?_⟩
        · rw [if_pos ⟨c, by omega⟩] at e; rw [e]; exact hq
        · rw [if_neg (by omega)] at e; rw [show x = fset sw rw M s0 k0 pair from e]; exact hq
      · rw [if_neg (fun z => c z.1)] at e; rw [show x = fset sw rw M s0 k0 pair from e]; exact hq
    refine ⟨fun c => ?_, fun c => ?_⟩
    · rw [n2, iI_add']
      exact last _ (by unfold fset; rw [if_pos (show sumN 4 (rwi s0) = 0 by omega)])
    · exact last _ (by unfold fset; rw [if_neg (show ¬ sumN 4 (rwi s0) = 0 by omega)]; omega)
  | succ d ih =>
    intro i hi
    have hn := ih (i + 1) (by omega)
    have a1 := hs i (by omega)
    have a2 := hkk i (by omega)
    rw [sumN_succ i (vli sw rw s0 k0), sumN_succ i (rwi s0)] at hn
    rw [w_X1_fansOfSets_b10, n4, iI_le' (a := 4) (b := i) (by omega) (by omega), iI_ix i (by omega), hso i (by omega), hki i (by omega), iI_eq0 ⟨by omega, by omega⟩]
    refine ⟨fun c => absurd c (by omega), fun _ => ⟨iI_in' (by omega) (by omega), fun c => ?_, fun c => ⟨iI_in' (by omega) (by omega), p_honour (by omega) hw hr ?_⟩⟩⟩
    · unfold w_X1_fansOfSets_b46 w_X1_fansOfSets_b60
      rw [iI_ix i (by omega), hso i (by omega), n2, iI_eq' (a := s0 i) (b := 2) (by omega) (by omega), iI_inc, iI_inc, iI_inc]
      refine ⟨iI_in' (by omega) (by omega), fun c2 => absurd c2 (by omega), fun c2 => ?_⟩
      rw [show vli sw rw s0 k0 i = 0 by unfold vli; rw [if_pos (by omega), if_neg (by omega)], show rwi s0 i = 1 by unfold rwi; rw [if_pos (by omega)]] at hn
      exact hn
    · unfold w_X1_fansOfSets_b46 w_X1_fansOfSets_b60
      rw [iI_ix i (by omega), hso i (by omega), n2, iI_eq' (a := s0 i) (b := 2) (by omega) (by omega), iI_add', iI_inc, iI_inc]
      refine ⟨iI_in' (by omega) (by omega), fun c2 => ?_, fun c2 => ?_⟩
      · rw [show vli sw rw s0 k0 i = hon sw rw (k0 i) + 1 by unfold vli; rw [if_neg (by omega), if_pos c2], show rwi s0 i = 0 by unfold rwi; rw [if_neg (by omega)]] at hn
        rw [Nat.add_assoc, Nat.add_assoc]
        exact hn
      · rw [show vli sw rw s0 k0 i = hon sw rw (k0 i) by unfold vli; rw [if_neg (by omega), if_neg c2]; rfl, show rwi s0 i = 0 by unfold rwi; rw [if_neg (by omega)]] at hn
        rw [Nat.add_assoc]
        exact hn
theorem p_fansOfSets (hso : rowN 4 so s0) (hki : rowN 4 ki k0) (hs : ∀ i, i < 4 → s0 i ≤ 2) (hkk : ∀ i, i < 4 → k0 i < 100) (hM : M ≤ 4) (hw : sw < 1000) (hr : rw < 1000) {pair : Nat} (hp : pair < 34) {post : Int32 → Prop}
    (hq : post (iI (fset sw rw M s0 k0 pair : Nat))) : w_X1_fansOfSets (iI M) (iI sw) (iI rw) so ki (iI pair) post := by
  unfold w_X1_fansOfSets
  refine p_twinRows hso hki hs hkk hM ⟨5, ?_⟩
  rw [n0]
  exact p_fos_b10 hso hki hs hkk hw hr hp hq 4 0 (by omega)
end FSET
