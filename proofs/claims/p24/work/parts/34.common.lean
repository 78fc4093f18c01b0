def bc (x : Int32) : Int32 :=
  let t1 := x - (((x.toUInt32 >>> ((1 : Int32).toUInt32 &&& Int32.toUInt32 31)).toInt32) &&& (1431655765 : Int32))
  let t2 := (t1 &&& (858993459 : Int32)) + (((t1.toUInt32 >>> ((2 : Int32).toUInt32 &&& Int32.toUInt32 31)).toInt32) &&& (858993459 : Int32))
  let t3 := (t2 + ((t2.toUInt32 >>> ((4 : Int32).toUInt32 &&& Int32.toUInt32 31)).toInt32)) &&& (252645135 : Int32)
  let t4 := t3 + ((t3.toUInt32 >>> ((8 : Int32).toUInt32 &&& Int32.toUInt32 31)).toInt32)
  let t5 := t4 + ((t4.toUInt32 >>> ((16 : Int32).toUInt32 &&& Int32.toUInt32 31)).toInt32)
  t5 &&& (63 : Int32)
theorem p_bc {x : Int32} {post : Int32 → Prop} (h : post (bc x)) : w_J6_bitCount_0f7a4 x post := by
  intro t1 e1 t2 e2 t3 e3 t4 e4 t5 e5
  subst e1; subst e2; subst e3; subst e4; subst e5
  exact h
def hz (h l : Nat → Nat) : Nat → Nat
  | 0 => 0
  | n + 1 => if 27 ≤ n ∧ 0 < h n + l n then 1 else hz h l n
def ez (h l : Nat → Nat) : Nat → Nat
  | 0 => 0
  | n + 1 => if (n < 27 ∧ (n % 9 = 0 ∨ n % 9 = 8)) ∧ 0 < h n + l n then 1 else ez h l n
def mz (h l : Nat → Nat) : Nat → Int32
  | 0 => 0
  | n + 1 => if n < 27 ∧ 0 < h n + l n then mz h l n ||| ((1 : Int32) <<< ((iI (n : Int) / (9 : Int32)) &&& 31)) else mz h l n
theorem hz_le (h l : Nat → Nat) : ∀ n, hz h l n ≤ 1 := by
  intro n
  induction n with
  | zero => exact Nat.zero_le _
  | succ n ih => simp only [hz]; split <;> omega
theorem ez_le (h l : Nat → Nat) : ∀ n, ez h l n ≤ 1 := by
  intro n
  induction n with
  | zero => exact Nat.zero_le _
  | succ n ih => simp only [ez]; split <;> omega
def opn (ω : Nat → Nat) : Nat → Nat
  | 0 => 0
  | n + 1 => if ω n = 0 then opn ω n else 1
def tfn (h l : Nat → Nat) : Nat := (if hz h l 34 = 0 ∧ ez h l 34 = 0 then 1 else 0) + (if mz h l 34 = 0 then 6 else if bc (mz h l 34) = 1 then (if hz h l 34 = 0 then 6 else 3) else 0)
theorem tfn_le (h l : Nat → Nat) : tfn h l ≤ 7 := by unfold tfn; split <;> split <;> (try split) <;> (try split) <;> omega
section COMMON
variable {h l : Nat → Nat}
theorem p_tf_b9 {hd la : Nat → Int32} {post : Int32 → Prop} (hh : rowN 34 hd h) (hl : rowN 34 la l) (h4 : ∀ k, k < 34 → h k ≤ 4) (l4 : ∀ k, k < 34 → l k ≤ 4) (hq : post (iI (tfn h l : Nat))) : ∀ (d k : Nat), k + d = 34 → w_X1_tileFans_b9 post hd la (d + 1) (iI (hz h l k : Nat)) (iI (ez h l k : Nat)) (mz h l k) (iI k) := by
  intro d
  induction d with
  | zero =>
    intro k hk
    have e : k = 34 := by omega
    subst e
    have a1 := hz_le h l 34
    have a2 := ez_le h l 34
    rw [w_X1_tileFans_b9, n34, iI_le' (a := 34) (b := 34) (by omega) (by omega)]
    refine ⟨fun _ => ?_, fun c => absurd (by omega) c⟩
    have key : ∀ A : Nat, A ≤ 1 → A = (if hz h l 34 = 0 ∧ ez h l 34 = 0 then 1 else 0) → w_X1_tileFans_b94 post hd la (iI (hz h l 34 : Nat)) (mz h l 34) (iI A) := by
      intro A hA eA
      unfold tfn at hq
      rw [← eA] at hq
      unfold w_X1_tileFans_b94
      rw [n3, n6, iI_add', iI_add', iI_eq0 (z := (hz h l 34 : Nat)) ⟨by omega, by omega⟩]
      refine ⟨fun c => ?_, fun c => p_bc ⟨fun c2 => ⟨fun c3 => ?_, fun c3 => ?_⟩, fun c2 => ?_⟩⟩
      · rw [if_pos c] at hq; exact hq
      · rw [if_neg c, if_pos c2, if_pos (by omega)] at hq; exact hq
      · rw [if_neg c, if_pos c2, if_neg (by omega)] at hq; exact hq
      · rw [if_neg c, if_neg c2] at hq; exact hq
    unfold w_X1_tileFans_b81 w_X1_tileFans_b89
    rw [iI_eq0 (z := (hz h l 34 : Nat)) ⟨by omega, by omega⟩, iI_eq0 (z := (ez h l 34 : Nat)) ⟨by omega, by omega⟩]
    refine ⟨fun c => ⟨fun c2 => ?_, fun c2 => ?_⟩, fun c => ?_⟩
    · rw [n1]; exact key 1 (by omega) (by rw [if_pos (by omega)])
    · rw [n0]; exact key 0 (by omega) (by rw [if_neg (by omega)])
    · rw [n0]; exact key 0 (by omega) (by rw [if_neg (by omega)])
  | succ d ih =>
    intro k hk
    have b1 := h4 k (by omega)
    have b2 := l4 k (by omega)
    have a2 := ez_le h l k
    have hn := ih (k + 1) (by omega)
    rw [w_X1_tileFans_b9, n34, iI_le' (a := 34) (b := k) (by omega) (by omega), iI_ix k (by omega), hh k (by omega), hl k (by omega), iI_add', iI_le0 ⟨by omega, by omega⟩]
    unfold w_X1_tileFans_b69 w_X1_tileFans_b74 w_X1_tileFans_b75
    rw [iI_inc]
    refine ⟨fun c => absurd c (by omega), fun _ => ⟨iI_in' (by omega) (by omega), iI_in' (by omega) (by omega), fun c => ?_, fun c => p_isHonour (by omega) (fun c2 => ⟨fun z => absurd z i10, fun _ => ?_⟩) (fun c2 => ⟨fun _ t13 e13 => ?_, fun z => absurd rfl z⟩)⟩⟩
    · simp only [hz, ez, mz] at hn
      rw [if_neg (by omega), if_neg (by omega), if_neg (by omega)] at hn
      exact hn
    · simp only [hz, ez, mz] at hn
      rw [if_pos (by omega), if_neg (by omega), if_neg (by omega)] at hn
      rw [n1]; exact hn
    · simp only [hz, ez, mz] at hn
      rw [if_neg (by omega), if_pos (c := k < 27 ∧ 0 < h k + l k) (by omega), ← e13] at hn
      rw [iI_eq0 (z := (ez h l k : Nat)) ⟨by omega, by omega⟩]
      refine ⟨fun c3 => p_isEnd (by omega) (fun c4 => ⟨fun z => absurd z i10, fun _ => ?_⟩) (fun c4 => ⟨fun _ => ?_, fun z => absurd rfl z⟩), fun c3 => ?_⟩
      · rw [if_pos ⟨c4, by omega⟩] at hn
        rw [n1]; exact hn
      · rw [if_neg (fun z => c4 z.1), show ez h l k = 0 by omega] at hn
        rw [n0]; exact hn
      · rw [show (if (k < 27 ∧ (k % 9 = 0 ∨ k % 9 = 8)) ∧ 0 < h k + l k then 1 else ez h l k) = 1 by split <;> omega] at hn
        rw [n1]; exact hn
theorem p_tileFans {hd la : Nat → Int32} {post : Int32 → Prop} (hh : rowN 34 hd h) (hl : rowN 34 la l) (h4 : ∀ k, k < 34 → h k ≤ 4) (l4 : ∀ k, k < 34 → l k ≤ 4) (hq : post (iI (tfn h l : Nat))) : w_X1_tileFans hd la post :=
  ⟨35, by rw [n0]; exact p_tf_b9 hh hl h4 l4 hq 34 0 (by omega)⟩
theorem p_hom_b2 {M : Nat} {ω : Nat → Nat} {op : Nat → Int32} {post : Int32 → Prop} (hM : M ≤ 4) (ho : rowN M op ω) (hω : ∀ i, i < M → ω i ≤ 1) (h1 : opn ω M = 1 → post 1) (h0 : opn ω M = 0 → post 0) : ∀ (d k : Nat), k + d = M → opn ω k = 0 → w_X1_hasOpenMeld_b2 post (iI M) op (d + 1) (iI k) := by
  intro d
  induction d with
  | zero =>
    intro k hk ok
    have e : k = M := by omega
    subst e
    rw [w_X1_hasOpenMeld_b2, iI_le' (a := k) (b := k) (by omega) (by omega)]
    exact ⟨fun _ => h0 ok, fun c => absurd (by omega) c⟩
  | succ d ih =>
    intro k hk ok
    have a := hω k (by omega)
    rw [w_X1_hasOpenMeld_b2, iI_le' (a := M) (b := k) (by omega) (by omega), n4, iI_le' (a := 4) (b := k) (by omega) (by omega), iI_ix k (by omega), ho k (by omega), iI_eq0 ⟨by omega, by omega⟩, iI_inc]
    refine ⟨fun c => absurd c (by omega), fun _ => ⟨fun c => absurd c (by omega), fun _ => ⟨iI_in' (by omega) (by omega), fun c => ih (k + 1) (by omega) (by simp only [opn]; rw [if_pos (by omega)]; exact ok), fun c => h1 ?_⟩⟩⟩
    have : ∀ n, k + 1 ≤ n → opn ω n = 1 := by
      intro n
      induction n with
      | zero => intro z; omega
      | succ n ih2 =>
        intro z
        simp only [opn]
        by_cases q : n = k
        · subst q; rw [if_neg (by omega)]
        · split
          · exact ih2 (by omega)
          · rfl
    exact this M (by omega)
theorem p_hasOpen {M : Nat} {ω : Nat → Nat} {op : Nat → Int32} {post : Int32 → Prop} (hM : M ≤ 4) (ho : rowN M op ω) (hω : ∀ i, i < M → ω i ≤ 1) (h1 : opn ω M = 1 → post 1) (h0 : opn ω M = 0 → post 0) : w_X1_hasOpenMeld (iI M) op post :=
  ⟨M + 1, by rw [n0]; exact p_hom_b2 hM ho hω h1 h0 M 0 (by omega) rfl⟩
/-- the fans that do not depend on the arrangement -/
def cmn (h l ω : Nat → Nat) (M : Nat) (p0 : Int32) : Nat := tfn h l + (if p0 = 0 then 0 else 1) + (if opn ω M = 0 then 1 else 0)
theorem cmn_le (h l ω : Nat → Nat) (M : Nat) (p0 : Int32) : cmn h l ω M p0 ≤ 9 := by unfold cmn; have := tfn_le h l; split <;> split <;> omega
end COMMON
