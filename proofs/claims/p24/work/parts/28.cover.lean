theorem p_fill_b5 {n : Nat} (hn : n < 2147483648) {v : Int32} {post : (Nat → Int32) → Prop} (hq : ∀ ff', (∀ j, j < n → ff' j = v) → post ff') : ∀ (d k : Nat) (ff : Nat → Int32), k + d = n → (∀ j, j < k → ff j = v) → w_J7_fill_53178_b5 post n v (d + 1) (iI (k : Int)) (iI (n : Int)) ff := by
  intro d
  induction d with
  | zero =>
    intro k ff hk hc
    rw [w_J7_fill_53178_b5, iI_le' (a := n) (b := k) (by omega) (by omega)]
    exact ⟨fun _ => hq ff (fun j hj => hc j (by omega)), fun c => absurd (by omega) c⟩
  | succ d ih =>
    intro k ff hk hc
    rw [w_J7_fill_53178_b5, iI_le' (a := n) (b := k) (by omega) (by omega), iI_ix k (by omega), iI_inc]
    refine ⟨fun c => absurd c (by omega), fun _ => ⟨iI_in' (by omega) (by omega), ih (k + 1) _ (by omega) (fun j hj => ?_)⟩⟩
    by_cases e : j = k
    · subst e; simp [upd]
    · simp only [upd, if_neg e]; exact hc j (by omega)
theorem p_fill {n : Nat} (hn : n < 2147483648) {ff : Nat → Int32} {v : Int32} {post : (Nat → Int32) → Prop} (hq : ∀ ff', (∀ j, j < n → ff' j = v) → post ff') : w_J7_fill_53178 n ff v post := by
  refine ⟨n + 1, ?_⟩
  rw [show Int32.ofNat n = iI (n : Int) from iI_nI n, n0]
  exact p_fill_b5 hn hq n 0 ff (by omega) (fun j hj => absurd hj (by omega))
/-- a table where 0 stands for -1 -/
def rowP (n : Nat) (f : Nat → Int32) (X : Nat → Nat) : Prop := ∀ i, i < n → f i = iI ((X i : Int) - 1)
theorem rowP_upd {n : Nat} {f : Nat → Int32} {X : Nat → Nat} (hf : rowP n f X) {k v : Nat} {x : Int32} (hx : x = iI ((v : Int) - 1)) : rowP n (upd f k x) (nup X k v) := by
  intro j hj
  by_cases e : j = k
  · subst e; simp [upd, nup, hx]
  · simp only [upd, nup, if_neg e]; exact hf j hj
theorem p_cbr {k : Nat} (hk : k < 34) {post : Int32 → Prop} (h1 : br k → post 1) (h0 : ¬ br k → post 0) : w_X1_beginsRow (iI k) post := by
  unfold w_X1_beginsRow
  rw [iI_lt0 ⟨by omega, by omega⟩, n27, n9, n6, iI_le' (a := 27) (b := k) (by omega) (by omega), iI_mod (a := k) (b := 9) (by omega) (by omega), iI_lt' (a := 6) (b := k % 9) (by omega) (by omega)]
  exact ⟨fun c => absurd c (by omega), fun _ => ⟨fun c => h0 (fun z => by omega), fun c => ⟨fun c2 => h0 (fun z => by omega), fun c2 => h1 ⟨by omega, by omega⟩⟩⟩⟩
abbrev crow (h : Nat → Nat) (k : Nat) : Prop := br k ∧ 0 < h k + h (k + 1) + h (k + 2)
theorem p_canRow {hd : Nat → Int32} {h : Nat → Nat} (hh : rowN 34 hd h) (h4 : ∀ k, k < 34 → h k ≤ 4) {k : Nat} (hk : k < 34) {post : Int32 → Prop} (h1 : crow h k → post 1) (h0 : ¬ crow h k → post 0) : w_X0_canRow hd (iI k) post := by
  refine p_cbr hk (fun hb => ⟨fun c => absurd c i10, fun _ => ?_⟩) (fun hb => ⟨fun _ => h0 (fun z => hb z.1), fun c => absurd rfl c⟩)
  have k25 : k < 27 := hb.1
  have e1 : iI (k : Int) + 1 = iI ((k + 1 : Nat) : Int) := iI_inc k
  have e2 : iI (k : Int) + 2 = iI ((k + 2 : Nat) : Int) := by rw [n2, iI_add']
  have a0 := h4 k hk
  have a1 := h4 (k + 1) (by omega)
  have a2 := h4 (k + 2) (by omega)
  rw [e1, e2, iI_ix k (by omega), iI_ix (k + 1) (by omega), iI_ix (k + 2) (by omega), hh k hk, hh (k + 1) (by omega), hh (k + 2) (by omega), iI_add', iI_add', iI_le0 ⟨by omega, by omega⟩]
  exact ⟨iI_in' hk (by omega), iI_in' (by omega) (by omega), iI_in' (by omega) (by omega), fun c => h0 (fun z => by have := z.2; omega), fun c => h1 ⟨hb, by omega⟩⟩
theorem max_expr {x w hk y : Nat} (h1 : x < 1000) (h0 : 0 < x) (h2 : w < 1000) (h3 : hk < 1000) (h4 : y < 100000) :
    (if iI ((y : Int) - 1) < iI ((x : Int) - 1) + (if iI (hk : Int) < iI (w : Int) then iI (hk : Int) else iI (w : Int)) then iI ((x : Int) - 1) + (if iI (hk : Int) < iI (w : Int) then iI (hk : Int) else iI (w : Int)) else iI ((y : Int) - 1)) = iI (((max y (x + min w hk) : Nat) : Int) - 1) := by
  have e1 : (if iI (hk : Int) < iI (w : Int) then iI (hk : Int) else iI (w : Int)) = iI ((min w hk : Nat) : Int) := by
    by_cases c : hk < w
    · rw [if_pos ((iI_lt' (by omega) (by omega)).mpr c), show min w hk = hk by omega]
    · rw [if_neg (fun z => c ((iI_lt' (by omega) (by omega)).mp z)), show min w hk = w by omega]
  rw [e1, iI_add]
  by_cases c : y < x + min w hk
  · rw [if_pos ((iI_lt ⟨by omega, by omega⟩ ⟨by omega, by omega⟩).mpr (by omega)), show max y (x + min w hk) = x + min w hk by omega]
    congr 1; omega
  · rw [if_neg (fun z => c (by have := (iI_lt ⟨by omega, by omega⟩ ⟨by omega, by omega⟩).mp z; omega)), show max y (x + min w hk) = y by omega]
section COVER
variable {h l : Nat → Nat} {k G : Nat}
def lay1 (h l : Nat → Nat) (G k : Nat) (X : Nat → Nat) (s r p t i v : Nat) : Prop :=
  s % 3 + s % 9 / 3 + r + 2 * p + 3 * t + l k ≤ 4 ∧ s % 18 / 9 + p ≤ 1 ∧ s / 18 + r + t ≤ G ∧ i = cix (s / 18 + r + t) (s % 18 / 9 + p) r (s % 9 / 3) ∧ v = X s + min (s % 3 + s % 9 / 3 + r + 2 * p + 3 * t) (h k)
theorem p_lay {nw nx : Nat → Int32} {X Y : Nat → Nat} {post : (Nat → Int32) → Prop} (h4 : h k ≤ 4) (l4 : l k ≤ 4) (hG : G ≤ 4) {s r p t : Nat} (hs : s < 90) (hr : r ≤ 2) (hp : p ≤ 1) (ht : t ≤ 1) (hx : rowP 90 nw X) {bd : Nat} (hbd : bd ≤ 500) (hX : ∀ i, X i ≤ bd) (hne : X s ≠ 0) (hy : rowP 90 nx Y) (hY : ∀ i, Y i ≤ bd + 4)
    (hq : ∀ Z nz, rowP 90 nz Z → (∀ i, Z i ≤ bd + 4) → tmax (lay1 h l G k X s r p t) Y Z → post nz) : w_X0_lay (iI G) (iI ((4 - l k : Nat) : Int)) (iI (h k)) nw nx (iI s) (iI r) (iI p) (iI t) post := by
  intro t1 e1 t2 e2 t3 e3 t4 e4 t5 e5
  rw [n3, iI_mod (a := s) (b := 3) (by omega) (by omega)] at e1
  rw [n9, n3, iI_mod (a := s) (b := 9) (by omega) (by omega), iI_div (a := s % 9) (b := 3) (by omega) (by omega)] at e2
  rw [n18, n9, iI_mod (a := s) (b := 18) (by omega) (by omega), iI_div (a := s % 18) (b := 9) (by omega) (by omega), iI_add' (s % 18 / 9) p] at e3
  rw [n18, iI_div (a := s) (b := 18) (by omega) (by omega), iI_add' (s / 18) r, iI_add' (s / 18 + r) t] at e4
  rw [e1, e2, n2, n3, iI_add' (s % 3) (s % 9 / 3), iI_add' (s % 3 + s % 9 / 3) r, iI_mul' 2 p, iI_add' (s % 3 + s % 9 / 3 + r) (2 * p), iI_mul' 3 t, iI_add' (s % 3 + s % 9 / 3 + r + 2 * p) (3 * t)] at e5
  subst e2 e3 e4 e5
  have no : ¬ (s % 3 + s % 9 / 3 + r + 2 * p + 3 * t + l k ≤ 4 ∧ s % 18 / 9 + p ≤ 1 ∧ s / 18 + r + t ≤ G) → post nx := fun z => hq Y nx hy hY (tmax_nil Y (fun i v q => z ⟨q.1, q.2.1, q.2.2.1⟩))
  rw [iI_lt' (a := 4 - l k) (b := s % 3 + s % 9 / 3 + r + 2 * p + 3 * t) (by omega) (by omega)]
  refine ⟨fun c => no (by omega), fun c => ?_⟩
  rw [n1, iI_lt' (a := 1) (b := s % 18 / 9 + p) (by omega) (by omega)]
  refine ⟨fun c2 => no (by omega), fun c2 => ?_⟩
  rw [iI_lt' (a := G) (b := s / 18 + r + t) (by omega) (by omega)]
  refine ⟨fun c3 => no (by omega), fun c3 t9 e9 => ?_⟩
  rw [n18, n9, n3, iI_mul' 18 (s / 18 + r + t), iI_mul' 9 (s % 18 / 9 + p), iI_mul' 3 r, iI_add' (18 * (s / 18 + r + t)) (9 * (s % 18 / 9 + p)), iI_add' (18 * (s / 18 + r + t) + 9 * (s % 18 / 9 + p)) (3 * r), iI_add' (18 * (s / 18 + r + t) + 9 * (s % 18 / 9 + p) + 3 * r) (s % 9 / 3)] at e9
  have e9' : t9 = iI ((cix (s / 18 + r + t) (s % 18 / 9 + p) r (s % 9 / 3) : Nat) : Int) := e9
  clear e9
  subst e9'
  have hlt : cix (s / 18 + r + t) (s % 18 / 9 + p) r (s % 9 / 3) < 90 := cix_lt (by omega) (by omega) (by omega) (by omega)
  refine ⟨iI_in' hlt (by omega), iI_in' hs (by omega), iI_in' hlt (by omega), ?_⟩
  generalize hc : cix (s / 18 + r + t) (s % 18 / 9 + p) r (s % 9 / 3) = i0 at hlt ⊢
  rw [iI_ix i0 (by omega), iI_ix s (by omega), hx s hs, hy i0 hlt, max_expr (by have := hX s; omega) (by omega) (by omega) (by omega) (by have := hY i0; omega)]
  refine hq (nup Y i0 (max (Y i0) (X s + min (s % 3 + s % 9 / 3 + r + 2 * p + 3 * t) (h k)))) _ (rowP_upd hy rfl) (fun i => ?_) (tmax_congr (tmax_one Y i0 _) (fun i v => ?_))
  · by_cases e : i = i0
    · subst e; rw [nup_eq]; have := hY i; have := hX s; omega
    · rw [nup_ne _ _ e]; exact hY i
  · constructor
    · rintro ⟨_, _, _, z1, z2⟩; exact ⟨by rw [z1, hc], z2⟩
    · rintro ⟨z1, z2⟩; exact ⟨by omega, by omega, by omega, by rw [z1, hc], z2⟩
def layS (h l : Nat → Nat) (G k : Nat) (X : Nat → Nat) (s r i v : Nat) : Prop := lay1 h l G k X s r 0 0 i v ∨ 0 < h k ∧ (lay1 h l G k X s r 1 0 i v ∨ lay1 h l G k X s r 0 1 i v)
theorem p_laySets {nw nx : Nat → Int32} {X Y : Nat → Nat} {post : (Nat → Int32) → Prop} (h4 : h k ≤ 4) (l4 : l k ≤ 4) (hG : G ≤ 4) {s r : Nat} (hs : s < 90) (hr : r ≤ 2) (hx : rowP 90 nw X) {bd : Nat} (hbd : bd ≤ 500) (hX : ∀ i, X i ≤ bd) (hne : X s ≠ 0) (hy : rowP 90 nx Y) (hY : ∀ i, Y i ≤ bd + 4)
    (hq : ∀ Z nz, rowP 90 nz Z → (∀ i, Z i ≤ bd + 4) → tmax (layS h l G k X s r) Y Z → post nz) : w_X0_laySets (iI G) (iI ((4 - l k : Nat) : Int)) (iI (h k)) nw nx (iI s) (iI r) post := by
  unfold w_X0_laySets
  rw [n0]
  refine p_lay h4 l4 hG hs hr (by omega) (by omega) hx hbd hX hne hy hY (fun Z nz hz hZ hT => ?_)
  rw [← n0, iI_le0 ⟨by omega, by omega⟩]
  refine ⟨fun c => hq Z nz hz hZ (tmax_congr hT (fun i v => ?_)), fun c => ?_⟩
  · constructor
    · rintro (z | ⟨z, _⟩)
      · exact z
      · omega
    · exact Or.inl
  · rw [n1, n0]
    refine p_lay h4 l4 hG hs hr (by omega) (by omega) hx hbd hX hne hz hZ (fun Z2 nz2 hz2 hZ2 hT2 => ?_)
    refine p_lay h4 l4 hG hs hr (by omega) (by omega) hx hbd hX hne hz2 hZ2 (fun Z3 nz3 hz3 hZ3 hT3 => hq Z3 nz3 hz3 hZ3 (tmax_comp hT (tmax_comp hT2 hT3 (R := fun i v => lay1 h l G k X s r 1 0 i v ∨ lay1 h l G k X s r 0 1 i v) (fun i v => Iff.rfl)) (fun i v => ?_)))
    constructor
    · rintro (z | ⟨_, z⟩)
      · exact Or.inl z
      · exact Or.inr z
    · rintro (z | z)
      · exact Or.inl z
      · exact Or.inr ⟨by omega, z⟩
def Lr (h l : Nat → Nat) (G k : Nat) (X : Nat → Nat) (mr s r0 i v : Nat) : Prop := ∃ r, r0 ≤ r ∧ r ≤ mr ∧ layS h l G k X s r i v
theorem p_lk_b28 {nw : Nat → Int32} {X : Nat → Nat} {post : (Nat → Int32) → (Nat → Int32) → Prop} {K10 : Int32 → (Nat → Int32) → (Nat → Int32) → Prop} (h4 : h k ≤ 4) (l4 : l k ≤ 4) (hG : G ≤ 4) {s mr : Nat} (hs : s < 90) (hmr : mr ≤ 2) (hx : rowP 90 nw X) {bd : Nat} (hbd : bd ≤ 500) (hX : ∀ i, X i ≤ bd) (hne : X s ≠ 0) :
    ∀ (d r0 : Nat) (Y : Nat → Nat) (nx : Nat → Int32), r0 + d = mr + 1 → rowP 90 nx Y → (∀ i, Y i ≤ bd + 4) →
    (∀ Z nz, rowP 90 nz Z → (∀ i, Z i ≤ bd + 4) → tmax (Lr h l G k X mr s r0) Y Z → K10 (iI ((s + 1 : Nat) : Int)) nw nz) →
    w_X0_layKind_b28 post (iI G) (iI ((4 - l k : Nat) : Int)) (iI (h k)) (iI mr) K10 (d + 1) (iI s) (iI r0) nw nx := by
  intro d
  induction d with
  | zero =>
    intro r0 Y nx hd hy hY hq
    rw [w_X0_layKind_b28, iI_lt' (a := mr) (b := r0) (by omega) (by omega)]
    refine ⟨fun _ => ?_, fun c => absurd (by omega) c⟩
    unfold w_X0_layKind_b45
    rw [iI_inc]
    exact hq Y nx hy hY (tmax_nil Y (fun i v z => by obtain ⟨r, z1, z2, _⟩ := z; omega))
  | succ d ih =>
    intro r0 Y nx hd hy hY hq
    rw [w_X0_layKind_b28, iI_lt' (a := mr) (b := r0) (by omega) (by omega)]
    refine ⟨fun c => absurd c (by omega), fun _ => p_laySets h4 l4 hG hs (by omega) hx hbd hX hne hy hY (fun Z nz hz hZ hT => ?_)⟩
    rw [iI_inc]
    refine ih (r0 + 1) Z nz (by omega) hz hZ (fun Z2 nz2 hz2 hZ2 hT2 => hq Z2 nz2 hz2 hZ2 (tmax_comp hT hT2 (fun i v => ?_)))
    constructor
    · rintro ⟨r, z1, z2, z3⟩
      rcases Nat.eq_or_lt_of_le z1 with e | e
      · subst e; exact Or.inl z3
      · exact Or.inr ⟨r, e, z2, z3⟩
    · rintro (z | ⟨r, z1, z2⟩)
      · exact ⟨r0, Nat.le_refl _, by omega, z⟩
      · exact ⟨r, by omega, z2⟩
def Ls (h l : Nat → Nat) (G k : Nat) (X : Nat → Nat) (mr s0 i v : Nat) : Prop := ∃ s, s0 ≤ s ∧ s < 90 ∧ X s ≠ 0 ∧ Lr h l G k X mr s 0 i v
theorem p_lk_b10 {nw : Nat → Int32} {X : Nat → Nat} {post : (Nat → Int32) → (Nat → Int32) → Prop} (h4 : h k ≤ 4) (l4 : l k ≤ 4) (hG : G ≤ 4) {mr : Nat} (hmr : mr ≤ 2) (hx : rowP 90 nw X) {bd : Nat} (hbd : bd ≤ 500) (hX : ∀ i, X i ≤ bd) :
    ∀ (d s0 : Nat) (Y : Nat → Nat) (nx : Nat → Int32), s0 + d = 90 → rowP 90 nx Y → (∀ i, Y i ≤ bd + 4) →
    (∀ Z nz, rowP 90 nz Z → (∀ i, Z i ≤ bd + 4) → tmax (Ls h l G k X mr s0) Y Z → post nz nw) →
    w_X0_layKind_b10 post (iI G) (iI ((4 - l k : Nat) : Int)) (iI (h k)) (iI mr) (d + 1) (iI s0) nw nx := by
  intro d
  induction d with
  | zero =>
    intro s0 Y nx hd hy hY hq
    rw [w_X0_layKind_b10, n90, iI_le' (a := 90) (b := s0) (by omega) (by omega)]
    refine ⟨fun _ => ?_, fun c => absurd (by omega) c⟩
    unfold w_X0_layKind_b51
    exact hq Y nx hy hY (tmax_nil Y (fun i v z => by obtain ⟨r, z1, z2, _⟩ := z; omega))
  | succ d ih =>
    intro s0 Y nx hd hy hY hq
    rw [w_X0_layKind_b10, n90, iI_le' (a := 90) (b := s0) (by omega) (by omega), iI_ix s0 (by omega), hx s0 (by omega), iI_m1, iI_eq (a := (X s0 : Int) - 1) (b := -1) ⟨by omega, by have := hX s0; omega⟩ ⟨by omega, by omega⟩]
    refine ⟨fun c => absurd c (by omega), fun _ => ⟨iI_in' (by omega) (by omega), fun c => ?_, fun c => ⟨mr + 2, ?_⟩⟩⟩
    · unfold w_X0_layKind_b45
      rw [iI_inc]
      refine ih (s0 + 1) Y nx (by omega) hy hY (fun Z nz hz hZ hT => hq Z nz hz hZ (tmax_congr hT (fun i v => ?_)))
      constructor
      · rintro ⟨s, z1, z2, z3, z4⟩
        rcases Nat.eq_or_lt_of_le z1 with e | e
        · subst e; omega
        · exact ⟨s, e, z2, z3, z4⟩
      · rintro ⟨s, z1, z2⟩
        exact ⟨s, by omega, z2⟩
    · rw [n0]
      refine p_lk_b28 h4 l4 hG (by omega) hmr hx hbd hX (by omega) (mr + 1) 0 Y nx (by omega) hy hY (fun Z nz hz hZ hT => ?_)
      refine ih (s0 + 1) Z nz (by omega) hz hZ (fun Z2 nz2 hz2 hZ2 hT2 => hq Z2 nz2 hz2 hZ2 (tmax_comp hT hT2 (fun i v => ?_)))
      constructor
      · rintro ⟨s, z1, z2, z3, z4⟩
        rcases Nat.eq_or_lt_of_le z1 with e | e
        · subst e; exact Or.inl z4
        · exact Or.inr ⟨s, e, z2, z3, z4⟩
      · rintro (z | ⟨s, z1, z2⟩)
        · exact ⟨s0, Nat.le_refl _, by omega, by omega, z⟩
        · exact ⟨s, by omega, z2⟩
theorem Ls_ctr {X : Nat → Nat} {mr : Nat} (hmr : mr = if crow h k then 2 else 0) (i v : Nat) : ctr h l G k X i v ↔ Ls h l G k X mr 0 i v := by
  have hr : ∀ r, r ≤ mr ↔ r ≤ 2 ∧ (0 < r → crow h k) := by
    intro r
    rw [hmr]
    by_cases e : crow h k
    · rw [if_pos e]; exact ⟨fun z => ⟨z, fun _ => e⟩, fun z => z.1⟩
    · rw [if_neg e]
      constructor
      · intro z; exact ⟨by omega, fun z2 => by omega⟩
      · rintro ⟨z1, z2⟩
        rcases Nat.eq_zero_or_pos r with q | q
        · omega
        · exact absurd (z2 q) e
  constructor
  · rintro ⟨g, q, a, b, r, t, p, c1, c2, c3, c4, c5, c6, c7, c8, c9, c10, c11, c12, c13, c14⟩
    have hlt : cix g q a b < 90 := cix_lt c1 c2 c3 c4
    obtain ⟨d1, d2, d3, d4, d5⟩ := cix_of hlt
    obtain ⟨i1, i2, i3, i4⟩ := cix_inj d2 d3 d4 c2 c3 c4 d5
    refine ⟨cix g q a b, Nat.zero_le _, hlt, c5, r, Nat.zero_le _, (hr r).mpr ⟨c6, c7⟩, ?_⟩
    have hl1 : lay1 h l G k X (cix g q a b) r p t i v := by
      unfold lay1
      rw [i1, i2, i3, i4]
      exact ⟨by omega, by omega, c12, c13, c14⟩
    rcases (show (p = 0 ∧ t = 0) ∨ (p = 1 ∧ t = 0) ∨ (p = 0 ∧ t = 1) by omega) with ⟨e1, e2⟩ | ⟨e1, e2⟩ | ⟨e1, e2⟩
    · subst e1 e2; exact Or.inl hl1
    · subst e1 e2; exact Or.inr ⟨c9 (by omega), Or.inl hl1⟩
    · subst e1 e2; exact Or.inr ⟨c9 (by omega), Or.inr hl1⟩
  · rintro ⟨s, -, hs, hne, r, -, hrm, hl⟩
    obtain ⟨d1, d2, d3, d4, d5⟩ := cix_of hs
    obtain ⟨r2, r3⟩ := (hr r).mp hrm
    have key : ∀ p t, p + t ≤ 1 → (0 < p + t → 0 < h k) → lay1 h l G k X s r p t i v → ctr h l G k X i v := by
      rintro p t z1 z2 ⟨y1, y2, y3, y4, y5⟩
      exact ⟨s / 18, s % 18 / 9, s % 9 / 3, s % 3, r, t, p, d1, d2, d3, d4, by rw [d5]; exact hne, r2, r3, by omega, fun z => z2 (by omega), by omega, by omega, y3, y4, by rw [d5]; exact y5⟩
    rcases hl with z | ⟨z0, z | z⟩
    · exact key 0 0 (by omega) (fun z => by omega) z
    · exact key 1 0 (by omega) (fun _ => z0) z
    · exact key 0 1 (by omega) (fun _ => z0) z
theorem p_layKind {nw nx : Nat → Int32} {X : Nat → Nat} {post : (Nat → Int32) → (Nat → Int32) → Prop} (h4 : h k ≤ 4) (l4 : l k ≤ 4) (hG : G ≤ 4) {mr : Nat} (hmr : mr = if crow h k then 2 else 0) (hx : rowP 90 nw X) {bd : Nat} (hbd : bd ≤ 500) (hX : ∀ i, X i ≤ bd)
    (hq : ∀ Z nz, rowP 90 nz Z → (∀ i, Z i ≤ bd + 4) → tmax (ctr h l G k X) (fun _ => 0) Z → post nz nw) : w_X0_layKind (iI G) (iI ((4 - l k : Nat) : Int)) (iI (h k)) nw nx (iI mr) post := by
  unfold w_X0_layKind
  refine p_fill (by omega) (fun ff hff => ⟨91, ?_⟩)
  rw [n0]
  exact p_lk_b10 h4 l4 hG (by rw [hmr]; split <;> omega) hx hbd hX 90 0 (fun _ => 0) ff (by omega) (fun i hi => by rw [hff i hi]; exact (by decide : (-1 : Int32) = iI (((0 : Nat) : Int) - 1))) (fun _ => Nat.zero_le _) (fun Z nz hz hZ hT => hq Z nz hz hZ (tmax_congr hT (Ls_ctr hmr)))
theorem p_mh_b86 {post : Int32 → Int32 → Int32 → Int32 → (Nat → Int32) → (Nat → Int32) → Prop} {hd la nw nx : Nat → Int32} {p0 glm rom hel : Int32} {X : Nat → Nat} (hx : rowP 90 nw X) {bd : Nat} (hbd : bd ≤ 500) (hX : ∀ i, X i ≤ bd) :
    ∀ (d s0 most : Nat), s0 + d = 90 → most ≤ bd → (∀ j, j < s0 → X j ≤ most + 1) → (most = 0 ∨ ∃ j, j < s0 ∧ X j = most + 1) →
    (∀ most', most' ≤ bd → (∀ j, j < 90 → X j ≤ most' + 1) → (most' = 0 ∨ ∃ j, j < 90 ∧ X j = most' + 1) → post (iI (most' : Nat)) glm rom hel nw nx) →
    w_X0_mostHeld_b86 post hd la p0 (d + 1) (iI most) (iI s0) glm rom hel nw nx := by
  intro d
  induction d with
  | zero =>
    intro s0 most hs hm h1 h2 hq
    rw [w_X0_mostHeld_b86, n90, iI_le' (a := 90) (b := s0) (by omega) (by omega)]
    refine ⟨fun _ => hq most hm (fun j hj => h1 j (by omega)) (h2.imp id (fun ⟨j, z1, z2⟩ => ⟨j, by omega, z2⟩)), fun c => absurd (by omega) c⟩
  | succ d ih =>
    intro s0 most hs hm h1 h2 hq
    rw [w_X0_mostHeld_b86, n90, iI_le' (a := 90) (b := s0) (by omega) (by omega), iI_ix s0 (by omega), hx s0 (by omega)]
    refine ⟨fun c => absurd c (by omega), fun _ => ⟨iI_in' (by omega) (by omega), fun t7 e7 => ?_⟩⟩
    have hxs := hX s0
    rw [iI_max (a := (most : Int)) (b := (X s0 : Int) - 1) ⟨by omega, by omega⟩ ⟨by omega, by omega⟩] at e7
    have e7' : t7 = iI ((max most (X s0 - 1) : Nat) : Int) := by rw [e7]; congr 1; omega
    rw [e7', iI_inc]
    refine ih (s0 + 1) (max most (X s0 - 1)) (by omega) (by omega) (fun j hj => ?_) ?_ hq
    · rcases Nat.lt_or_ge j s0 with e | e
      · have := h1 j e; omega
      · have e9 : j = s0 := by omega
        subst e9; omega
    · by_cases e : most < X s0 - 1
      · exact Or.inr ⟨s0, by omega, by omega⟩
      · rw [show max most (X s0 - 1) = most by omega]
        exact h2.imp id (fun ⟨j, z1, z2⟩ => ⟨j, by omega, z2⟩)
theorem p_mh_b31 {post : Int32 → Int32 → Int32 → Int32 → (Nat → Int32) → (Nat → Int32) → Prop} {hd la : Nat → Int32} {p0 : Int32} (hh : rowN 34 hd h) (hl : rowN 34 la l) (h4 : ∀ k, k < 34 → h k ≤ 4) (l4 : ∀ k, k < 34 → l k ≤ 4) (hG : G ≤ 4)
    (hq : ∀ v glm rom hel nw nx, isMax h l G v → v ≤ 200 → post (iI (v : Nat)) glm rom hel nw nx) :
    ∀ (d k : Nat) (X : Nat → Nat) (rom hel : Int32) (nw nx : Nat → Int32), k + d = 34 → rowP 90 nw X → (∀ i, X i ≤ 4 * k + 1) → ctab h l G k X →
    w_X0_mostHeld_b31 post hd la p0 (d + 1) (iI k) (iI G) rom hel nw nx := by
  intro d
  induction d with
  | zero =>
    intro k X rom hel nw nx hk hx hX hT
    rw [w_X0_mostHeld_b31, n34, iI_le' (a := 34) (b := k) (by omega) (by omega)]
    have e : k = 34 := by omega
    subst e
    refine ⟨fun _ => ?_, fun c => absurd (by omega) c⟩
    refine ⟨91, ?_⟩
    rw [n0]
    refine p_mh_b86 hx (bd := 137) (by omega) hX 90 0 0 (by omega) (by omega) (fun j hj => absurd hj (by omega)) (Or.inl rfl) (fun most hm h1 h2 => hq _ _ _ _ _ _ (ctab_end hG hT l4 h1 ?_) (by omega))
    rcases h2 with e | e
    · have hz := hT.2 (fun _ => 0) (fun _ => 0) (fun _ => 0) (fun j hj => by
        rw [wnt0]
        exact ⟨by have := l4 j hj; omega, Nat.zero_le _, fun z => absurd z (Nat.lt_irrefl 0), Nat.zero_le _, Nat.zero_le _, fun z => absurd z (Nat.lt_irrefl 0), fun z => absurd z (Nat.lt_irrefl 0)⟩) (by show sumN 34 (fun _ => 0 + 0) ≤ G; rw [sumN_zero (fun _ _ => rfl)]; omega) (by rw [sumN_zero (fun _ _ => rfl)]; omega)
      have e1 : grp 34 (fun _ => 0) (fun _ => 0) = 0 := sumN_zero (fun _ _ => rfl)
      have e2 : sumN 34 (fun _ => 0) = 0 := sumN_zero (fun _ _ => rfl)
      rw [e1, e2] at hz
      have hz2 : hld h 34 (fun _ => 0) (fun _ => 0) (fun _ => 0) + 1 ≤ X 0 := hz
      have := h1 0 (by omega)
      exact ⟨0, by omega, by omega⟩
    · exact e
  | succ d ih =>
    intro k X rom hel nw nx hk hx hX hT
    rw [w_X0_mostHeld_b31, n34, n4, iI_le' (a := 34) (b := k) (by omega) (by omega), iI_ix k (by omega), hl k (by omega), hh k (by omega), iI_sub' (show l k ≤ 4 from l4 k (by omega))]
    refine ⟨fun c => absurd c (by omega), fun _ => ⟨iI_in' (by omega) (by omega), fun t9 e9 => ⟨iI_in' (by omega) (by omega), ?_⟩⟩⟩
    subst e9
    have go : ∀ mr : Nat, mr = (if crow h k then 2 else 0) → w_X0_mostHeld_b71 post hd la p0 (w_X0_mostHeld_b31 post hd la p0 (d + 1)) (iI k) (iI mr) (iI G) (iI ((4 - l k : Nat) : Int)) (iI (h k)) nw nx := by
      intro mr hmr
      unfold w_X0_mostHeld_b71
      refine p_layKind (h4 k (by omega)) (l4 k (by omega)) hG hmr hx (bd := 4 * k + 1) (by omega) hX (fun Z nz hz hZ hT2 => ?_)
      rw [iI_inc]
      exact ih (k + 1) Z _ _ nz nw (by omega) hz (fun i => by have := hZ i; omega) (ctab_step hG hT hT2)
    refine p_canRow hh h4 (by omega) (fun hc => ⟨fun c => absurd c i10, fun _ => ?_⟩) (fun hc => ⟨fun _ => ?_, fun c => absurd rfl c⟩)
    · rw [n2]; exact go 2 (by rw [if_pos hc])
    · rw [n0]; exact go 0 (by rw [if_neg hc])
theorem p_mostHeld {post : Int32 → Int32 → Int32 → Int32 → (Nat → Int32) → (Nat → Int32) → Prop} {hd la nw nx : Nat → Int32} {glm rom hel : Int32} (hh : rowN 34 hd h) (hl : rowN 34 la l) (h4 : ∀ k, k < 34 → h k ≤ 4) (l4 : ∀ k, k < 34 → l k ≤ 4) (hG : G ≤ 4)
    (hq : ∀ v glm rom hel nw nx, isMax h l G v → v ≤ 200 → post (iI (v : Nat)) glm rom hel nw nx) : w_X0_mostHeld hd la glm rom hel nw nx (iI G) post := by
  intro t1 e1
  have e1' : t1 = iI (G : Int) := by
    rw [e1, n4, n0, iI_min (a := (G : Int)) (b := ((4 : Nat) : Int)) ⟨by omega, by omega⟩ ⟨by omega, by omega⟩, iI_max (a := ((0 : Nat) : Int)) ⟨by omega, by omega⟩ ⟨by omega, by omega⟩]
    congr 1; omega
  subst e1'
  clear e1
  refine p_fill (by omega) (fun ff hff => ⟨by rw [n0]; exact iI_in' (by omega) (by omega), 35, ?_⟩)
  have hrow : rowP 90 ff (fun _ => 0) := fun i hi => by rw [hff i hi]; exact (by decide : (-1 : Int32) = iI (((0 : Nat) : Int) - 1))
  have e0 : (0 : Int32).toNatClampNeg = 0 := by decide
  rw [e0, n0]
  exact p_mh_b31 hh hl h4 l4 hG hq 34 0 (nup (fun _ => 0) 0 1) rom hel _ nx (by omega) (rowP_upd hrow (by decide)) (fun i => by by_cases e : i = 0 <;> simp [nup, e]) (ctab_zero h l G (nup_eq _ _ _) (fun i _ hi => nup_ne _ _ hi))
end COVER
