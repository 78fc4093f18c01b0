/-! kinds, and the class's small methods -/
theorem iI_lt0 {z : Int} (h : r32 z) : iI z < 0 ↔ z < 0 := by rw [iI_l0, iI_lt h ⟨by omega, by omega⟩]
theorem iI_0le {z : Int} (h : r32 z) : 0 ≤ iI z ↔ 0 ≤ z := by rw [iI_l0, iI_le ⟨by omega, by omega⟩ h]
theorem iI_le0 {z : Int} (h : r32 z) : iI z ≤ 0 ↔ z ≤ 0 := by rw [iI_l0, iI_le h ⟨by omega, by omega⟩]
theorem iI_0lt {z : Int} (h : r32 z) : 0 < iI z ↔ 0 < z := by rw [iI_l0, iI_lt ⟨by omega, by omega⟩ h]
theorem iI_eq0 {z : Int} (h : r32 z) : iI z = 0 ↔ z = 0 := by rw [iI_l0, iI_eq h ⟨by omega, by omega⟩]
theorem r32_of (x : Int32) : r32 x.toInt := ⟨by have := Int32.le_toInt x; simpa using this, by have := Int32.toInt_lt x; simpa using this⟩
/-- a number is a kind, or below, or above -/
theorem kind_or (p : Int32) : (∃ k : Nat, k < 34 ∧ p = iI k) ∨ (p < 0 ∨ ¬ p < 0 ∧ 34 ≤ p) := by
  have hr := r32_of p
  rw [iI_of p, iI_l34, iI_lt0 hr, iI_le ⟨by omega, by omega⟩ hr]
  by_cases h1 : p.toInt < 0
  · exact Or.inr (Or.inl h1)
  · by_cases h2 : 34 ≤ p.toInt
    · exact Or.inr (Or.inr ⟨h1, h2⟩)
    · refine Or.inl ⟨p.toInt.toNat, by omega, ?_⟩
      congr 1
      omega
def isK (p : Int32) : Prop := ∃ k : Nat, k < 34 ∧ p = iI k
theorem notK {p : Int32} (h : ¬ isK p) : p < 0 ∨ ¬ p < 0 ∧ 34 ≤ p := (kind_or p).elim (fun q => absurd q h) id
theorem p_isKind_y {k : Nat} (hk : k < 34) {post : Int32 → Prop} (h : post 1) : w_X1_isKind (iI k) post := by
  unfold w_X1_isKind
  rw [iI_lt0 ⟨by omega, by omega⟩, iI_l34, iI_le ⟨by omega, by omega⟩ ⟨by omega, by omega⟩]
  exact ⟨fun c => by omega, fun _ => ⟨fun c => by omega, fun _ => h⟩⟩
theorem p_isKind_n {p : Int32} (hp : ¬ isK p) {post : Int32 → Prop} (h : post 0) : w_X1_isKind p post := by
  unfold w_X1_isKind
  rcases notK hp with q | ⟨q, q2⟩
  · exact ⟨fun _ => h, fun c => absurd q c⟩
  · exact ⟨fun c => absurd c q, fun _ => ⟨fun _ => h, fun c => absurd q2 c⟩⟩
theorem i10 : ¬ (1 : Int32) = 0 := by decide
theorem p_reqKind_y {k : Nat} (hk : k < 34) {post : Prop} (h : post) : w_X1_requireKind (iI k) post := p_isKind_y hk ⟨fun c => absurd c i10, fun _ => h⟩
theorem p_reqKind_n {p : Int32} (hp : ¬ isK p) {px : String → Prop} (h : px "java/lang/IndexOutOfBoundsException") : w_X1_requireKind_x p px := p_isKind_n hp ⟨fun _ => h, fun c => absurd rfl c⟩
/-- a row of small numbers -/
def rowN (n : Nat) (f : Nat → Int32) (h : Nat → Nat) : Prop := ∀ k, k < n → f k = iI (h k)
theorem rowN_upd {n : Nat} {f : Nat → Int32} {h : Nat → Nat} (hf : rowN n f h) {k v : Nat} {x : Int32} (hx : x = iI v) : rowN n (upd f k x) (nup h k v) := by
  intro j hj
  by_cases e : j = k
  · subst e; simp [upd, nup, hx]
  · simp only [upd, nup, if_neg e]; exact hf j hj
theorem p_tilesLeft {hd la se : Nat → Int32} {h l s : Nat → Nat} (hh : rowN 34 hd h) (hl : rowN 34 la l) (hs : rowN 34 se s) {k : Nat} (hk : k < 34) {post : Int32 → Prop} (q : post (iI (4 - h k - l k - s k))) : w_X1_tilesLeft hd la se (iI k) post := by
  unfold w_X1_tilesLeft
  rw [iI_ix k (by omega), hh k hk, hl k hk, hs k hk, iI_l4, iI_sub, iI_sub, iI_sub]
  exact ⟨iI_in' hk (by omega), iI_in' hk (by omega), iI_in' hk (by omega), q⟩
theorem p_reqLeft_y {hd la se : Nat → Int32} {h l s : Nat → Nat} (hh : rowN 34 hd h) (hl : rowN 34 la l) (hs : rowN 34 se s) {k : Nat} (hk : k < 34) (hlt : h k + l k + s k < 4) {post : Prop} (q : post) : w_X1_requireLeft hd la se (iI k) post := by
  refine p_tilesLeft hh hl hs hk ?_
  rw [iI_0lt ⟨by omega, by omega⟩]
  exact ⟨fun _ => q, fun c => by omega⟩
theorem p_reqLeft_n {hd la se : Nat → Int32} {h l s : Nat → Nat} (hh : rowN 34 hd h) (hl : rowN 34 la l) (hs : rowN 34 se s) {k : Nat} (hk : k < 34) (hlt : h k + l k + s k = 4) {px : String → Prop} (q : px "java/lang/IllegalStateException") : w_X1_requireLeft_x hd la se (iI k) px := by
  refine p_tilesLeft hh hl hs hk ?_
  rw [iI_0lt ⟨by omega, by omega⟩]
  exact ⟨fun c => by omega, fun _ => q⟩
theorem p_addTiles {hd : Nat → Int32} {h : Nat → Nat} (hh : rowN 34 hd h) {k : Nat} (hk : k < 34) {tc : Int32} {d : Int32} {post : Int32 → (Nat → Int32) → Prop} (q : post (tc + d) (upd hd k (iI (h k) + d))) : w_X1_addTiles tc hd (iI k) d post := by
  unfold w_X1_addTiles
  rw [iI_ix k (by omega), hh k hk]
  exact ⟨iI_in' hk (by omega), iI_in' hk (by omega), q⟩
