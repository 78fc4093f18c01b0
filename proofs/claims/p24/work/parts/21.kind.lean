theorem iI_lt0 {z : Int} (h : r32 z) : iI z < 0 ↔ z < 0 := by rw [iI_l0, iI_lt h ⟨by omega, by omega⟩]
theorem iI_0le {z : Int} (h : r32 z) : 0 ≤ iI z ↔ 0 ≤ z := by rw [iI_l0, iI_le ⟨by omega, by omega⟩ h]
theorem iI_le0 {z : Int} (h : r32 z) : iI z ≤ 0 ↔ z ≤ 0 := by rw [iI_l0, iI_le h ⟨by omega, by omega⟩]
theorem iI_0lt {z : Int} (h : r32 z) : 0 < iI z ↔ 0 < z := by rw [iI_l0, iI_lt ⟨by omega, by omega⟩ h]
theorem iI_eq0 {z : Int} (h : r32 z) : iI z = 0 ↔ z = 0 := by rw [iI_l0, iI_eq h ⟨by omega, by omega⟩]
theorem p_isKind_y {k : Nat} (hk : k < 34) {post : Int32 → Prop} (h : post 1) : w_X1_isKind (iI k) post := by
  unfold w_X1_isKind
  rw [iI_lt0 ⟨by omega, by omega⟩, iI_l34, iI_le ⟨by omega, by omega⟩ ⟨by omega, by omega⟩]
  exact ⟨fun c => by omega, fun _ => ⟨fun c => by omega, fun _ => h⟩⟩
theorem i10 : ¬ (1 : Int32) = 0 := by decide
theorem p_reqKind_y {k : Nat} (hk : k < 34) {post : Prop} (h : post) : w_X1_requireKind (iI k) post := p_isKind_y hk ⟨fun c => absurd c i10, fun _ => h⟩
/-- a row of small numbers -/
def rowN (n : Nat) (f : Nat → Int32) (h : Nat → Nat) : Prop := ∀ k, k < n → f k = iI (h k)
theorem rowN_upd {n : Nat} {f : Nat → Int32} {h : Nat → Nat} (hf : rowN n f h) {k v : Nat} {x : Int32} (hx : x = iI v) : rowN n (upd f k x) (nup h k v) := by
  intro j hj
  by_cases e : j = k
  · subst e; simp [upd, nup, hx]
  · simp only [upd, nup, if_neg e]; exact hf j hj
theorem p_tilesLeft {hd la se : Nat → Int32} {h l s : Nat → Nat} (hh : rowN 34 hd h) (hl : rowN 34 la l) (hs : rowN 34 se s) {k : Nat} (hk : k < 34) {post : Int32 → Prop} (q : post (iI (4 - h k - l k - s k))) : w_X1_tilesLeft hd la se (iI k) post := by
  unfold w_X1_tilesLeft
  rw [iI_ix k (by omega), hh k hk, hl k hk, hs k hk, iI_l4, iI_sub, iI_sub, iI_sub]
  exact ⟨iI_in' hk (by omega), iI_in' hk (by omega), iI_in' hk (by omega), q⟩
theorem p_reqLeft_y {hd la se : Nat → Int32} {h l s : Nat → Nat} (hh : rowN 34 hd h) (hl : rowN 34 la l) (hs : rowN 34 se s) {k : Nat} (hk : k < 34) (hlt : h k + l k + s k < 4) {post : Prop} (q : post) : w_X1_requireLeft hd la se (iI k) post := by
  refine p_tilesLeft hh hl hs hk ?_
  rw [iI_0lt ⟨by omega, by omega⟩]
  exact ⟨fun _ => q, fun c => by omega⟩
theorem p_reqLeft_n {hd la se : Nat → Int32} {h l s : Nat → Nat} (hh : rowN 34 hd h) (hl : rowN 34 la l) (hs : rowN 34 se s) {k : Nat} (hk : k < 34) (hlt : h k + l k + s k = 4) {px : String → Prop} (q : px "java/lang/IllegalStateException") : w_X1_requireLeft_x hd la se (iI k) px := by
  refine p_tilesLeft hh hl hs hk ?_
  rw [iI_0lt ⟨by omega, by omega⟩]
  exact ⟨fun c => by omega, fun _ => q⟩
theorem p_addTiles {hd : Nat → Int32} {h : Nat → Nat} (hh : rowN 34 hd h) {k : Nat} (hk : k < 34) {tc : Int32} {d : Int32} {post : Int32 → (Nat → Int32) → Prop} (q : post (tc + d) (upd hd k (iI (h k) + d))) : w_X1_addTiles tc hd (iI k) d post := by
  unfold w_X1_addTiles
  rw [iI_ix k (by omega), hh k hk]
  exact ⟨iI_in' hk (by omega), iI_in' hk (by omega), q⟩
