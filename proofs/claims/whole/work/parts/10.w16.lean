def w_X2_common_b169 (post : Int32 → Prop) (mel : Int32) (hM : (Nat → Int32)) (lM : (Nat → Int32)) (zM : (Nat → Int32)) (p0 : Int32) (v2 : Int32) (v4 : Int32) (v5 : Int32) : Prop := w_J6_bitCount_0f7a4 v4 (fun r7 => (((r7 = (1 : Int32) → (((v5 = 0 → (post (v2 + (6 : Int32)))) ∧ (¬ v5 = 0 → (post (v2 + (3 : Int32))))))) ∧ (¬ r7 = (1 : Int32) → (post v2)))))

def w_X2_common_b161 (post : Int32 → Prop) (mel : Int32) (hM : (Nat → Int32)) (lM : (Nat → Int32)) (zM : (Nat → Int32)) (p0 : Int32) (v2 : Int32) (v4 : Int32) (v5 : Int32) : Prop := ((v4 = 0 → (w_X2_common_b169 post mel hM lM zM p0 (v2 + 6) v4 v5)) ∧ (¬ v4 = 0 → (w_X2_common_b169 post mel hM lM zM p0 v2 v4 v5)))

def w_X2_common_b153 (post : Int32 → Prop) (mel : Int32) (hM : (Nat → Int32)) (lM : (Nat → Int32)) (zM : (Nat → Int32)) (p0 : Int32) (v2 : Int32) (v4 : Int32) (v5 : Int32) (v6 : Int32) : Prop := ((v6 = 0 → (w_X2_common_b161 post mel hM lM zM p0 (v2 + 1) v4 v5)) ∧ (¬ v6 = 0 → (w_X2_common_b161 post mel hM lM zM p0 v2 v4 v5)))

def w_X2_common_b147 (post : Int32 → Prop) (mel : Int32) (hM : (Nat → Int32)) (lM : (Nat → Int32)) (zM : (Nat → Int32)) (p0 : Int32) (K74 : Int32 → Int32 → Int32 → Int32 → Int32 → Prop) (v2 : Int32) (v4 : Int32) (v5 : Int32) (v6 : Int32) (v7 : Int32) : Prop := K74 v2 v4 v5 v6 (v7 + 1)

def w_X2_common_b120 (post : Int32 → Prop) (mel : Int32) (hM : (Nat → Int32)) (lM : (Nat → Int32)) (zM : (Nat → Int32)) (p0 : Int32) (K74 : Int32 → Int32 → Int32 → Int32 → Int32 → Prop) (v2 : Int32) (v4 : Int32) (v5 : Int32) (v7 : Int32) (s1 : Int32) : Prop := ((v7 < (27 : Int32) → (∀ t15 : Int32, t15 = v4 ||| ((1 : Int32) <<< ((v7 / (9 : Int32)) &&& 31)) → (w_X2_common_b147 post mel hM lM zM p0 K74 v2 t15 v5 s1 v7))) ∧ (¬ v7 < (27 : Int32) → (w_X2_common_b147 post mel hM lM zM p0 K74 v2 v4 (1 : Int32) s1 v7)))

def w_X2_common_b115 (post : Int32 → Prop) (mel : Int32) (hM : (Nat → Int32)) (lM : (Nat → Int32)) (zM : (Nat → Int32)) (p0 : Int32) (K74 : Int32 → Int32 → Int32 → Int32 → Int32 → Prop) (v2 : Int32) (v4 : Int32) (v5 : Int32) (v7 : Int32) : Prop := w_X2_common_b120 post mel hM lM zM p0 K74 v2 v4 v5 v7 (1 : Int32)

def w_X2_common_b74 (post : Int32 → Prop) (mel : Int32) (hM : (Nat → Int32)) (lM : (Nat → Int32)) (zM : (Nat → Int32)) (p0 : Int32) : Nat → Int32 → Int32 → Int32 → Int32 → Int32 → Prop
  | 0, _, _, _, _, _ => False
  | n + 1, v2, v4, v5, v6, v7 => (((34 : Int32) ≤ v7 → (w_X2_common_b153 post mel hM lM zM p0 v2 v4 v5 v6)) ∧ (¬ (34 : Int32) ≤ v7 → (vp_in v7 34 ∧ (vp_in v7 34 ∧ (((((hM v7.toNatClampNeg) + (lM v7.toNatClampNeg)) = 0 → (w_X2_common_b147 post mel hM lM zM p0 (w_X2_common_b74 post mel hM lM zM p0 n) v2 v4 v5 v6 v7)) ∧ (¬ ((hM v7.toNatClampNeg) + (lM v7.toNatClampNeg)) = 0 → (((v6 = 0 → (w_X2_isOuter v7 (fun r16 => (((r16 = 0 → (w_X2_common_b120 post mel hM lM zM p0 (w_X2_common_b74 post mel hM lM zM p0 n) v2 v4 v5 v7 (0 : Int32))) ∧ (¬ r16 = 0 → (w_X2_common_b115 post mel hM lM zM p0 (w_X2_common_b74 post mel hM lM zM p0 n) v2 v4 v5 v7))))))) ∧ (¬ v6 = 0 → (w_X2_common_b115 post mel hM lM zM p0 (w_X2_common_b74 post mel hM lM zM p0 n) v2 v4 v5 v7)))))))))))

def w_X2_common_b60 (post : Int32 → Prop) (mel : Int32) (hM : (Nat → Int32)) (lM : (Nat → Int32)) (zM : (Nat → Int32)) (p0 : Int32) (s2 : Int32) (s1 : Int32) : Prop := ∃ n9, w_X2_common_b74 post mel hM lM zM p0 n9 (s1 + s2) (0 : Int32) (0 : Int32) (0 : Int32) (0 : Int32)

def w_X2_common_b50 (post : Int32 → Prop) (mel : Int32) (hM : (Nat → Int32)) (lM : (Nat → Int32)) (zM : (Nat → Int32)) (p0 : Int32) (v2 : Int32) (v3 : Int32) : Prop := ((v3 = 0 → (w_X2_common_b60 post mel hM lM zM p0 (0 : Int32) v2)) ∧ (¬ v3 = 0 → (w_X2_common_b60 post mel hM lM zM p0 (1 : Int32) v2)))

def w_X2_common_b43 (post : Int32 → Prop) (mel : Int32) (hM : (Nat → Int32)) (lM : (Nat → Int32)) (zM : (Nat → Int32)) (p0 : Int32) (K15 : Int32 → Int32 → Int32 → Prop) (v2 : Int32) (v4 : Int32) (s1 : Int32) : Prop := K15 v2 s1 (v4 + 1)

def w_X2_common_b42 (post : Int32 → Prop) (mel : Int32) (hM : (Nat → Int32)) (lM : (Nat → Int32)) (zM : (Nat → Int32)) (p0 : Int32) (K15 : Int32 → Int32 → Int32 → Prop) (v2 : Int32) (v4 : Int32) : Prop := w_X2_common_b43 post mel hM lM zM p0 K15 v2 v4 (0 : Int32)

def w_X2_common_b15 (post : Int32 → Prop) (mel : Int32) (hM : (Nat → Int32)) (lM : (Nat → Int32)) (zM : (Nat → Int32)) (p0 : Int32) : Nat → Int32 → Int32 → Int32 → Prop
  | 0, _, _, _ => False
  | n + 1, v2, v3, v4 => ((mel ≤ v4 → (w_X2_common_b50 post mel hM lM zM p0 v2 v3)) ∧ (¬ mel ≤ v4 → (((v3 = 0 → (w_X2_common_b42 post mel hM lM zM p0 (w_X2_common_b15 post mel hM lM zM p0 n) v2 v4)) ∧ (¬ v3 = 0 → (vp_in v4 4 ∧ ((((zM v4.toNatClampNeg) = 0 → (w_X2_common_b43 post mel hM lM zM p0 (w_X2_common_b15 post mel hM lM zM p0 n) v2 v4 (1 : Int32))) ∧ (¬ (zM v4.toNatClampNeg) = 0 → (w_X2_common_b42 post mel hM lM zM p0 (w_X2_common_b15 post mel hM lM zM p0 n) v2 v4))))))))))

def w_X2_common_b9 (post : Int32 → Prop) (mel : Int32) (hM : (Nat → Int32)) (lM : (Nat → Int32)) (zM : (Nat → Int32)) (p0 : Int32) (s1 : Int32) : Prop := ∃ n9, w_X2_common_b15 post mel hM lM zM p0 n9 s1 (1 : Int32) (0 : Int32)

def w_X2_common (mel : Int32) (hM : (Nat → Int32)) (lM : (Nat → Int32)) (zM : (Nat → Int32)) (p0 : Int32) (post : Int32 → Prop) : Prop := ((p0 = 0 → (w_X2_common_b9 post mel hM lM zM p0 (0 : Int32))) ∧ (¬ p0 = 0 → (w_X2_common_b9 post mel hM lM zM p0 (1 : Int32))))

set_option maxHeartbeats 4000000 in
set_option maxRecDepth 100000 in
theorem c_X2_common (l : Launch) (dC : Nat → ClassId) (dI : Nat → Nat → Nat) (cI cZ : ClassId) (y : Nat) (bH : Nat) (bS : Nat) (bL : Nat) (bO : Nat) (bK : Nat) (bZ : Nat) (bR : Nat) (bG : Nat) (bB : Nat) (bX : Nat) (sz : Nat) (thr : Int32) (mel : Int32) (sea : Int32) (rnd : Int32) (bas : Int32) (lim : Int32) (hM : (Nat → Int32)) (lM : (Nat → Int32)) (zM : (Nat → Int32)) (p0 : Int32) (post : Int32 → Prop) (hw : w_X2_common mel hM lM zM p0 post) : Met l yX2_common wsX2_common ({ frames := 3, cells := 0, slots := 0, locals := 60 } : Room) (va_Pc [.ref y, .int p0] (fun U => U.heap.size = sz ∧ va_P (dC, dI) vwCl [(y, .inr (2, [.int thr, .ref bH, .ref bS, .ref bL, .int mel, .ref bO, .ref bK, .ref bZ, .int sea, .int rnd, .int bas, .int lim, .ref bR, .ref bG, .ref bB, .ref bX])), (bH, .inl (cI, 34, .inl hM)), (bL, .inl (cI, 34, .inl lM)), (bZ, .inl (cZ, 4, .inl zM))] U.heap ∧ va_K (dC, dI) vwCl [(cI, .int), (cZ, .boolean)] U ∧ va_D (fun _ => True) [(y, .inr (2, [.int thr, .ref bH, .ref bS, .ref bL, .int mel, .ref bO, .ref bK, .ref bZ, .int sea, .int rnd, .int bas, .int lim, .ref bR, .ref bG, .ref bB, .ref bX])), (bH, .inl (cI, 34, .inl hM)), (bL, .inl (cI, 34, .inl lM)), (bZ, .inl (cZ, 4, .inl zM))])) (va_Qi (fun (r9 : Int32) (u9 : Unit) => post r9) (fun (u9 : Unit) (t9 : State) => va_P (dC, dI) vwCl [(y, .inr (2, [.int thr, .ref bH, .ref bS, .ref bL, .int mel, .ref bO, .ref bK, .ref bZ, .int sea, .int rnd, .int bas, .int lim, .ref bR, .ref bG, .ref bB, .ref bX])), (bH, .inl (cI, 34, .inl hM)), (bL, .inl (cI, 34, .inl lM)), (bZ, .inl (cZ, 4, .inl zM))] t9.heap ∧ va_K (dC, dI) vwCl [(cI, .int), (cZ, .boolean)] t9 ∧ va_D (va_A [(y, .inr (2, [.int thr, .ref bH, .ref bS, .ref bL, .int mel, .ref bO, .ref bK, .ref bZ, .int sea, .int rnd, .int bas, .int lim, .ref bR, .ref bG, .ref bB, .ref bX])), (bH, .inl (cI, 34, .inl hM)), (bL, .inl (cI, 34, .inl lM)), (bZ, .inl (cZ, 4, .inl zM))] sz) [(y, .inr (2, [.int thr, .ref bH, .ref bS, .ref bL, .int mel, .ref bO, .ref bK, .ref bZ, .int sea, .int rnd, .int bas, .int lim, .ref bR, .ref bG, .ref bB, .ref bX])), (bH, .inl (cI, 34, .inl hM)), (bL, .inl (cI, 34, .inl lM)), (bZ, .inl (cZ, 4, .inl zM))]) (va_A [(y, .inr (2, [.int thr, .ref bH, .ref bS, .ref bL, .int mel, .ref bO, .ref bK, .ref bZ, .int sea, .int rnd, .int bas, .int lim, .ref bR, .ref bG, .ref bB, .ref bX])), (bH, .inl (cI, 34, .inl hM)), (bL, .inl (cI, 34, .inl lM)), (bZ, .inl (cZ, 4, .inl zM))] sz)) 0 0 (va_A [(y, .inr (2, [.int thr, .ref bH, .ref bS, .ref bL, .int mel, .ref bO, .ref bK, .ref bZ, .int sea, .int rnd, .int bas, .int lim, .ref bR, .ref bG, .ref bB, .ref bX])), (bH, .inl (cI, 34, .inl hM)), (bL, .inl (cI, 34, .inl lM)), (bZ, .inl (cZ, 4, .inl zM))] sz) := by
  refine Met.ofW (cc := cX2_common) (maxL := 8) (ret := (some .int)) (by decide) rfl ?_
  intro p e s m args below meth c s₁ B hml hv
  obtain ⟨rfl, hsz, hP, hK, hD0⟩ := hv
  have hx := B.exec
  have hb := B.bytes
  have hr := B.returns
  have hts := atoms_spec (ws := wsX2_common) B.pre
  have hown : s.vm.findClass RX2 = some m.cls := findClass_of_methodNamed B.named
  have hlocks := B.notSynchronized
  have hinX2 : ∀ w ∈ u_ws RX2 TX2 16, w ∈ wsX2_common := by decide +kernel
  subst hsz
  have hD := hD0.self (sz := s.heap.size)
  generalize hAe : va_A [(y, .inr (2, [.int thr, .ref bH, .ref bS, .ref bL, .int mel, .ref bO, .ref bK, .ref bZ, .int sea, .int rnd, .int bas, .int lim, .ref bR, .ref bG, .ref bB, .ref bX])), (bH, .inl (cI, 34, .inl hM)), (bL, .inl (cI, 34, .inl lM)), (bZ, .inl (cZ, 4, .inl zM))] s.heap.size = A at hD ⊢
  have hA : ∀ q : Nat, s.heap.size ≤ q → A q := fun q h => by rw [← hAe]; exact Or.inr h
  have hS : va_S A s.heap s.heap [] := va_S.rf
  have hl := lv_entry ([.ref y, .int p0]) (n := 8) (Nat.le_of_ble_eq_true rfl)
  rw [lg_entry_eq]
  generalize (lg_sl ([.ref y, .int p0]) ++ List.replicate (8 - (lg_sl ([.ref y, .int p0])).length) Slot.unset).toArray = ls at hl ⊢
  have hl : lv_has ls 8 [(0, .ref y), (1, .int p0)] := hl
  refine (?_ : ∀ Q9 : State → Prop, MQ below _ _ s _ _ _ = Q9 → W p l e ({ frames := 3, cells := 0, slots := 0, locals := 60 } : Room) s m _ below meth c s.heap [] 0 0 Q9 (F0 m 0 ls [])) _ rfl
  intro Q9 hQ9
  have hw : ((p0 = 0 → (w_X2_common_b9 post mel hM lM zM p0 (0 : Int32))) ∧ (¬ p0 = 0 → (w_X2_common_b9 post mel hM lM zM p0 (1 : Int32)))) := hw
  have L169 : ∀ (v2 : Int32) (v4 : Int32) (v5 : Int32) (H : Heap) (locs : List Loc) (ls : Array Slot), w_X2_common_b169 post mel hM lM zM p0 v2 v4 v5 → va_P (dC, dI) vwCl [(y, .inr (2, [.int thr, .ref bH, .ref bS, .ref bL, .int mel, .ref bO, .ref bK, .ref bZ, .int sea, .int rnd, .int bas, .int lim, .ref bR, .ref bG, .ref bB, .ref bX])), (bH, .inl (cI, 34, .inl hM)), (bL, .inl (cI, 34, .inl lM)), (bZ, .inl (cZ, 4, .inl zM))] H → va_D A [(y, .inr (2, [.int thr, .ref bH, .ref bS, .ref bL, .int mel, .ref bO, .ref bK, .ref bZ, .int sea, .int rnd, .int bas, .int lim, .ref bR, .ref bG, .ref bB, .ref bX])), (bH, .inl (cI, 34, .inl hM)), (bL, .inl (cI, 34, .inl lM)), (bZ, .inl (cZ, 4, .inl zM))] → va_S A s.heap H locs → lv_has ls 8 [(0, .ref y), (2, .int v2), (4, .int v4), (5, .int v5)] → W p l e ({ frames := 3, cells := 0, slots := 0, locals := 60 } : Room) s m ([.ref y, .int p0] : List Value).toArray below meth c H locs 0 0 Q9 (F0 m 169 ls []) := by
    intro v2 v4 v5 H locs ls hw hP hD hS hl
    refine lv_iload hx hb dX2_common_169 (lv_at hl 2 rfl) ?_
    have hPc := hP.sub (ws' := []) [] rfl
    have hDc := hD.sub (ws' := []) [] (by decide) rfl
    have hFc := va_free (wc := []) hD hS hA [] rfl
    refine va_calli (va_runS (As := [.int v4]) (rest := []) ⟨hx, hb, hml, hown, hts⟩ (c_J6_bitCount_0f7a4 l dC dI cI cZ H.size v4 _ hw) (va_cwS 1 hts gX2_common_J6_bitCount_0f7a4 rfl rfl rfl (by decide +kernel) ⟨Nat.le_of_ble_eq_true rfl, Nat.le_of_ble_eq_true rfl⟩) ⟨fun a U g mk q => by obtain ⟨q0, q1, qP, qK, qD⟩ := q; exact ⟨q0, q1, qP, va_K.moved (u := U) (U := U.calling g mk a) (Vm.Alike.refl U.vm) qK, qD⟩, fun U hU hW => ⟨rfl, by rw [hU], by rw [hU]; exact hPc, va_K.moved hW.alike hK, hDc.weaken (fun _ _ _ _ => trivial)⟩⟩ rfl rfl hl.1 rfl (lv_room (Nat.le_of_ble_eq_true rfl)) dX2_common_171 ⟨Nat.le_of_ble_eq_true rfl, Nat.le_of_ble_eq_true rfl⟩) hS (fun q _ h => hFc q h) hFc (fun r7 u t H1 locs ht hvm hw hB hz1 hk1 hS => ?_)
    obtain ⟨hP1, -, hD1⟩ := hB
    have hw := And.intro hw trivial
    try dsimp only at hw
    have hw := hw.1
    rw [ht] at hP1
    obtain ⟨hP, hD⟩ := va_join (wr := [(y, .inr (2, [.int thr, .ref bH, .ref bS, .ref bL, .int mel, .ref bO, .ref bK, .ref bZ, .int sea, .int rnd, .int bas, .int lim, .ref bR, .ref bG, .ref bB, .ref bX])), (bH, .inl (cI, 34, .inl hM)), (bL, .inl (cI, 34, .inl lM)), (bZ, .inl (cZ, 4, .inl zM))]) (w1 := []) hP hD [] [0, 1, 2, 3] rfl rfl (by decide) (by decide) hk1 hFc hP1 hD1
    generalize H1 = H at hP hS ⊢
    have hP : va_P (dC, dI) vwCl [(y, .inr (2, [.int thr, .ref bH, .ref bS, .ref bL, .int mel, .ref bO, .ref bK, .ref bZ, .int sea, .int rnd, .int bas, .int lim, .ref bR, .ref bG, .ref bB, .ref bX])), (bH, .inl (cI, 34, .inl hM)), (bL, .inl (cI, 34, .inl lM)), (bZ, .inl (cZ, 4, .inl zM))] H := hP
    have hD : va_D A [(y, .inr (2, [.int thr, .ref bH, .ref bS, .ref bL, .int mel, .ref bO, .ref bK, .ref bZ, .int sea, .int rnd, .int bas, .int lim, .ref bR, .ref bG, .ref bB, .ref bX])), (bH, .inl (cI, 34, .inl hM)), (bL, .inl (cI, 34, .inl lM)), (bZ, .inl (cZ, 4, .inl zM))] := hD
    refine lv_iconst (v := 1) hx hb dX2_common_174 (by decide) ?_
    refine lv_icmp_ne (tgt := 192) hx hb dX2_common_175 (by decide) (fun c8 => ?_) (fun c8 => ?_)
    · have hw := hw.2 c8
      refine lv_iload_n hx hb dX2_common_192 rfl (lv_at hl 1 rfl) ?_
      rw [← hQ9]
      exact W.iret (v := v2) hx hb hr (fun t ht hW => ⟨⟨v2, (), rfl, hw, by rw [ht]; exact hP, va_K.moved hW.alike hK, hD⟩, hS.F ht⟩) hS.2.2 dX2_common_193
    · have hw := hw.1 c8
      refine lv_iload_n hx hb dX2_common_178 rfl (lv_at hl 1 rfl) ?_
      refine lv_iload hx hb dX2_common_179 (lv_at hl 3 rfl) ?_
      refine lv_if_eq (tgt := 188) hx hb dX2_common_181 (by decide) (fun c9 => ?_) (fun c9 => ?_)
      · have hw := hw.1 c9
        refine lv_bipush (v := 6) hx hb dX2_common_188 (by decide) ?_
        refine lv_iadd hx hb dX2_common_190 ?_
        refine lv_istore_n (lv' := [(2, .int (v2 + (6 : Int32))), (0, .ref y), (4, .int v4), (5, .int v5)]) hx hb dX2_common_191 rfl hl (by decide) rfl (fun ls hl => ?_)
        refine lv_iload_n hx hb dX2_common_192 rfl (lv_at hl 0 rfl) ?_
        rw [← hQ9]
        exact W.iret (v := v2 + (6 : Int32)) hx hb hr (fun t ht hW => ⟨⟨v2 + (6 : Int32), (), rfl, hw, by rw [ht]; exact hP, va_K.moved hW.alike hK, hD⟩, hS.F ht⟩) hS.2.2 dX2_common_193
      · have hw := hw.2 c9
        refine lv_iconst (v := 3) hx hb dX2_common_184 (by decide) ?_
        refine lv_goto (tgt := 190) hx hb dX2_common_185 (by decide) ?_
        refine lv_iadd hx hb dX2_common_190 ?_
        refine lv_istore_n (lv' := [(2, .int (v2 + (3 : Int32))), (0, .ref y), (4, .int v4), (5, .int v5)]) hx hb dX2_common_191 rfl hl (by decide) rfl (fun ls hl => ?_)
        refine lv_iload_n hx hb dX2_common_192 rfl (lv_at hl 0 rfl) ?_
        rw [← hQ9]
        exact W.iret (v := v2 + (3 : Int32)) hx hb hr (fun t ht hW => ⟨⟨v2 + (3 : Int32), (), rfl, hw, by rw [ht]; exact hP, va_K.moved hW.alike hK, hD⟩, hS.F ht⟩) hS.2.2 dX2_common_193
  have L161 : ∀ (v2 : Int32) (v4 : Int32) (v5 : Int32) (H : Heap) (locs : List Loc) (ls : Array Slot), w_X2_common_b161 post mel hM lM zM p0 v2 v4 v5 → va_P (dC, dI) vwCl [(y, .inr (2, [.int thr, .ref bH, .ref bS, .ref bL, .int mel, .ref bO, .ref bK, .ref bZ, .int sea, .int rnd, .int bas, .int lim, .ref bR, .ref bG, .ref bB, .ref bX])), (bH, .inl (cI, 34, .inl hM)), (bL, .inl (cI, 34, .inl lM)), (bZ, .inl (cZ, 4, .inl zM))] H → va_D A [(y, .inr (2, [.int thr, .ref bH, .ref bS, .ref bL, .int mel, .ref bO, .ref bK, .ref bZ, .int sea, .int rnd, .int bas, .int lim, .ref bR, .ref bG, .ref bB, .ref bX])), (bH, .inl (cI, 34, .inl hM)), (bL, .inl (cI, 34, .inl lM)), (bZ, .inl (cZ, 4, .inl zM))] → va_S A s.heap H locs → lv_has ls 8 [(0, .ref y), (2, .int v2), (4, .int v4), (5, .int v5)] → W p l e ({ frames := 3, cells := 0, slots := 0, locals := 60 } : Room) s m ([.ref y, .int p0] : List Value).toArray below meth c H locs 0 0 Q9 (F0 m 161 ls []) := by
    intro v2 v4 v5 H locs ls hw hP hD hS hl
    refine lv_iload hx hb dX2_common_161 (lv_at hl 2 rfl) ?_
    refine lv_if_ne (tgt := 169) hx hb dX2_common_163 (by decide) (fun c6 => ?_) (fun c6 => ?_)
    · have hw := hw.2 c6
      exact L169 v2 v4 v5 _ _ _ hw hP hD hS (lv_sub hl [0, 1, 2, 3] rfl)
    · have hw := hw.1 c6
      refine lv_iinc (v := v2 + 6) (lv' := [(2, .int (v2 + 6)), (0, .ref y), (4, .int v4), (5, .int v5)]) hx hb dX2_common_166 hl (k := 1) rfl rfl (by decide) rfl (fun ls hl => ?_)
      exact L169 (v2 + 6) v4 v5 _ _ _ hw hP hD hS (lv_sub hl [1, 0, 2, 3] rfl)
  have L153 : ∀ (v2 : Int32) (v4 : Int32) (v5 : Int32) (v6 : Int32) (H : Heap) (locs : List Loc) (ls : Array Slot), w_X2_common_b153 post mel hM lM zM p0 v2 v4 v5 v6 → va_P (dC, dI) vwCl [(y, .inr (2, [.int thr, .ref bH, .ref bS, .ref bL, .int mel, .ref bO, .ref bK, .ref bZ, .int sea, .int rnd, .int bas, .int lim, .ref bR, .ref bG, .ref bB, .ref bX])), (bH, .inl (cI, 34, .inl hM)), (bL, .inl (cI, 34, .inl lM)), (bZ, .inl (cZ, 4, .inl zM))] H → va_D A [(y, .inr (2, [.int thr, .ref bH, .ref bS, .ref bL, .int mel, .ref bO, .ref bK, .ref bZ, .int sea, .int rnd, .int bas, .int lim, .ref bR, .ref bG, .ref bB, .ref bX])), (bH, .inl (cI, 34, .inl hM)), (bL, .inl (cI, 34, .inl lM)), (bZ, .inl (cZ, 4, .inl zM))] → va_S A s.heap H locs → lv_has ls 8 [(0, .ref y), (2, .int v2), (4, .int v4), (5, .int v5), (6, .int v6)] → W p l e ({ frames := 3, cells := 0, slots := 0, locals := 60 } : Room) s m ([.ref y, .int p0] : List Value).toArray below meth c H locs 0 0 Q9 (F0 m 153 ls []) := by
    intro v2 v4 v5 v6 H locs ls hw hP hD hS hl
    refine lv_iload hx hb dX2_common_153 (lv_at hl 4 rfl) ?_
    refine lv_if_ne (tgt := 161) hx hb dX2_common_155 (by decide) (fun c5 => ?_) (fun c5 => ?_)
    · have hw := hw.2 c5
      exact L161 v2 v4 v5 _ _ _ hw hP hD hS (lv_sub hl [0, 1, 2, 3] rfl)
    · have hw := hw.1 c5
      refine lv_iinc (v := v2 + 1) (lv' := [(2, .int (v2 + 1)), (0, .ref y), (4, .int v4), (5, .int v5), (6, .int v6)]) hx hb dX2_common_158 hl (k := 1) rfl rfl (by decide) rfl (fun ls hl => ?_)
      exact L161 (v2 + 1) v4 v5 _ _ _ hw hP hD hS (lv_sub hl [1, 0, 2, 3] rfl)
  have L147 : ∀ (K74 : Int32 → Int32 → Int32 → Int32 → Int32 → Prop) (hK74 : ∀ (v2 : Int32) (v4 : Int32) (v5 : Int32) (v6 : Int32) (v7 : Int32) (H : Heap) (locs : List Loc) (ls : Array Slot), K74 v2 v4 v5 v6 v7 → va_P (dC, dI) vwCl [(y, .inr (2, [.int thr, .ref bH, .ref bS, .ref bL, .int mel, .ref bO, .ref bK, .ref bZ, .int sea, .int rnd, .int bas, .int lim, .ref bR, .ref bG, .ref bB, .ref bX])), (bH, .inl (cI, 34, .inl hM)), (bL, .inl (cI, 34, .inl lM)), (bZ, .inl (cZ, 4, .inl zM))] H → va_D A [(y, .inr (2, [.int thr, .ref bH, .ref bS, .ref bL, .int mel, .ref bO, .ref bK, .ref bZ, .int sea, .int rnd, .int bas, .int lim, .ref bR, .ref bG, .ref bB, .ref bX])), (bH, .inl (cI, 34, .inl hM)), (bL, .inl (cI, 34, .inl lM)), (bZ, .inl (cZ, 4, .inl zM))] → va_S A s.heap H locs → lv_has ls 8 [(0, .ref y), (2, .int v2), (4, .int v4), (5, .int v5), (6, .int v6), (7, .int v7)] → W p l e ({ frames := 3, cells := 0, slots := 0, locals := 60 } : Room) s m ([.ref y, .int p0] : List Value).toArray below meth c H locs 0 0 Q9 (F0 m 74 ls [])), ∀ (v2 : Int32) (v4 : Int32) (v5 : Int32) (v6 : Int32) (v7 : Int32) (H : Heap) (locs : List Loc) (ls : Array Slot), w_X2_common_b147 post mel hM lM zM p0 K74 v2 v4 v5 v6 v7 → va_P (dC, dI) vwCl [(y, .inr (2, [.int thr, .ref bH, .ref bS, .ref bL, .int mel, .ref bO, .ref bK, .ref bZ, .int sea, .int rnd, .int bas, .int lim, .ref bR, .ref bG, .ref bB, .ref bX])), (bH, .inl (cI, 34, .inl hM)), (bL, .inl (cI, 34, .inl lM)), (bZ, .inl (cZ, 4, .inl zM))] H → va_D A [(y, .inr (2, [.int thr, .ref bH, .ref bS, .ref bL, .int mel, .ref bO, .ref bK, .ref bZ, .int sea, .int rnd, .int bas, .int lim, .ref bR, .ref bG, .ref bB, .ref bX])), (bH, .inl (cI, 34, .inl hM)), (bL, .inl (cI, 34, .inl lM)), (bZ, .inl (cZ, 4, .inl zM))] → va_S A s.heap H locs → lv_has ls 8 [(0, .ref y), (2, .int v2), (4, .int v4), (5, .int v5), (6, .int v6), (7, .int v7)] → W p l e ({ frames := 3, cells := 0, slots := 0, locals := 60 } : Room) s m ([.ref y, .int p0] : List Value).toArray below meth c H locs 0 0 Q9 (F0 m 147 ls []) := by
    intro K74 hK74 v2 v4 v5 v6 v7 H locs ls hw hP hD hS hl
    refine lv_iinc (v := v7 + 1) (lv' := [(7, .int (v7 + 1)), (0, .ref y), (2, .int v2), (4, .int v4), (5, .int v5), (6, .int v6)]) hx hb dX2_common_147 hl (k := 5) rfl rfl (by decide) rfl (fun ls hl => ?_)
    refine lv_goto (tgt := 74) hx hb dX2_common_150 (by decide) ?_
    exact hK74 v2 v4 v5 v6 (v7 + 1) _ _ _ hw hP hD hS (lv_sub hl [1, 2, 3, 4, 5, 0] rfl)
  have L120 : ∀ (K74 : Int32 → Int32 → Int32 → Int32 → Int32 → Prop) (hK74 : ∀ (v2 : Int32) (v4 : Int32) (v5 : Int32) (v6 : Int32) (v7 : Int32) (H : Heap) (locs : List Loc) (ls : Array Slot), K74 v2 v4 v5 v6 v7 → va_P (dC, dI) vwCl [(y, .inr (2, [.int thr, .ref bH, .ref bS, .ref bL, .int mel, .ref bO, .ref bK, .ref bZ, .int sea, .int rnd, .int bas, .int lim, .ref bR, .ref bG, .ref bB, .ref bX])), (bH, .inl (cI, 34, .inl hM)), (bL, .inl (cI, 34, .inl lM)), (bZ, .inl (cZ, 4, .inl zM))] H → va_D A [(y, .inr (2, [.int thr, .ref bH, .ref bS, .ref bL, .int mel, .ref bO, .ref bK, .ref bZ, .int sea, .int rnd, .int bas, .int lim, .ref bR, .ref bG, .ref bB, .ref bX])), (bH, .inl (cI, 34, .inl hM)), (bL, .inl (cI, 34, .inl lM)), (bZ, .inl (cZ, 4, .inl zM))] → va_S A s.heap H locs → lv_has ls 8 [(0, .ref y), (2, .int v2), (4, .int v4), (5, .int v5), (6, .int v6), (7, .int v7)] → W p l e ({ frames := 3, cells := 0, slots := 0, locals := 60 } : Room) s m ([.ref y, .int p0] : List Value).toArray below meth c H locs 0 0 Q9 (F0 m 74 ls [])), ∀ (v2 : Int32) (v4 : Int32) (v5 : Int32) (v7 : Int32) (s1 : Int32) (H : Heap) (locs : List Loc) (ls : Array Slot), w_X2_common_b120 post mel hM lM zM p0 K74 v2 v4 v5 v7 s1 → va_P (dC, dI) vwCl [(y, .inr (2, [.int thr, .ref bH, .ref bS, .ref bL, .int mel, .ref bO, .ref bK, .ref bZ, .int sea, .int rnd, .int bas, .int lim, .ref bR, .ref bG, .ref bB, .ref bX])), (bH, .inl (cI, 34, .inl hM)), (bL, .inl (cI, 34, .inl lM)), (bZ, .inl (cZ, 4, .inl zM))] H → va_D A [(y, .inr (2, [.int thr, .ref bH, .ref bS, .ref bL, .int mel, .ref bO, .ref bK, .ref bZ, .int sea, .int rnd, .int bas, .int lim, .ref bR, .ref bG, .ref bB, .ref bX])), (bH, .inl (cI, 34, .inl hM)), (bL, .inl (cI, 34, .inl lM)), (bZ, .inl (cZ, 4, .inl zM))] → va_S A s.heap H locs → lv_has ls 8 [(0, .ref y), (2, .int v2), (4, .int v4), (5, .int v5), (7, .int v7)] → W p l e ({ frames := 3, cells := 0, slots := 0, locals := 60 } : Room) s m ([.ref y, .int p0] : List Value).toArray below meth c H locs 0 0 Q9 (F0 m 120 ls [.int s1]) := by
    intro K74 hK74 v2 v4 v5 v7 s1 H locs ls hw hP hD hS hl
    refine lv_istore (lv' := [(6, .int s1), (0, .ref y), (2, .int v2), (4, .int v4), (5, .int v5), (7, .int v7)]) hx hb dX2_common_120 hl (by decide) rfl (fun ls hl => ?_)
    refine lv_iload hx hb dX2_common_122 (lv_at hl 5 rfl) ?_
    refine lv_bipush (v := 27) hx hb dX2_common_124 (by decide) ?_
    refine lv_icmp_lt (tgt := 135) hx hb dX2_common_126 (by decide) (fun c14 => ?_) (fun c14 => ?_)
    · have hw := hw.1 c14
      refine lv_iload hx hb dX2_common_135 (lv_at hl 3 rfl) ?_
      refine lv_iconst (v := 1) hx hb dX2_common_137 (by decide) ?_
      refine lv_iload hx hb dX2_common_138 (lv_at hl 5 rfl) ?_
      refine lv_bipush (v := 9) hx hb dX2_common_140 (by decide) ?_
      refine lv_idiv hx hb dX2_common_142 (by decide) ?_
      refine lv_ishl hx hb dX2_common_143 ?_
      refine lv_ior hx hb dX2_common_144 ?_
      refine lv_topi (fun t15 et15 => ?_)
      have hw := hw t15 et15
      refine lv_istore (lv' := [(4, .int t15), (6, .int s1), (0, .ref y), (2, .int v2), (5, .int v5), (7, .int v7)]) hx hb dX2_common_145 hl (by decide) rfl (fun ls hl => ?_)
      exact L147 K74 hK74 v2 t15 v5 s1 v7 _ _ _ hw hP hD hS (lv_sub hl [2, 3, 0, 4, 1, 5] rfl)
    · have hw := hw.2 c14
      refine lv_iconst (v := 1) hx hb dX2_common_129 (by decide) ?_
      refine lv_istore (lv' := [(5, .int (1 : Int32)), (6, .int s1), (0, .ref y), (2, .int v2), (4, .int v4), (7, .int v7)]) hx hb dX2_common_130 hl (by decide) rfl (fun ls hl => ?_)
      refine lv_goto (tgt := 147) hx hb dX2_common_132 (by decide) ?_
      exact L147 K74 hK74 v2 v4 (1 : Int32) s1 v7 _ _ _ hw hP hD hS (lv_sub hl [2, 3, 4, 0, 1, 5] rfl)
  have L115 : ∀ (K74 : Int32 → Int32 → Int32 → Int32 → Int32 → Prop) (hK74 : ∀ (v2 : Int32) (v4 : Int32) (v5 : Int32) (v6 : Int32) (v7 : Int32) (H : Heap) (locs : List Loc) (ls : Array Slot), K74 v2 v4 v5 v6 v7 → va_P (dC, dI) vwCl [(y, .inr (2, [.int thr, .ref bH, .ref bS, .ref bL, .int mel, .ref bO, .ref bK, .ref bZ, .int sea, .int rnd, .int bas, .int lim, .ref bR, .ref bG, .ref bB, .ref bX])), (bH, .inl (cI, 34, .inl hM)), (bL, .inl (cI, 34, .inl lM)), (bZ, .inl (cZ, 4, .inl zM))] H → va_D A [(y, .inr (2, [.int thr, .ref bH, .ref bS, .ref bL, .int mel, .ref bO, .ref bK, .ref bZ, .int sea, .int rnd, .int bas, .int lim, .ref bR, .ref bG, .ref bB, .ref bX])), (bH, .inl (cI, 34, .inl hM)), (bL, .inl (cI, 34, .inl lM)), (bZ, .inl (cZ, 4, .inl zM))] → va_S A s.heap H locs → lv_has ls 8 [(0, .ref y), (2, .int v2), (4, .int v4), (5, .int v5), (6, .int v6), (7, .int v7)] → W p l e ({ frames := 3, cells := 0, slots := 0, locals := 60 } : Room) s m ([.ref y, .int p0] : List Value).toArray below meth c H locs 0 0 Q9 (F0 m 74 ls [])), ∀ (v2 : Int32) (v4 : Int32) (v5 : Int32) (v7 : Int32) (H : Heap) (locs : List Loc) (ls : Array Slot), w_X2_common_b115 post mel hM lM zM p0 K74 v2 v4 v5 v7 → va_P (dC, dI) vwCl [(y, .inr (2, [.int thr, .ref bH, .ref bS, .ref bL, .int mel, .ref bO, .ref bK, .ref bZ, .int sea, .int rnd, .int bas, .int lim, .ref bR, .ref bG, .ref bB, .ref bX])), (bH, .inl (cI, 34, .inl hM)), (bL, .inl (cI, 34, .inl lM)), (bZ, .inl (cZ, 4, .inl zM))] H → va_D A [(y, .inr (2, [.int thr, .ref bH, .ref bS, .ref bL, .int mel, .ref bO, .ref bK, .ref bZ, .int sea, .int rnd, .int bas, .int lim, .ref bR, .ref bG, .ref bB, .ref bX])), (bH, .inl (cI, 34, .inl hM)), (bL, .inl (cI, 34, .inl lM)), (bZ, .inl (cZ, 4, .inl zM))] → va_S A s.heap H locs → lv_has ls 8 [(0, .ref y), (2, .int v2), (4, .int v4), (5, .int v5), (7, .int v7)] → W p l e ({ frames := 3, cells := 0, slots := 0, locals := 60 } : Room) s m ([.ref y, .int p0] : List Value).toArray below meth c H locs 0 0 Q9 (F0 m 115 ls []) := by
    intro K74 hK74 v2 v4 v5 v7 H locs ls hw hP hD hS hl
    refine lv_iconst (v := 1) hx hb dX2_common_115 (by decide) ?_
    refine lv_goto (tgt := 120) hx hb dX2_common_116 (by decide) ?_
    exact L120 K74 hK74 v2 v4 v5 v7 (1 : Int32) _ _ _ hw hP hD hS (lv_sub hl [0, 1, 2, 3, 4] rfl)
  have L74 : ∀ (n : Nat), ∀ (v2 : Int32) (v4 : Int32) (v5 : Int32) (v6 : Int32) (v7 : Int32) (H : Heap) (locs : List Loc) (ls : Array Slot), w_X2_common_b74 post mel hM lM zM p0 n v2 v4 v5 v6 v7 → va_P (dC, dI) vwCl [(y, .inr (2, [.int thr, .ref bH, .ref bS, .ref bL, .int mel, .ref bO, .ref bK, .ref bZ, .int sea, .int rnd, .int bas, .int lim, .ref bR, .ref bG, .ref bB, .ref bX])), (bH, .inl (cI, 34, .inl hM)), (bL, .inl (cI, 34, .inl lM)), (bZ, .inl (cZ, 4, .inl zM))] H → va_D A [(y, .inr (2, [.int thr, .ref bH, .ref bS, .ref bL, .int mel, .ref bO, .ref bK, .ref bZ, .int sea, .int rnd, .int bas, .int lim, .ref bR, .ref bG, .ref bB, .ref bX])), (bH, .inl (cI, 34, .inl hM)), (bL, .inl (cI, 34, .inl lM)), (bZ, .inl (cZ, 4, .inl zM))] → va_S A s.heap H locs → lv_has ls 8 [(0, .ref y), (2, .int v2), (4, .int v4), (5, .int v5), (6, .int v6), (7, .int v7)] → W p l e ({ frames := 3, cells := 0, slots := 0, locals := 60 } : Room) s m ([.ref y, .int p0] : List Value).toArray below meth c H locs 0 0 Q9 (F0 m 74 ls []) := by
    intro n
    induction n with
    | zero => intro v2 v4 v5 v6 v7 H locs ls hw _ _ _ _; exact False.elim hw
    | succ n ih =>
      intro v2 v4 v5 v6 v7 H locs ls hw hP hD hS hl
      refine lv_iload hx hb dX2_common_74 (lv_at hl 5 rfl) ?_
      refine lv_bipush (v := 34) hx hb dX2_common_76 (by decide) ?_
      refine lv_icmp_ge (tgt := 153) hx hb dX2_common_78 (by decide) (fun c4 => ?_) (fun c4 => ?_)
      · have hw := hw.1 c4
        exact L153 v2 v4 v5 v6 _ _ _ hw hP hD hS (lv_sub hl [0, 1, 2, 3, 4] rfl)
      · have hw := hw.2 c4
        refine lv_aload_n hx hb dX2_common_81 rfl (lv_at hl 0 rfl) ?_
        refine va_get (D := (dC, dI)) (ci := 2) (v := .ref bH) (C := RX2) (T := TX2) (N := 16) hx hb hts hinX2 hown hK hP 0 rfl rfl 1 (by decide) (hts (.fieldLink RX2 9 "TileHandModel" "hand" "[I") (by decide +kernel)) (fun _ h9 => h9) rfl dX2_common_82 ?_
        refine lv_iload hx hb dX2_common_85 (lv_at hl 5 rfl) ?_
        obtain ⟨h10, hw⟩ := hw
        refine va_iald hx hb hK hP 1 0 rfl rfl h10 dX2_common_87 ?_
        refine lv_aload_n hx hb dX2_common_88 rfl (lv_at hl 0 rfl) ?_
        refine va_get (D := (dC, dI)) (ci := 2) (v := .ref bL) (C := RX2) (T := TX2) (N := 16) hx hb hts hinX2 hown hK hP 0 rfl rfl 3 (by decide) (hts (.fieldLink RX2 16 "TileHandModel" "laid" "[I") (by decide +kernel)) (fun _ h9 => h9) rfl dX2_common_89 ?_
        refine lv_iload hx hb dX2_common_92 (lv_at hl 5 rfl) ?_
        obtain ⟨h11, hw⟩ := hw
        refine va_iald hx hb hK hP 2 0 rfl rfl h11 dX2_common_94 ?_
        refine lv_iadd hx hb dX2_common_95 ?_
        refine lv_if_ne (tgt := 102) hx hb dX2_common_96 (by decide) (fun c12 => ?_) (fun c12 => ?_)
        · have hw := hw.2 c12
          refine lv_iload hx hb dX2_common_102 (lv_at hl 4 rfl) ?_
          refine lv_if_ne (tgt := 115) hx hb dX2_common_104 (by decide) (fun c13 => ?_) (fun c13 => ?_)
          · have hw := hw.2 c13
            exact L115 (w_X2_common_b74 post mel hM lM zM p0 n) ih v2 v4 v5 v7 _ _ _ hw hP hD hS (lv_sub hl [0, 1, 2, 3, 5] rfl)
          · have hw := hw.1 c13
            refine lv_iload hx hb dX2_common_107 (lv_at hl 5 rfl) ?_
            have hPc := hP.sub (ws' := []) [] rfl
            have hDc := hD.sub (ws' := []) [] (by decide) rfl
            have hFc := va_free (wc := []) hD hS hA [] rfl
            refine va_calli (va_runS (As := [.int v7]) (rest := []) ⟨hx, hb, hml, hown, hts⟩ (c_X2_isOuter l dC dI cI cZ H.size v7 _ hw) (va_cwS 1 hts gX2_common_X2_isOuter rfl rfl rfl (by decide +kernel) ⟨Nat.le_of_ble_eq_true rfl, Nat.le_of_ble_eq_true rfl⟩) ⟨fun a U g mk q => by obtain ⟨q0, q1, qP, qK, qD⟩ := q; exact ⟨q0, q1, qP, va_K.moved (u := U) (U := U.calling g mk a) (Vm.Alike.refl U.vm) qK, qD⟩, fun U hU hW => ⟨rfl, by rw [hU], by rw [hU]; exact hPc, va_K.moved hW.alike hK, hDc.weaken (fun _ _ _ _ => trivial)⟩⟩ rfl rfl hl.1 rfl (lv_room (Nat.le_of_ble_eq_true rfl)) dX2_common_109 ⟨Nat.le_of_ble_eq_true rfl, Nat.le_of_ble_eq_true rfl⟩) hS (fun q _ h => hFc q h) hFc (fun r16 u t H1 locs ht hvm hw hB hz1 hk1 hS => ?_)
            obtain ⟨hP1, -, hD1⟩ := hB
            have hw := And.intro hw trivial
            try dsimp only at hw
            have hw := hw.1
            rw [ht] at hP1
            obtain ⟨hP, hD⟩ := va_join (wr := [(y, .inr (2, [.int thr, .ref bH, .ref bS, .ref bL, .int mel, .ref bO, .ref bK, .ref bZ, .int sea, .int rnd, .int bas, .int lim, .ref bR, .ref bG, .ref bB, .ref bX])), (bH, .inl (cI, 34, .inl hM)), (bL, .inl (cI, 34, .inl lM)), (bZ, .inl (cZ, 4, .inl zM))]) (w1 := []) hP hD [] [0, 1, 2, 3] rfl rfl (by decide) (by decide) hk1 hFc hP1 hD1
            generalize H1 = H at hP hS ⊢
            have hP : va_P (dC, dI) vwCl [(y, .inr (2, [.int thr, .ref bH, .ref bS, .ref bL, .int mel, .ref bO, .ref bK, .ref bZ, .int sea, .int rnd, .int bas, .int lim, .ref bR, .ref bG, .ref bB, .ref bX])), (bH, .inl (cI, 34, .inl hM)), (bL, .inl (cI, 34, .inl lM)), (bZ, .inl (cZ, 4, .inl zM))] H := hP
            have hD : va_D A [(y, .inr (2, [.int thr, .ref bH, .ref bS, .ref bL, .int mel, .ref bO, .ref bK, .ref bZ, .int sea, .int rnd, .int bas, .int lim, .ref bR, .ref bG, .ref bB, .ref bX])), (bH, .inl (cI, 34, .inl hM)), (bL, .inl (cI, 34, .inl lM)), (bZ, .inl (cZ, 4, .inl zM))] := hD
            refine lv_if_eq (tgt := 119) hx hb dX2_common_112 (by decide) (fun c17 => ?_) (fun c17 => ?_)
            · have hw := hw.1 c17
              refine lv_iconst (v := 0) hx hb dX2_common_119 (by decide) ?_
              exact L120 (w_X2_common_b74 post mel hM lM zM p0 n) ih v2 v4 v5 v7 (0 : Int32) _ _ _ hw hP hD hS (lv_sub hl [0, 1, 2, 3, 5] rfl)
            · have hw := hw.2 c17
              exact L115 (w_X2_common_b74 post mel hM lM zM p0 n) ih v2 v4 v5 v7 _ _ _ hw hP hD hS (lv_sub hl [0, 1, 2, 3, 5] rfl)
        · have hw := hw.1 c12
          refine lv_goto (tgt := 147) hx hb dX2_common_99 (by decide) ?_
          exact L147 (w_X2_common_b74 post mel hM lM zM p0 n) ih v2 v4 v5 v6 v7 _ _ _ hw hP hD hS (lv_sub hl [0, 1, 2, 3, 4, 5] rfl)
  have L60 : ∀ (s2 : Int32) (s1 : Int32) (H : Heap) (locs : List Loc) (ls : Array Slot), w_X2_common_b60 post mel hM lM zM p0 s2 s1 → va_P (dC, dI) vwCl [(y, .inr (2, [.int thr, .ref bH, .ref bS, .ref bL, .int mel, .ref bO, .ref bK, .ref bZ, .int sea, .int rnd, .int bas, .int lim, .ref bR, .ref bG, .ref bB, .ref bX])), (bH, .inl (cI, 34, .inl hM)), (bL, .inl (cI, 34, .inl lM)), (bZ, .inl (cZ, 4, .inl zM))] H → va_D A [(y, .inr (2, [.int thr, .ref bH, .ref bS, .ref bL, .int mel, .ref bO, .ref bK, .ref bZ, .int sea, .int rnd, .int bas, .int lim, .ref bR, .ref bG, .ref bB, .ref bX])), (bH, .inl (cI, 34, .inl hM)), (bL, .inl (cI, 34, .inl lM)), (bZ, .inl (cZ, 4, .inl zM))] → va_S A s.heap H locs → lv_has ls 8 [(0, .ref y)] → W p l e ({ frames := 3, cells := 0, slots := 0, locals := 60 } : Room) s m ([.ref y, .int p0] : List Value).toArray below meth c H locs 0 0 Q9 (F0 m 60 ls [.int s2, .int s1]) := by
    intro s2 s1 H locs ls hw hP hD hS hl
    refine lv_iadd hx hb dX2_common_60 ?_
    refine lv_istore_n (lv' := [(2, .int (s1 + s2)), (0, .ref y)]) hx hb dX2_common_61 rfl hl (by decide) rfl (fun ls hl => ?_)
    refine lv_iconst (v := 0) hx hb dX2_common_62 (by decide) ?_
    refine lv_istore (lv' := [(4, .int (0 : Int32)), (2, .int (s1 + s2)), (0, .ref y)]) hx hb dX2_common_63 hl (by decide) rfl (fun ls hl => ?_)
    refine lv_iconst (v := 0) hx hb dX2_common_65 (by decide) ?_
    refine lv_istore (lv' := [(5, .int (0 : Int32)), (4, .int (0 : Int32)), (2, .int (s1 + s2)), (0, .ref y)]) hx hb dX2_common_66 hl (by decide) rfl (fun ls hl => ?_)
    refine lv_iconst (v := 0) hx hb dX2_common_68 (by decide) ?_
    refine lv_istore (lv' := [(6, .int (0 : Int32)), (5, .int (0 : Int32)), (4, .int (0 : Int32)), (2, .int (s1 + s2)), (0, .ref y)]) hx hb dX2_common_69 hl (by decide) rfl (fun ls hl => ?_)
    refine lv_iconst (v := 0) hx hb dX2_common_71 (by decide) ?_
    refine lv_istore (lv' := [(7, .int (0 : Int32)), (6, .int (0 : Int32)), (5, .int (0 : Int32)), (4, .int (0 : Int32)), (2, .int (s1 + s2)), (0, .ref y)]) hx hb dX2_common_72 hl (by decide) rfl (fun ls hl => ?_)
    obtain ⟨n9, hw⟩ := hw
    exact L74 n9 (s1 + s2) (0 : Int32) (0 : Int32) (0 : Int32) (0 : Int32) _ _ _ hw hP hD hS (lv_sub hl [5, 4, 3, 2, 1, 0] rfl)
  have L50 : ∀ (v2 : Int32) (v3 : Int32) (H : Heap) (locs : List Loc) (ls : Array Slot), w_X2_common_b50 post mel hM lM zM p0 v2 v3 → va_P (dC, dI) vwCl [(y, .inr (2, [.int thr, .ref bH, .ref bS, .ref bL, .int mel, .ref bO, .ref bK, .ref bZ, .int sea, .int rnd, .int bas, .int lim, .ref bR, .ref bG, .ref bB, .ref bX])), (bH, .inl (cI, 34, .inl hM)), (bL, .inl (cI, 34, .inl lM)), (bZ, .inl (cZ, 4, .inl zM))] H → va_D A [(y, .inr (2, [.int thr, .ref bH, .ref bS, .ref bL, .int mel, .ref bO, .ref bK, .ref bZ, .int sea, .int rnd, .int bas, .int lim, .ref bR, .ref bG, .ref bB, .ref bX])), (bH, .inl (cI, 34, .inl hM)), (bL, .inl (cI, 34, .inl lM)), (bZ, .inl (cZ, 4, .inl zM))] → va_S A s.heap H locs → lv_has ls 8 [(0, .ref y), (2, .int v2), (3, .int v3)] → W p l e ({ frames := 3, cells := 0, slots := 0, locals := 60 } : Room) s m ([.ref y, .int p0] : List Value).toArray below meth c H locs 0 0 Q9 (F0 m 50 ls []) := by
    intro v2 v3 H locs ls hw hP hD hS hl
    refine lv_iload_n hx hb dX2_common_50 rfl (lv_at hl 1 rfl) ?_
    refine lv_iload_n hx hb dX2_common_51 rfl (lv_at hl 2 rfl) ?_
    refine lv_if_eq (tgt := 59) hx hb dX2_common_52 (by decide) (fun c3 => ?_) (fun c3 => ?_)
    · have hw := hw.1 c3
      refine lv_iconst (v := 0) hx hb dX2_common_59 (by decide) ?_
      exact L60 (0 : Int32) v2 _ _ _ hw hP hD hS (lv_sub hl [0] rfl)
    · have hw := hw.2 c3
      refine lv_iconst (v := 1) hx hb dX2_common_55 (by decide) ?_
      refine lv_goto (tgt := 60) hx hb dX2_common_56 (by decide) ?_
      exact L60 (1 : Int32) v2 _ _ _ hw hP hD hS (lv_sub hl [0] rfl)
  have L43 : ∀ (K15 : Int32 → Int32 → Int32 → Prop) (hK15 : ∀ (v2 : Int32) (v3 : Int32) (v4 : Int32) (H : Heap) (locs : List Loc) (ls : Array Slot), K15 v2 v3 v4 → va_P (dC, dI) vwCl [(y, .inr (2, [.int thr, .ref bH, .ref bS, .ref bL, .int mel, .ref bO, .ref bK, .ref bZ, .int sea, .int rnd, .int bas, .int lim, .ref bR, .ref bG, .ref bB, .ref bX])), (bH, .inl (cI, 34, .inl hM)), (bL, .inl (cI, 34, .inl lM)), (bZ, .inl (cZ, 4, .inl zM))] H → va_D A [(y, .inr (2, [.int thr, .ref bH, .ref bS, .ref bL, .int mel, .ref bO, .ref bK, .ref bZ, .int sea, .int rnd, .int bas, .int lim, .ref bR, .ref bG, .ref bB, .ref bX])), (bH, .inl (cI, 34, .inl hM)), (bL, .inl (cI, 34, .inl lM)), (bZ, .inl (cZ, 4, .inl zM))] → va_S A s.heap H locs → lv_has ls 8 [(0, .ref y), (2, .int v2), (3, .int v3), (4, .int v4)] → W p l e ({ frames := 3, cells := 0, slots := 0, locals := 60 } : Room) s m ([.ref y, .int p0] : List Value).toArray below meth c H locs 0 0 Q9 (F0 m 15 ls [])), ∀ (v2 : Int32) (v4 : Int32) (s1 : Int32) (H : Heap) (locs : List Loc) (ls : Array Slot), w_X2_common_b43 post mel hM lM zM p0 K15 v2 v4 s1 → va_P (dC, dI) vwCl [(y, .inr (2, [.int thr, .ref bH, .ref bS, .ref bL, .int mel, .ref bO, .ref bK, .ref bZ, .int sea, .int rnd, .int bas, .int lim, .ref bR, .ref bG, .ref bB, .ref bX])), (bH, .inl (cI, 34, .inl hM)), (bL, .inl (cI, 34, .inl lM)), (bZ, .inl (cZ, 4, .inl zM))] H → va_D A [(y, .inr (2, [.int thr, .ref bH, .ref bS, .ref bL, .int mel, .ref bO, .ref bK, .ref bZ, .int sea, .int rnd, .int bas, .int lim, .ref bR, .ref bG, .ref bB, .ref bX])), (bH, .inl (cI, 34, .inl hM)), (bL, .inl (cI, 34, .inl lM)), (bZ, .inl (cZ, 4, .inl zM))] → va_S A s.heap H locs → lv_has ls 8 [(0, .ref y), (2, .int v2), (4, .int v4)] → W p l e ({ frames := 3, cells := 0, slots := 0, locals := 60 } : Room) s m ([.ref y, .int p0] : List Value).toArray below meth c H locs 0 0 Q9 (F0 m 43 ls [.int s1]) := by
    intro K15 hK15 v2 v4 s1 H locs ls hw hP hD hS hl
    refine lv_istore_n (lv' := [(3, .int s1), (0, .ref y), (2, .int v2), (4, .int v4)]) hx hb dX2_common_43 rfl hl (by decide) rfl (fun ls hl => ?_)
    refine lv_iinc (v := v4 + 1) (lv' := [(4, .int (v4 + 1)), (3, .int s1), (0, .ref y), (2, .int v2)]) hx hb dX2_common_44 hl (k := 3) rfl rfl (by decide) rfl (fun ls hl => ?_)
    refine lv_goto (tgt := 15) hx hb dX2_common_47 (by decide) ?_
    exact hK15 v2 s1 (v4 + 1) _ _ _ hw hP hD hS (lv_sub hl [2, 3, 1, 0] rfl)
  have L42 : ∀ (K15 : Int32 → Int32 → Int32 → Prop) (hK15 : ∀ (v2 : Int32) (v3 : Int32) (v4 : Int32) (H : Heap) (locs : List Loc) (ls : Array Slot), K15 v2 v3 v4 → va_P (dC, dI) vwCl [(y, .inr (2, [.int thr, .ref bH, .ref bS, .ref bL, .int mel, .ref bO, .ref bK, .ref bZ, .int sea, .int rnd, .int bas, .int lim, .ref bR, .ref bG, .ref bB, .ref bX])), (bH, .inl (cI, 34, .inl hM)), (bL, .inl (cI, 34, .inl lM)), (bZ, .inl (cZ, 4, .inl zM))] H → va_D A [(y, .inr (2, [.int thr, .ref bH, .ref bS, .ref bL, .int mel, .ref bO, .ref bK, .ref bZ, .int sea, .int rnd, .int bas, .int lim, .ref bR, .ref bG, .ref bB, .ref bX])), (bH, .inl (cI, 34, .inl hM)), (bL, .inl (cI, 34, .inl lM)), (bZ, .inl (cZ, 4, .inl zM))] → va_S A s.heap H locs → lv_has ls 8 [(0, .ref y), (2, .int v2), (3, .int v3), (4, .int v4)] → W p l e ({ frames := 3, cells := 0, slots := 0, locals := 60 } : Room) s m ([.ref y, .int p0] : List Value).toArray below meth c H locs 0 0 Q9 (F0 m 15 ls [])), ∀ (v2 : Int32) (v4 : Int32) (H : Heap) (locs : List Loc) (ls : Array Slot), w_X2_common_b42 post mel hM lM zM p0 K15 v2 v4 → va_P (dC, dI) vwCl [(y, .inr (2, [.int thr, .ref bH, .ref bS, .ref bL, .int mel, .ref bO, .ref bK, .ref bZ, .int sea, .int rnd, .int bas, .int lim, .ref bR, .ref bG, .ref bB, .ref bX])), (bH, .inl (cI, 34, .inl hM)), (bL, .inl (cI, 34, .inl lM)), (bZ, .inl (cZ, 4, .inl zM))] H → va_D A [(y, .inr (2, [.int thr, .ref bH, .ref bS, .ref bL, .int mel, .ref bO, .ref bK, .ref bZ, .int sea, .int rnd, .int bas, .int lim, .ref bR, .ref bG, .ref bB, .ref bX])), (bH, .inl (cI, 34, .inl hM)), (bL, .inl (cI, 34, .inl lM)), (bZ, .inl (cZ, 4, .inl zM))] → va_S A s.heap H locs → lv_has ls 8 [(0, .ref y), (2, .int v2), (4, .int v4)] → W p l e ({ frames := 3, cells := 0, slots := 0, locals := 60 } : Room) s m ([.ref y, .int p0] : List Value).toArray below meth c H locs 0 0 Q9 (F0 m 42 ls []) := by
    intro K15 hK15 v2 v4 H locs ls hw hP hD hS hl
    refine lv_iconst (v := 0) hx hb dX2_common_42 (by decide) ?_
    exact L43 K15 hK15 v2 v4 (0 : Int32) _ _ _ hw hP hD hS (lv_sub hl [0, 1, 2] rfl)
  have L15 : ∀ (n : Nat), ∀ (v2 : Int32) (v3 : Int32) (v4 : Int32) (H : Heap) (locs : List Loc) (ls : Array Slot), w_X2_common_b15 post mel hM lM zM p0 n v2 v3 v4 → va_P (dC, dI) vwCl [(y, .inr (2, [.int thr, .ref bH, .ref bS, .ref bL, .int mel, .ref bO, .ref bK, .ref bZ, .int sea, .int rnd, .int bas, .int lim, .ref bR, .ref bG, .ref bB, .ref bX])), (bH, .inl (cI, 34, .inl hM)), (bL, .inl (cI, 34, .inl lM)), (bZ, .inl (cZ, 4, .inl zM))] H → va_D A [(y, .inr (2, [.int thr, .ref bH, .ref bS, .ref bL, .int mel, .ref bO, .ref bK, .ref bZ, .int sea, .int rnd, .int bas, .int lim, .ref bR, .ref bG, .ref bB, .ref bX])), (bH, .inl (cI, 34, .inl hM)), (bL, .inl (cI, 34, .inl lM)), (bZ, .inl (cZ, 4, .inl zM))] → va_S A s.heap H locs → lv_has ls 8 [(0, .ref y), (2, .int v2), (3, .int v3), (4, .int v4)] → W p l e ({ frames := 3, cells := 0, slots := 0, locals := 60 } : Room) s m ([.ref y, .int p0] : List Value).toArray below meth c H locs 0 0 Q9 (F0 m 15 ls []) := by
    intro n
    induction n with
    | zero => intro v2 v3 v4 H locs ls hw _ _ _ _; exact False.elim hw
    | succ n ih =>
      intro v2 v3 v4 H locs ls hw hP hD hS hl
      refine lv_iload hx hb dX2_common_15 (lv_at hl 3 rfl) ?_
      refine lv_aload_n hx hb dX2_common_17 rfl (lv_at hl 0 rfl) ?_
      refine va_get (D := (dC, dI)) (ci := 2) (v := .int mel) (C := RX2) (T := TX2) (N := 16) hx hb hts hinX2 hown hK hP 0 rfl rfl 4 (by decide) (hts (.fieldLink RX2 69 "TileHandModel" "melds" "I") (by decide +kernel)) (fun _ h9 => h9) rfl dX2_common_18 ?_
      refine lv_icmp_ge (tgt := 50) hx hb dX2_common_21 (by decide) (fun c2 => ?_) (fun c2 => ?_)
      · have hw := hw.1 c2
        exact L50 v2 v3 _ _ _ hw hP hD hS (lv_sub hl [0, 1, 2] rfl)
      · have hw := hw.2 c2
        refine lv_iload_n hx hb dX2_common_24 rfl (lv_at hl 2 rfl) ?_
        refine lv_if_eq (tgt := 42) hx hb dX2_common_25 (by decide) (fun c18 => ?_) (fun c18 => ?_)
        · have hw := hw.1 c18
          exact L42 (w_X2_common_b15 post mel hM lM zM p0 n) ih v2 v4 _ _ _ hw hP hD hS (lv_sub hl [0, 1, 3] rfl)
        · have hw := hw.2 c18
          refine lv_aload_n hx hb dX2_common_28 rfl (lv_at hl 0 rfl) ?_
          refine va_get (D := (dC, dI)) (ci := 2) (v := .ref bZ) (C := RX2) (T := TX2) (N := 16) hx hb hts hinX2 hown hK hP 0 rfl rfl 7 (by decide) (hts (.fieldLink RX2 25 "TileHandModel" "areOpen" "[Z") (by decide +kernel)) (fun _ h9 => h9) rfl dX2_common_29 ?_
          refine lv_iload hx hb dX2_common_32 (lv_at hl 3 rfl) ?_
          obtain ⟨h19, hw⟩ := hw
          refine va_zald hx hb hK hP 3 1 rfl rfl h19 dX2_common_34 ?_
          refine lv_if_ne (tgt := 42) hx hb dX2_common_35 (by decide) (fun c20 => ?_) (fun c20 => ?_)
          · have hw := hw.2 c20
            exact L42 (w_X2_common_b15 post mel hM lM zM p0 n) ih v2 v4 _ _ _ hw hP hD hS (lv_sub hl [0, 1, 3] rfl)
          · have hw := hw.1 c20
            refine lv_iconst (v := 1) hx hb dX2_common_38 (by decide) ?_
            refine lv_goto (tgt := 43) hx hb dX2_common_39 (by decide) ?_
            exact L43 (w_X2_common_b15 post mel hM lM zM p0 n) ih v2 v4 (1 : Int32) _ _ _ hw hP hD hS (lv_sub hl [0, 1, 3] rfl)
  have L9 : ∀ (s1 : Int32) (H : Heap) (locs : List Loc) (ls : Array Slot), w_X2_common_b9 post mel hM lM zM p0 s1 → va_P (dC, dI) vwCl [(y, .inr (2, [.int thr, .ref bH, .ref bS, .ref bL, .int mel, .ref bO, .ref bK, .ref bZ, .int sea, .int rnd, .int bas, .int lim, .ref bR, .ref bG, .ref bB, .ref bX])), (bH, .inl (cI, 34, .inl hM)), (bL, .inl (cI, 34, .inl lM)), (bZ, .inl (cZ, 4, .inl zM))] H → va_D A [(y, .inr (2, [.int thr, .ref bH, .ref bS, .ref bL, .int mel, .ref bO, .ref bK, .ref bZ, .int sea, .int rnd, .int bas, .int lim, .ref bR, .ref bG, .ref bB, .ref bX])), (bH, .inl (cI, 34, .inl hM)), (bL, .inl (cI, 34, .inl lM)), (bZ, .inl (cZ, 4, .inl zM))] → va_S A s.heap H locs → lv_has ls 8 [(0, .ref y)] → W p l e ({ frames := 3, cells := 0, slots := 0, locals := 60 } : Room) s m ([.ref y, .int p0] : List Value).toArray below meth c H locs 0 0 Q9 (F0 m 9 ls [.int s1]) := by
    intro s1 H locs ls hw hP hD hS hl
    refine lv_istore_n (lv' := [(2, .int s1), (0, .ref y)]) hx hb dX2_common_9 rfl hl (by decide) rfl (fun ls hl => ?_)
    refine lv_iconst (v := 1) hx hb dX2_common_10 (by decide) ?_
    refine lv_istore_n (lv' := [(3, .int (1 : Int32)), (2, .int s1), (0, .ref y)]) hx hb dX2_common_11 rfl hl (by decide) rfl (fun ls hl => ?_)
    refine lv_iconst (v := 0) hx hb dX2_common_12 (by decide) ?_
    refine lv_istore (lv' := [(4, .int (0 : Int32)), (3, .int (1 : Int32)), (2, .int s1), (0, .ref y)]) hx hb dX2_common_13 hl (by decide) rfl (fun ls hl => ?_)
    obtain ⟨n9, hw⟩ := hw
    exact L15 n9 s1 (1 : Int32) (0 : Int32) _ _ _ hw hP hD hS (lv_sub hl [3, 2, 1, 0] rfl)
  refine lv_iload_n hx hb dX2_common_0 rfl (lv_at hl 1 rfl) ?_
  refine lv_if_eq (tgt := 8) hx hb dX2_common_1 (by decide) (fun c1 => ?_) (fun c1 => ?_)
  · have hw := hw.1 c1
    refine lv_iconst (v := 0) hx hb dX2_common_8 (by decide) ?_
    exact L9 (0 : Int32) _ _ _ hw hP hD hS (lv_sub hl [0] rfl)
  · have hw := hw.2 c1
    refine lv_iconst (v := 1) hx hb dX2_common_4 (by decide) ?_
    refine lv_goto (tgt := 9) hx hb dX2_common_5 (by decide) ?_
    exact L9 (1 : Int32) _ _ _ hw hP hD hS (lv_sub hl [0] rfl)

def w_X2_honoured_b24 (post : Int32 → Prop) (sea : Int32) (rnd : Int32) (p0 : Int32) (s2 : Int32) (s1 : Int32) : Prop := ((p0 = rnd → (post ((s1 + s2) + (1 : Int32)))) ∧ (¬ p0 = rnd → (post ((s1 + s2) + (0 : Int32)))))

def w_X2_honoured_b11 (post : Int32 → Prop) (sea : Int32) (rnd : Int32) (p0 : Int32) (s1 : Int32) : Prop := ((p0 = sea → (w_X2_honoured_b24 post sea rnd p0 (1 : Int32) s1)) ∧ (¬ p0 = sea → (w_X2_honoured_b24 post sea rnd p0 (0 : Int32) s1)))

def w_X2_honoured (sea : Int32) (rnd : Int32) (p0 : Int32) (post : Int32 → Prop) : Prop := ((p0 < (31 : Int32) → (w_X2_honoured_b11 post sea rnd p0 (0 : Int32))) ∧ (¬ p0 < (31 : Int32) → (w_X2_honoured_b11 post sea rnd p0 (1 : Int32))))

set_option maxHeartbeats 4000000 in
set_option maxRecDepth 100000 in
theorem c_X2_honoured (l : Launch) (dC : Nat → ClassId) (dI : Nat → Nat → Nat) (cI cZ : ClassId) (y : Nat) (bH : Nat) (bS : Nat) (bL : Nat) (bO : Nat) (bK : Nat) (bZ : Nat) (bR : Nat) (bG : Nat) (bB : Nat) (bX : Nat) (sz : Nat) (thr : Int32) (mel : Int32) (sea : Int32) (rnd : Int32) (bas : Int32) (lim : Int32) (p0 : Int32) (post : Int32 → Prop) (hw : w_X2_honoured sea rnd p0 post) : Met l yX2_honoured wsX2_honoured ({ frames := 0, cells := 0, slots := 0, locals := 0 } : Room) (va_Pc [.ref y, .int p0] (fun U => U.heap.size = sz ∧ va_P (dC, dI) vwCl [(y, .inr (2, [.int thr, .ref bH, .ref bS, .ref bL, .int mel, .ref bO, .ref bK, .ref bZ, .int sea, .int rnd, .int bas, .int lim, .ref bR, .ref bG, .ref bB, .ref bX]))] U.heap ∧ va_K (dC, dI) vwCl [(cI, .int), (cZ, .boolean)] U ∧ va_D (fun _ => True) [(y, .inr (2, [.int thr, .ref bH, .ref bS, .ref bL, .int mel, .ref bO, .ref bK, .ref bZ, .int sea, .int rnd, .int bas, .int lim, .ref bR, .ref bG, .ref bB, .ref bX]))])) (va_Qi (fun (r9 : Int32) (u9 : Unit) => post r9) (fun (u9 : Unit) (t9 : State) => va_P (dC, dI) vwCl [(y, .inr (2, [.int thr, .ref bH, .ref bS, .ref bL, .int mel, .ref bO, .ref bK, .ref bZ, .int sea, .int rnd, .int bas, .int lim, .ref bR, .ref bG, .ref bB, .ref bX]))] t9.heap ∧ va_K (dC, dI) vwCl [(cI, .int), (cZ, .boolean)] t9 ∧ va_D (va_A [(y, .inr (2, [.int thr, .ref bH, .ref bS, .ref bL, .int mel, .ref bO, .ref bK, .ref bZ, .int sea, .int rnd, .int bas, .int lim, .ref bR, .ref bG, .ref bB, .ref bX]))] sz) [(y, .inr (2, [.int thr, .ref bH, .ref bS, .ref bL, .int mel, .ref bO, .ref bK, .ref bZ, .int sea, .int rnd, .int bas, .int lim, .ref bR, .ref bG, .ref bB, .ref bX]))]) (va_A [(y, .inr (2, [.int thr, .ref bH, .ref bS, .ref bL, .int mel, .ref bO, .ref bK, .ref bZ, .int sea, .int rnd, .int bas, .int lim, .ref bR, .ref bG, .ref bB, .ref bX]))] sz)) 0 0 (va_A [(y, .inr (2, [.int thr, .ref bH, .ref bS, .ref bL, .int mel, .ref bO, .ref bK, .ref bZ, .int sea, .int rnd, .int bas, .int lim, .ref bR, .ref bG, .ref bB, .ref bX]))] sz) := by
  refine Met.ofW (cc := cX2_honoured) (maxL := 2) (ret := (some .int)) (by decide) rfl ?_
  intro p e s m args below meth c s₁ B hml hv
  obtain ⟨rfl, hsz, hP, hK, hD0⟩ := hv
  have hx := B.exec
  have hb := B.bytes
  have hr := B.returns
  have hts := atoms_spec (ws := wsX2_honoured) B.pre
  have hown : s.vm.findClass RX2 = some m.cls := findClass_of_methodNamed B.named
  have hlocks := B.notSynchronized
  have hinX2 : ∀ w ∈ u_ws RX2 TX2 16, w ∈ wsX2_honoured := by decide +kernel
  subst hsz
  have hD := hD0.self (sz := s.heap.size)
  generalize hAe : va_A [(y, .inr (2, [.int thr, .ref bH, .ref bS, .ref bL, .int mel, .ref bO, .ref bK, .ref bZ, .int sea, .int rnd, .int bas, .int lim, .ref bR, .ref bG, .ref bB, .ref bX]))] s.heap.size = A at hD ⊢
  have hA : ∀ q : Nat, s.heap.size ≤ q → A q := fun q h => by rw [← hAe]; exact Or.inr h
  have hS : va_S A s.heap s.heap [] := va_S.rf
  have hl := lv_entry ([.ref y, .int p0]) (n := 2) (Nat.le_of_ble_eq_true rfl)
  rw [lg_entry_eq]
  generalize (lg_sl ([.ref y, .int p0]) ++ List.replicate (2 - (lg_sl ([.ref y, .int p0])).length) Slot.unset).toArray = ls at hl ⊢
  have hl : lv_has ls 2 [(0, .ref y), (1, .int p0)] := hl
  refine (?_ : ∀ Q9 : State → Prop, MQ below _ _ s _ _ _ = Q9 → W p l e ({ frames := 0, cells := 0, slots := 0, locals := 0 } : Room) s m _ below meth c s.heap [] 0 0 Q9 (F0 m 0 ls [])) _ rfl
  intro Q9 hQ9
  have hw : ((p0 < (31 : Int32) → (w_X2_honoured_b11 post sea rnd p0 (0 : Int32))) ∧ (¬ p0 < (31 : Int32) → (w_X2_honoured_b11 post sea rnd p0 (1 : Int32)))) := hw
  have L24 : ∀ (s2 : Int32) (s1 : Int32) (H : Heap) (locs : List Loc) (ls : Array Slot), w_X2_honoured_b24 post sea rnd p0 s2 s1 → va_P (dC, dI) vwCl [(y, .inr (2, [.int thr, .ref bH, .ref bS, .ref bL, .int mel, .ref bO, .ref bK, .ref bZ, .int sea, .int rnd, .int bas, .int lim, .ref bR, .ref bG, .ref bB, .ref bX]))] H → va_D A [(y, .inr (2, [.int thr, .ref bH, .ref bS, .ref bL, .int mel, .ref bO, .ref bK, .ref bZ, .int sea, .int rnd, .int bas, .int lim, .ref bR, .ref bG, .ref bB, .ref bX]))] → va_S A s.heap H locs → lv_has ls 2 [(0, .ref y), (1, .int p0)] → W p l e ({ frames := 0, cells := 0, slots := 0, locals := 0 } : Room) s m ([.ref y, .int p0] : List Value).toArray below meth c H locs 0 0 Q9 (F0 m 24 ls [.int s2, .int s1]) := by
    intro s2 s1 H locs ls hw hP hD hS hl
    refine lv_iadd hx hb dX2_honoured_24 ?_
    refine lv_iload_n hx hb dX2_honoured_25 rfl (lv_at hl 1 rfl) ?_
    refine lv_aload_n hx hb dX2_honoured_26 rfl (lv_at hl 0 rfl) ?_
    refine va_get (D := (dC, dI)) (ci := 2) (v := .int rnd) (C := RX2) (T := TX2) (N := 16) hx hb hts hinX2 hown hK hP 0 rfl rfl 9 (by decide) (hts (.fieldLink RX2 33 "TileHandModel" "round" "I") (by decide +kernel)) (fun _ h9 => h9) rfl dX2_honoured_27 ?_
    refine lv_icmp_ne (tgt := 37) hx hb dX2_honoured_30 (by decide) (fun c3 => ?_) (fun c3 => ?_)
    · have hw := hw.2 c3
      refine lv_iconst (v := 0) hx hb dX2_honoured_37 (by decide) ?_
      refine lv_iadd hx hb dX2_honoured_38 ?_
      rw [← hQ9]
      exact W.iret (v := (s1 + s2) + (0 : Int32)) hx hb hr (fun t ht hW => ⟨⟨(s1 + s2) + (0 : Int32), (), rfl, hw, by rw [ht]; exact hP, va_K.moved hW.alike hK, hD⟩, hS.F ht⟩) hS.2.2 dX2_honoured_39
    · have hw := hw.1 c3
      refine lv_iconst (v := 1) hx hb dX2_honoured_33 (by decide) ?_
      refine lv_goto (tgt := 38) hx hb dX2_honoured_34 (by decide) ?_
      refine lv_iadd hx hb dX2_honoured_38 ?_
      rw [← hQ9]
      exact W.iret (v := (s1 + s2) + (1 : Int32)) hx hb hr (fun t ht hW => ⟨⟨(s1 + s2) + (1 : Int32), (), rfl, hw, by rw [ht]; exact hP, va_K.moved hW.alike hK, hD⟩, hS.F ht⟩) hS.2.2 dX2_honoured_39
  have L11 : ∀ (s1 : Int32) (H : Heap) (locs : List Loc) (ls : Array Slot), w_X2_honoured_b11 post sea rnd p0 s1 → va_P (dC, dI) vwCl [(y, .inr (2, [.int thr, .ref bH, .ref bS, .ref bL, .int mel, .ref bO, .ref bK, .ref bZ, .int sea, .int rnd, .int bas, .int lim, .ref bR, .ref bG, .ref bB, .ref bX]))] H → va_D A [(y, .inr (2, [.int thr, .ref bH, .ref bS, .ref bL, .int mel, .ref bO, .ref bK, .ref bZ, .int sea, .int rnd, .int bas, .int lim, .ref bR, .ref bG, .ref bB, .ref bX]))] → va_S A s.heap H locs → lv_has ls 2 [(0, .ref y), (1, .int p0)] → W p l e ({ frames := 0, cells := 0, slots := 0, locals := 0 } : Room) s m ([.ref y, .int p0] : List Value).toArray below meth c H locs 0 0 Q9 (F0 m 11 ls [.int s1]) := by
    intro s1 H locs ls hw hP hD hS hl
    refine lv_iload_n hx hb dX2_honoured_11 rfl (lv_at hl 1 rfl) ?_
    refine lv_aload_n hx hb dX2_honoured_12 rfl (lv_at hl 0 rfl) ?_
    refine va_get (D := (dC, dI)) (ci := 2) (v := .int sea) (C := RX2) (T := TX2) (N := 16) hx hb hts hinX2 hown hK hP 0 rfl rfl 8 (by decide) (hts (.fieldLink RX2 29 "TileHandModel" "seat" "I") (by decide +kernel)) (fun _ h9 => h9) rfl dX2_honoured_13 ?_
    refine lv_icmp_ne (tgt := 23) hx hb dX2_honoured_16 (by decide) (fun c2 => ?_) (fun c2 => ?_)
    · have hw := hw.2 c2
      refine lv_iconst (v := 0) hx hb dX2_honoured_23 (by decide) ?_
      exact L24 (0 : Int32) s1 _ _ _ hw hP hD hS (lv_sub hl [0, 1] rfl)
    · have hw := hw.1 c2
      refine lv_iconst (v := 1) hx hb dX2_honoured_19 (by decide) ?_
      refine lv_goto (tgt := 24) hx hb dX2_honoured_20 (by decide) ?_
      exact L24 (1 : Int32) s1 _ _ _ hw hP hD hS (lv_sub hl [0, 1] rfl)
  refine lv_iload_n hx hb dX2_honoured_0 rfl (lv_at hl 1 rfl) ?_
  refine lv_bipush (v := 31) hx hb dX2_honoured_1 (by decide) ?_
  refine lv_icmp_lt (tgt := 10) hx hb dX2_honoured_3 (by decide) (fun c1 => ?_) (fun c1 => ?_)
  · have hw := hw.1 c1
    refine lv_iconst (v := 0) hx hb dX2_honoured_10 (by decide) ?_
    exact L11 (0 : Int32) _ _ _ hw hP hD hS (lv_sub hl [0, 1] rfl)
  · have hw := hw.2 c1
    refine lv_iconst (v := 1) hx hb dX2_honoured_6 (by decide) ?_
    refine lv_goto (tgt := 11) hx hb dX2_honoured_7 (by decide) ?_
    exact L11 (1 : Int32) _ _ _ hw hP hD hS (lv_sub hl [0, 1] rfl)

def w_X2_grouped_b232 (post : Int32 → Prop) (mel : Int32) (sea : Int32) (rnd : Int32) (oM : (Nat → Int32)) (kM : (Nat → Int32)) (gM : (Nat → Int32)) (p0 : Int32) (v2 : Int32) (v3 : Int32) : Prop := ((v2 = 0 → (post (v3 + 2))) ∧ (¬ v2 = 0 → (post v3)))

def w_X2_grouped_b216 (post : Int32 → Prop) (mel : Int32) (sea : Int32) (rnd : Int32) (oM : (Nat → Int32)) (kM : (Nat → Int32)) (gM : (Nat → Int32)) (p0 : Int32) (v2 : Int32) (v3 : Int32) : Prop := ((v2 = (4 : Int32) → (w_X2_honoured sea rnd p0 (fun r5 => (((r5 = 0 → (w_X2_grouped_b232 post mel sea rnd oM kM gM p0 v2 (v3 + 1))) ∧ (¬ r5 = 0 → (w_X2_grouped_b232 post mel sea rnd oM kM gM p0 v2 v3))))))) ∧ (¬ v2 = (4 : Int32) → (w_X2_grouped_b232 post mel sea rnd oM kM gM p0 v2 v3)))

def w_X2_grouped_b210 (post : Int32 → Prop) (mel : Int32) (sea : Int32) (rnd : Int32) (oM : (Nat → Int32)) (kM : (Nat → Int32)) (gM : (Nat → Int32)) (p0 : Int32) (K75 : Int32 → Int32 → Int32 → Int32 → Prop) (v2 : Int32) (v3 : Int32) (v4 : Int32) (v5 : Int32) : Prop := K75 v2 v3 v4 (v5 + 1)

def w_X2_grouped_b169 (post : Int32 → Prop) (mel : Int32) (sea : Int32) (rnd : Int32) (oM : (Nat → Int32)) (kM : (Nat → Int32)) (gM : (Nat → Int32)) (p0 : Int32) (K75 : Int32 → Int32 → Int32 → Int32 → Prop) (v2 : Int32) (v3 : Int32) (v4 : Int32) (v5 : Int32) (v6 : Int32) : Prop := ((v6 = 0 → (w_X2_grouped_b210 post mel sea rnd oM kM gM p0 K75 v2 v3 v4 v5)) ∧ (¬ v6 = 0 → (vp_in v5 4 ∧ (((((v4 >>> ((gM v5.toNatClampNeg) &&& 31)) &&& (1 : Int32)) = (1 : Int32) → (w_X2_grouped_b210 post mel sea rnd oM kM gM p0 K75 v2 v3 v4 v5)) ∧ (¬ ((v4 >>> ((gM v5.toNatClampNeg) &&& 31)) &&& (1 : Int32)) = (1 : Int32) → (vp_in v5 4 ∧ (∀ t14 : Int32, t14 = v4 ||| ((1 : Int32) <<< ((gM v5.toNatClampNeg) &&& 31)) → (w_X2_grouped_b210 post mel sea rnd oM kM gM p0 K75 v2 (v3 + 1) t14 v5)))))))))

def w_X2_grouped_b161 (post : Int32 → Prop) (mel : Int32) (sea : Int32) (rnd : Int32) (oM : (Nat → Int32)) (kM : (Nat → Int32)) (gM : (Nat → Int32)) (p0 : Int32) (K75 : Int32 → Int32 → Int32 → Int32 → Prop) (K127 : Int32 → Int32 → Int32 → Int32 → Int32 → Int32 → Prop) (v2 : Int32) (v3 : Int32) (v4 : Int32) (v5 : Int32) (v7 : Int32) (s1 : Int32) : Prop := K127 v2 v3 v4 v5 s1 (v7 + 1)

def w_X2_grouped_b156 (post : Int32 → Prop) (mel : Int32) (sea : Int32) (rnd : Int32) (oM : (Nat → Int32)) (kM : (Nat → Int32)) (gM : (Nat → Int32)) (p0 : Int32) (K75 : Int32 → Int32 → Int32 → Int32 → Prop) (K127 : Int32 → Int32 → Int32 → Int32 → Int32 → Int32 → Prop) (v2 : Int32) (v3 : Int32) (v4 : Int32) (v5 : Int32) (v7 : Int32) : Prop := w_X2_grouped_b161 post mel sea rnd oM kM gM p0 K75 K127 v2 v3 v4 v5 v7 (1 : Int32)

def w_X2_grouped_b127 (post : Int32 → Prop) (mel : Int32) (sea : Int32) (rnd : Int32) (oM : (Nat → Int32)) (kM : (Nat → Int32)) (gM : (Nat → Int32)) (p0 : Int32) (K75 : Int32 → Int32 → Int32 → Int32 → Prop) : Nat → Int32 → Int32 → Int32 → Int32 → Int32 → Int32 → Prop
  | 0, _, _, _, _, _, _ => False
  | n + 1, v2, v3, v4, v5, v6, v7 => ((v5 ≤ v7 → (w_X2_grouped_b169 post mel sea rnd oM kM gM p0 K75 v2 v3 v4 v5 v6)) ∧ (¬ v5 ≤ v7 → (((v6 = 0 → (vp_in v7 4 ∧ (vp_in v5 4 ∧ ((((gM v7.toNatClampNeg) = (gM v5.toNatClampNeg) → (w_X2_grouped_b156 post mel sea rnd oM kM gM p0 K75 (w_X2_grouped_b127 post mel sea rnd oM kM gM p0 K75 n) v2 v3 v4 v5 v7)) ∧ (¬ (gM v7.toNatClampNeg) = (gM v5.toNatClampNeg) → (w_X2_grouped_b161 post mel sea rnd oM kM gM p0 K75 (w_X2_grouped_b127 post mel sea rnd oM kM gM p0 K75 n) v2 v3 v4 v5 v7 (0 : Int32)))))))) ∧ (¬ v6 = 0 → (w_X2_grouped_b156 post mel sea rnd oM kM gM p0 K75 (w_X2_grouped_b127 post mel sea rnd oM kM gM p0 K75 n) v2 v3 v4 v5 v7))))))

def w_X2_grouped_b75 (post : Int32 → Prop) (mel : Int32) (sea : Int32) (rnd : Int32) (oM : (Nat → Int32)) (kM : (Nat → Int32)) (gM : (Nat → Int32)) (p0 : Int32) : Nat → Int32 → Int32 → Int32 → Int32 → Prop
  | 0, _, _, _, _ => False
  | n + 1, v2, v3, v4, v5 => ((((4 : Int32) - mel) ≤ v5 → (w_X2_grouped_b216 post mel sea rnd oM kM gM p0 v2 v3)) ∧ (¬ ((4 : Int32) - mel) ≤ v5 → (vp_in v5 4 ∧ ((((gM v5.toNatClampNeg) < (100 : Int32) → (∃ n9, w_X2_grouped_b127 post mel sea rnd oM kM gM p0 (w_X2_grouped_b75 post mel sea rnd oM kM gM p0 n) n9 (v2 + 1) v3 v4 v5 (0 : Int32) (0 : Int32))) ∧ (¬ (gM v5.toNatClampNeg) < (100 : Int32) → (vp_in v5 4 ∧ (w_X2_honoured sea rnd ((gM v5.toNatClampNeg) - (100 : Int32)) (fun r20 => (w_X2_grouped_b210 post mel sea rnd oM kM gM p0 (w_X2_grouped_b75 post mel sea rnd oM kM gM p0 n) v2 (v3 + r20) v4 v5))))))))))

def w_X2_grouped_b69 (post : Int32 → Prop) (mel : Int32) (sea : Int32) (rnd : Int32) (oM : (Nat → Int32)) (kM : (Nat → Int32)) (gM : (Nat → Int32)) (p0 : Int32) (v2 : Int32) (v3 : Int32) : Prop := ∃ n9, w_X2_grouped_b75 post mel sea rnd oM kM gM p0 n9 v2 v3 (0 : Int32) (0 : Int32)

def w_X2_grouped_b63 (post : Int32 → Prop) (mel : Int32) (sea : Int32) (rnd : Int32) (oM : (Nat → Int32)) (kM : (Nat → Int32)) (gM : (Nat → Int32)) (p0 : Int32) (K7 : Int32 → Int32 → Int32 → Prop) (v2 : Int32) (v3 : Int32) (v4 : Int32) : Prop := K7 v2 v3 (v4 + 1)

def w_X2_grouped_b60 (post : Int32 → Prop) (mel : Int32) (sea : Int32) (rnd : Int32) (oM : (Nat → Int32)) (kM : (Nat → Int32)) (gM : (Nat → Int32)) (p0 : Int32) (K7 : Int32 → Int32 → Int32 → Prop) (v2 : Int32) (v4 : Int32) (s3 : Int32) (s2 : Int32) (s1 : Int32) : Prop := w_X2_grouped_b63 post mel sea rnd oM kM gM p0 K7 v2 (s1 + (s2 + s3)) v4

def w_X2_grouped_b7 (post : Int32 → Prop) (mel : Int32) (sea : Int32) (rnd : Int32) (oM : (Nat → Int32)) (kM : (Nat → Int32)) (gM : (Nat → Int32)) (p0 : Int32) : Nat → Int32 → Int32 → Int32 → Prop
  | 0, _, _, _ => False
  | n + 1, v2, v3, v4 => ((mel ≤ v4 → (w_X2_grouped_b69 post mel sea rnd oM kM gM p0 v2 v3)) ∧ (¬ mel ≤ v4 → (vp_in v4 4 ∧ ((((oM v4.toNatClampNeg) = 0 → (w_X2_grouped_b63 post mel sea rnd oM kM gM p0 (w_X2_grouped_b7 post mel sea rnd oM kM gM p0 n) (v2 + 1) v3 v4)) ∧ (¬ (oM v4.toNatClampNeg) = 0 → (vp_in v4 4 ∧ (w_X2_honoured sea rnd (kM v4.toNatClampNeg) (fun r24 => (vp_in v4 4 ∧ ((((oM v4.toNatClampNeg) = (2 : Int32) → (w_X2_grouped_b60 post mel sea rnd oM kM gM p0 (w_X2_grouped_b7 post mel sea rnd oM kM gM p0 n) v2 v4 (1 : Int32) r24 v3)) ∧ (¬ (oM v4.toNatClampNeg) = (2 : Int32) → (w_X2_grouped_b60 post mel sea rnd oM kM gM p0 (w_X2_grouped_b7 post mel sea rnd oM kM gM p0 n) v2 v4 (0 : Int32) r24 v3))))))))))))))

def w_X2_grouped (mel : Int32) (sea : Int32) (rnd : Int32) (oM : (Nat → Int32)) (kM : (Nat → Int32)) (gM : (Nat → Int32)) (p0 : Int32) (post : Int32 → Prop) : Prop := ∃ n9, w_X2_grouped_b7 post mel sea rnd oM kM gM p0 n9 (0 : Int32) (0 : Int32) (0 : Int32)

set_option maxHeartbeats 4000000 in
set_option maxRecDepth 100000 in
theorem c_X2_grouped (l : Launch) (dC : Nat → ClassId) (dI : Nat → Nat → Nat) (cI cZ : ClassId) (y : Nat) (bH : Nat) (bS : Nat) (bL : Nat) (bO : Nat) (bK : Nat) (bZ : Nat) (bR : Nat) (bG : Nat) (bB : Nat) (bX : Nat) (sz : Nat) (thr : Int32) (mel : Int32) (sea : Int32) (rnd : Int32) (bas : Int32) (lim : Int32) (oM : (Nat → Int32)) (kM : (Nat → Int32)) (gM : (Nat → Int32)) (p0 : Int32) (post : Int32 → Prop) (hw : w_X2_grouped mel sea rnd oM kM gM p0 post) : Met l yX2_grouped wsX2_grouped ({ frames := 2, cells := 0, slots := 0, locals := 40 } : Room) (va_Pc [.ref y, .int p0] (fun U => U.heap.size = sz ∧ va_P (dC, dI) vwCl [(y, .inr (2, [.int thr, .ref bH, .ref bS, .ref bL, .int mel, .ref bO, .ref bK, .ref bZ, .int sea, .int rnd, .int bas, .int lim, .ref bR, .ref bG, .ref bB, .ref bX])), (bO, .inl (cI, 4, .inl oM)), (bK, .inl (cI, 4, .inl kM)), (bG, .inl (cI, 4, .inl gM))] U.heap ∧ va_K (dC, dI) vwCl [(cI, .int), (cZ, .boolean)] U ∧ va_D (fun _ => True) [(y, .inr (2, [.int thr, .ref bH, .ref bS, .ref bL, .int mel, .ref bO, .ref bK, .ref bZ, .int sea, .int rnd, .int bas, .int lim, .ref bR, .ref bG, .ref bB, .ref bX])), (bO, .inl (cI, 4, .inl oM)), (bK, .inl (cI, 4, .inl kM)), (bG, .inl (cI, 4, .inl gM))])) (va_Qi (fun (r9 : Int32) (u9 : Unit) => post r9) (fun (u9 : Unit) (t9 : State) => va_P (dC, dI) vwCl [(y, .inr (2, [.int thr, .ref bH, .ref bS, .ref bL, .int mel, .ref bO, .ref bK, .ref bZ, .int sea, .int rnd, .int bas, .int lim, .ref bR, .ref bG, .ref bB, .ref bX])), (bO, .inl (cI, 4, .inl oM)), (bK, .inl (cI, 4, .inl kM)), (bG, .inl (cI, 4, .inl gM))] t9.heap ∧ va_K (dC, dI) vwCl [(cI, .int), (cZ, .boolean)] t9 ∧ va_D (va_A [(y, .inr (2, [.int thr, .ref bH, .ref bS, .ref bL, .int mel, .ref bO, .ref bK, .ref bZ, .int sea, .int rnd, .int bas, .int lim, .ref bR, .ref bG, .ref bB, .ref bX])), (bO, .inl (cI, 4, .inl oM)), (bK, .inl (cI, 4, .inl kM)), (bG, .inl (cI, 4, .inl gM))] sz) [(y, .inr (2, [.int thr, .ref bH, .ref bS, .ref bL, .int mel, .ref bO, .ref bK, .ref bZ, .int sea, .int rnd, .int bas, .int lim, .ref bR, .ref bG, .ref bB, .ref bX])), (bO, .inl (cI, 4, .inl oM)), (bK, .inl (cI, 4, .inl kM)), (bG, .inl (cI, 4, .inl gM))]) (va_A [(y, .inr (2, [.int thr, .ref bH, .ref bS, .ref bL, .int mel, .ref bO, .ref bK, .ref bZ, .int sea, .int rnd, .int bas, .int lim, .ref bR, .ref bG, .ref bB, .ref bX])), (bO, .inl (cI, 4, .inl oM)), (bK, .inl (cI, 4, .inl kM)), (bG, .inl (cI, 4, .inl gM))] sz)) 0 0 (va_A [(y, .inr (2, [.int thr, .ref bH, .ref bS, .ref bL, .int mel, .ref bO, .ref bK, .ref bZ, .int sea, .int rnd, .int bas, .int lim, .ref bR, .ref bG, .ref bB, .ref bX])), (bO, .inl (cI, 4, .inl oM)), (bK, .inl (cI, 4, .inl kM)), (bG, .inl (cI, 4, .inl gM))] sz) := by
  refine Met.ofW (cc := cX2_grouped) (maxL := 8) (ret := (some .int)) (by decide) rfl ?_
  intro p e s m args below meth c s₁ B hml hv
  obtain ⟨rfl, hsz, hP, hK, hD0⟩ := hv
  have hx := B.exec
  have hb := B.bytes
  have hr := B.returns
  have hts := atoms_spec (ws := wsX2_grouped) B.pre
  have hown : s.vm.findClass RX2 = some m.cls := findClass_of_methodNamed B.named
  have hlocks := B.notSynchronized
  have hinX2 : ∀ w ∈ u_ws RX2 TX2 16, w ∈ wsX2_grouped := by decide +kernel
  subst hsz
  have hD := hD0.self (sz := s.heap.size)
  generalize hAe : va_A [(y, .inr (2, [.int thr, .ref bH, .ref bS, .ref bL, .int mel, .ref bO, .ref bK, .ref bZ, .int sea, .int rnd, .int bas, .int lim, .ref bR, .ref bG, .ref bB, .ref bX])), (bO, .inl (cI, 4, .inl oM)), (bK, .inl (cI, 4, .inl kM)), (bG, .inl (cI, 4, .inl gM))] s.heap.size = A at hD ⊢
  have hA : ∀ q : Nat, s.heap.size ≤ q → A q := fun q h => by rw [← hAe]; exact Or.inr h
  have hS : va_S A s.heap s.heap [] := va_S.rf
  have hl := lv_entry ([.ref y, .int p0]) (n := 8) (Nat.le_of_ble_eq_true rfl)
  rw [lg_entry_eq]
  generalize (lg_sl ([.ref y, .int p0]) ++ List.replicate (8 - (lg_sl ([.ref y, .int p0])).length) Slot.unset).toArray = ls at hl ⊢
  have hl : lv_has ls 8 [(0, .ref y), (1, .int p0)] := hl
  refine (?_ : ∀ Q9 : State → Prop, MQ below _ _ s _ _ _ = Q9 → W p l e ({ frames := 2, cells := 0, slots := 0, locals := 40 } : Room) s m _ below meth c s.heap [] 0 0 Q9 (F0 m 0 ls [])) _ rfl
  intro Q9 hQ9
  have hw : ∃ n9, w_X2_grouped_b7 post mel sea rnd oM kM gM p0 n9 (0 : Int32) (0 : Int32) (0 : Int32) := hw
  have L232 : ∀ (v2 : Int32) (v3 : Int32) (H : Heap) (locs : List Loc) (ls : Array Slot), w_X2_grouped_b232 post mel sea rnd oM kM gM p0 v2 v3 → va_P (dC, dI) vwCl [(y, .inr (2, [.int thr, .ref bH, .ref bS, .ref bL, .int mel, .ref bO, .ref bK, .ref bZ, .int sea, .int rnd, .int bas, .int lim, .ref bR, .ref bG, .ref bB, .ref bX])), (bO, .inl (cI, 4, .inl oM)), (bK, .inl (cI, 4, .inl kM)), (bG, .inl (cI, 4, .inl gM))] H → va_D A [(y, .inr (2, [.int thr, .ref bH, .ref bS, .ref bL, .int mel, .ref bO, .ref bK, .ref bZ, .int sea, .int rnd, .int bas, .int lim, .ref bR, .ref bG, .ref bB, .ref bX])), (bO, .inl (cI, 4, .inl oM)), (bK, .inl (cI, 4, .inl kM)), (bG, .inl (cI, 4, .inl gM))] → va_S A s.heap H locs → lv_has ls 8 [(0, .ref y), (2, .int v2), (3, .int v3)] → W p l e ({ frames := 2, cells := 0, slots := 0, locals := 40 } : Room) s m ([.ref y, .int p0] : List Value).toArray below meth c H locs 0 0 Q9 (F0 m 232 ls []) := by
    intro v2 v3 H locs ls hw hP hD hS hl
    refine lv_iload_n hx hb dX2_grouped_232 rfl (lv_at hl 1 rfl) ?_
    refine lv_if_ne (tgt := 239) hx hb dX2_grouped_233 (by decide) (fun c4 => ?_) (fun c4 => ?_)
    · have hw := hw.2 c4
      refine lv_iload_n hx hb dX2_grouped_239 rfl (lv_at hl 2 rfl) ?_
      rw [← hQ9]
      exact W.iret (v := v3) hx hb hr (fun t ht hW => ⟨⟨v3, (), rfl, hw, by rw [ht]; exact hP, va_K.moved hW.alike hK, hD⟩, hS.F ht⟩) hS.2.2 dX2_grouped_240
    · have hw := hw.1 c4
      refine lv_iinc (v := v3 + 2) (lv' := [(3, .int (v3 + 2)), (0, .ref y), (2, .int v2)]) hx hb dX2_grouped_236 hl (k := 2) rfl rfl (by decide) rfl (fun ls hl => ?_)
      refine lv_iload_n hx hb dX2_grouped_239 rfl (lv_at hl 0 rfl) ?_
      rw [← hQ9]
      exact W.iret (v := v3 + 2) hx hb hr (fun t ht hW => ⟨⟨v3 + 2, (), rfl, hw, by rw [ht]; exact hP, va_K.moved hW.alike hK, hD⟩, hS.F ht⟩) hS.2.2 dX2_grouped_240
  have L216 : ∀ (v2 : Int32) (v3 : Int32) (H : Heap) (locs : List Loc) (ls : Array Slot), w_X2_grouped_b216 post mel sea rnd oM kM gM p0 v2 v3 → va_P (dC, dI) vwCl [(y, .inr (2, [.int thr, .ref bH, .ref bS, .ref bL, .int mel, .ref bO, .ref bK, .ref bZ, .int sea, .int rnd, .int bas, .int lim, .ref bR, .ref bG, .ref bB, .ref bX])), (bO, .inl (cI, 4, .inl oM)), (bK, .inl (cI, 4, .inl kM)), (bG, .inl (cI, 4, .inl gM))] H → va_D A [(y, .inr (2, [.int thr, .ref bH, .ref bS, .ref bL, .int mel, .ref bO, .ref bK, .ref bZ, .int sea, .int rnd, .int bas, .int lim, .ref bR, .ref bG, .ref bB, .ref bX])), (bO, .inl (cI, 4, .inl oM)), (bK, .inl (cI, 4, .inl kM)), (bG, .inl (cI, 4, .inl gM))] → va_S A s.heap H locs → lv_has ls 8 [(0, .ref y), (1, .int p0), (2, .int v2), (3, .int v3)] → W p l e ({ frames := 2, cells := 0, slots := 0, locals := 40 } : Room) s m ([.ref y, .int p0] : List Value).toArray below meth c H locs 0 0 Q9 (F0 m 216 ls []) := by
    intro v2 v3 H locs ls hw hP hD hS hl
    refine lv_iload_n hx hb dX2_grouped_216 rfl (lv_at hl 2 rfl) ?_
    refine lv_iconst (v := 4) hx hb dX2_grouped_217 (by decide) ?_
    refine lv_icmp_ne (tgt := 232) hx hb dX2_grouped_218 (by decide) (fun c3 => ?_) (fun c3 => ?_)
    · have hw := hw.2 c3
      exact L232 v2 v3 _ _ _ hw hP hD hS (lv_sub hl [0, 2, 3] rfl)
    · have hw := hw.1 c3
      refine lv_aload_n hx hb dX2_grouped_221 rfl (lv_at hl 0 rfl) ?_
      refine lv_iload_n hx hb dX2_grouped_222 rfl (lv_at hl 1 rfl) ?_
      have hPc := hP.sub (ws' := [(y, .inr (2, [.int thr, .ref bH, .ref bS, .ref bL, .int mel, .ref bO, .ref bK, .ref bZ, .int sea, .int rnd, .int bas, .int lim, .ref bR, .ref bG, .ref bB, .ref bX]))]) [0] rfl
      have hDc := hD.sub (ws' := [(y, .inr (2, [.int thr, .ref bH, .ref bS, .ref bL, .int mel, .ref bO, .ref bK, .ref bZ, .int sea, .int rnd, .int bas, .int lim, .ref bR, .ref bG, .ref bB, .ref bX]))]) [0] (by decide) rfl
      have hFc := va_free (wc := [(y, .inr (2, [.int thr, .ref bH, .ref bS, .ref bL, .int mel, .ref bO, .ref bK, .ref bZ, .int sea, .int rnd, .int bas, .int lim, .ref bR, .ref bG, .ref bB, .ref bX]))]) hD hS hA [0] rfl
      refine va_calli (va_runV (As := [.int p0]) (rest := []) ⟨hx, hb, hml, hown, hts⟩ (c_X2_honoured l dC dI cI cZ y bH bS bL bO bK bZ bR bG bB bX H.size thr mel sea rnd bas lim p0 _ hw) (cwV 1 hts gX2_grouped_X2_honoured rfl rfl rfl (by decide +kernel) ⟨Nat.le_of_ble_eq_true rfl, Nat.le_of_ble_eq_true rfl⟩) ⟨fun a U g mk q => by obtain ⟨q0, q1, qP, qK, qD⟩ := q; exact ⟨q0, q1, qP, va_K.moved (u := U) (U := U.calling g mk a) (Vm.Alike.refl U.vm) qK, qD⟩, va_recv hK hPc (ci := 2) (q0 := 0) rfl rfl, fun U hU hW => ⟨rfl, by rw [hU], by rw [hU]; exact hPc, va_K.moved hW.alike hK, hDc.weaken (fun _ _ _ _ => trivial)⟩⟩ rfl rfl hl.1 rfl (lv_room (Nat.le_of_ble_eq_true rfl)) dX2_grouped_223 ⟨Nat.le_of_ble_eq_true rfl, Nat.le_of_ble_eq_true rfl⟩) hS (fun q _ h => hFc q h) hFc (fun r5 u t H1 locs ht hvm hw hB hz1 hk1 hS => ?_)
      obtain ⟨hP1, -, hD1⟩ := hB
      have hw := And.intro hw trivial
      try dsimp only at hw
      have hw := hw.1
      rw [ht] at hP1
      obtain ⟨hP, hD⟩ := va_join (wr := [(bO, .inl (cI, 4, .inl oM)), (bK, .inl (cI, 4, .inl kM)), (bG, .inl (cI, 4, .inl gM))]) (w1 := [(y, .inr (2, [.int thr, .ref bH, .ref bS, .ref bL, .int mel, .ref bO, .ref bK, .ref bZ, .int sea, .int rnd, .int bas, .int lim, .ref bR, .ref bG, .ref bB, .ref bX]))]) hP hD [0] [1, 2, 3] rfl rfl (by decide) (by decide) hk1 hFc hP1 hD1
      generalize H1 = H at hP hS ⊢
      have hP : va_P (dC, dI) vwCl [(bO, .inl (cI, 4, .inl oM)), (bK, .inl (cI, 4, .inl kM)), (bG, .inl (cI, 4, .inl gM)), (y, .inr (2, [.int thr, .ref bH, .ref bS, .ref bL, .int mel, .ref bO, .ref bK, .ref bZ, .int sea, .int rnd, .int bas, .int lim, .ref bR, .ref bG, .ref bB, .ref bX]))] H := hP
      have hD : va_D A [(bO, .inl (cI, 4, .inl oM)), (bK, .inl (cI, 4, .inl kM)), (bG, .inl (cI, 4, .inl gM)), (y, .inr (2, [.int thr, .ref bH, .ref bS, .ref bL, .int mel, .ref bO, .ref bK, .ref bZ, .int sea, .int rnd, .int bas, .int lim, .ref bR, .ref bG, .ref bB, .ref bX]))] := hD
      refine lv_if_ne (tgt := 232) hx hb dX2_grouped_226 (by decide) (fun c6 => ?_) (fun c6 => ?_)
      · have hw := hw.2 c6
        have hP9 := hP.sub (ws' := [(y, .inr (2, [.int thr, .ref bH, .ref bS, .ref bL, .int mel, .ref bO, .ref bK, .ref bZ, .int sea, .int rnd, .int bas, .int lim, .ref bR, .ref bG, .ref bB, .ref bX])), (bO, .inl (cI, 4, .inl oM)), (bK, .inl (cI, 4, .inl kM)), (bG, .inl (cI, 4, .inl gM))]) [3, 0, 1, 2] rfl
        have hD9 := hD.sub (ws' := [(y, .inr (2, [.int thr, .ref bH, .ref bS, .ref bL, .int mel, .ref bO, .ref bK, .ref bZ, .int sea, .int rnd, .int bas, .int lim, .ref bR, .ref bG, .ref bB, .ref bX])), (bO, .inl (cI, 4, .inl oM)), (bK, .inl (cI, 4, .inl kM)), (bG, .inl (cI, 4, .inl gM))]) [3, 0, 1, 2] (by decide) rfl
        exact L232 v2 v3 _ _ _ hw hP9 hD9 hS (lv_sub hl [0, 2, 3] rfl)
      · have hw := hw.1 c6
        refine lv_iinc (v := v3 + 1) (lv' := [(3, .int (v3 + 1)), (0, .ref y), (1, .int p0), (2, .int v2)]) hx hb dX2_grouped_229 hl (k := 3) rfl rfl (by decide) rfl (fun ls hl => ?_)
        have hP9 := hP.sub (ws' := [(y, .inr (2, [.int thr, .ref bH, .ref bS, .ref bL, .int mel, .ref bO, .ref bK, .ref bZ, .int sea, .int rnd, .int bas, .int lim, .ref bR, .ref bG, .ref bB, .ref bX])), (bO, .inl (cI, 4, .inl oM)), (bK, .inl (cI, 4, .inl kM)), (bG, .inl (cI, 4, .inl gM))]) [3, 0, 1, 2] rfl
        have hD9 := hD.sub (ws' := [(y, .inr (2, [.int thr, .ref bH, .ref bS, .ref bL, .int mel, .ref bO, .ref bK, .ref bZ, .int sea, .int rnd, .int bas, .int lim, .ref bR, .ref bG, .ref bB, .ref bX])), (bO, .inl (cI, 4, .inl oM)), (bK, .inl (cI, 4, .inl kM)), (bG, .inl (cI, 4, .inl gM))]) [3, 0, 1, 2] (by decide) rfl
        exact L232 v2 (v3 + 1) _ _ _ hw hP9 hD9 hS (lv_sub hl [1, 3, 0] rfl)
  have L210 : ∀ (K75 : Int32 → Int32 → Int32 → Int32 → Prop) (hK75 : ∀ (v2 : Int32) (v3 : Int32) (v4 : Int32) (v5 : Int32) (H : Heap) (locs : List Loc) (ls : Array Slot), K75 v2 v3 v4 v5 → va_P (dC, dI) vwCl [(y, .inr (2, [.int thr, .ref bH, .ref bS, .ref bL, .int mel, .ref bO, .ref bK, .ref bZ, .int sea, .int rnd, .int bas, .int lim, .ref bR, .ref bG, .ref bB, .ref bX])), (bO, .inl (cI, 4, .inl oM)), (bK, .inl (cI, 4, .inl kM)), (bG, .inl (cI, 4, .inl gM))] H → va_D A [(y, .inr (2, [.int thr, .ref bH, .ref bS, .ref bL, .int mel, .ref bO, .ref bK, .ref bZ, .int sea, .int rnd, .int bas, .int lim, .ref bR, .ref bG, .ref bB, .ref bX])), (bO, .inl (cI, 4, .inl oM)), (bK, .inl (cI, 4, .inl kM)), (bG, .inl (cI, 4, .inl gM))] → va_S A s.heap H locs → lv_has ls 8 [(0, .ref y), (1, .int p0), (2, .int v2), (3, .int v3), (4, .int v4), (5, .int v5)] → W p l e ({ frames := 2, cells := 0, slots := 0, locals := 40 } : Room) s m ([.ref y, .int p0] : List Value).toArray below meth c H locs 0 0 Q9 (F0 m 75 ls [])), ∀ (v2 : Int32) (v3 : Int32) (v4 : Int32) (v5 : Int32) (H : Heap) (locs : List Loc) (ls : Array Slot), w_X2_grouped_b210 post mel sea rnd oM kM gM p0 K75 v2 v3 v4 v5 → va_P (dC, dI) vwCl [(y, .inr (2, [.int thr, .ref bH, .ref bS, .ref bL, .int mel, .ref bO, .ref bK, .ref bZ, .int sea, .int rnd, .int bas, .int lim, .ref bR, .ref bG, .ref bB, .ref bX])), (bO, .inl (cI, 4, .inl oM)), (bK, .inl (cI, 4, .inl kM)), (bG, .inl (cI, 4, .inl gM))] H → va_D A [(y, .inr (2, [.int thr, .ref bH, .ref bS, .ref bL, .int mel, .ref bO, .ref bK, .ref bZ, .int sea, .int rnd, .int bas, .int lim, .ref bR, .ref bG, .ref bB, .ref bX])), (bO, .inl (cI, 4, .inl oM)), (bK, .inl (cI, 4, .inl kM)), (bG, .inl (cI, 4, .inl gM))] → va_S A s.heap H locs → lv_has ls 8 [(0, .ref y), (1, .int p0), (2, .int v2), (3, .int v3), (4, .int v4), (5, .int v5)] → W p l e ({ frames := 2, cells := 0, slots := 0, locals := 40 } : Room) s m ([.ref y, .int p0] : List Value).toArray below meth c H locs 0 0 Q9 (F0 m 210 ls []) := by
    intro K75 hK75 v2 v3 v4 v5 H locs ls hw hP hD hS hl
    refine lv_iinc (v := v5 + 1) (lv' := [(5, .int (v5 + 1)), (0, .ref y), (1, .int p0), (2, .int v2), (3, .int v3), (4, .int v4)]) hx hb dX2_grouped_210 hl (k := 5) rfl rfl (by decide) rfl (fun ls hl => ?_)
    refine lv_goto (tgt := 75) hx hb dX2_grouped_213 (by decide) ?_
    exact hK75 v2 v3 v4 (v5 + 1) _ _ _ hw hP hD hS (lv_sub hl [1, 2, 3, 4, 5, 0] rfl)
  have L169 : ∀ (K75 : Int32 → Int32 → Int32 → Int32 → Prop) (hK75 : ∀ (v2 : Int32) (v3 : Int32) (v4 : Int32) (v5 : Int32) (H : Heap) (locs : List Loc) (ls : Array Slot), K75 v2 v3 v4 v5 → va_P (dC, dI) vwCl [(y, .inr (2, [.int thr, .ref bH, .ref bS, .ref bL, .int mel, .ref bO, .ref bK, .ref bZ, .int sea, .int rnd, .int bas, .int lim, .ref bR, .ref bG, .ref bB, .ref bX])), (bO, .inl (cI, 4, .inl oM)), (bK, .inl (cI, 4, .inl kM)), (bG, .inl (cI, 4, .inl gM))] H → va_D A [(y, .inr (2, [.int thr, .ref bH, .ref bS, .ref bL, .int mel, .ref bO, .ref bK, .ref bZ, .int sea, .int rnd, .int bas, .int lim, .ref bR, .ref bG, .ref bB, .ref bX])), (bO, .inl (cI, 4, .inl oM)), (bK, .inl (cI, 4, .inl kM)), (bG, .inl (cI, 4, .inl gM))] → va_S A s.heap H locs → lv_has ls 8 [(0, .ref y), (1, .int p0), (2, .int v2), (3, .int v3), (4, .int v4), (5, .int v5)] → W p l e ({ frames := 2, cells := 0, slots := 0, locals := 40 } : Room) s m ([.ref y, .int p0] : List Value).toArray below meth c H locs 0 0 Q9 (F0 m 75 ls [])), ∀ (v2 : Int32) (v3 : Int32) (v4 : Int32) (v5 : Int32) (v6 : Int32) (H : Heap) (locs : List Loc) (ls : Array Slot), w_X2_grouped_b169 post mel sea rnd oM kM gM p0 K75 v2 v3 v4 v5 v6 → va_P (dC, dI) vwCl [(y, .inr (2, [.int thr, .ref bH, .ref bS, .ref bL, .int mel, .ref bO, .ref bK, .ref bZ, .int sea, .int rnd, .int bas, .int lim, .ref bR, .ref bG, .ref bB, .ref bX])), (bO, .inl (cI, 4, .inl oM)), (bK, .inl (cI, 4, .inl kM)), (bG, .inl (cI, 4, .inl gM))] H → va_D A [(y, .inr (2, [.int thr, .ref bH, .ref bS, .ref bL, .int mel, .ref bO, .ref bK, .ref bZ, .int sea, .int rnd, .int bas, .int lim, .ref bR, .ref bG, .ref bB, .ref bX])), (bO, .inl (cI, 4, .inl oM)), (bK, .inl (cI, 4, .inl kM)), (bG, .inl (cI, 4, .inl gM))] → va_S A s.heap H locs → lv_has ls 8 [(0, .ref y), (1, .int p0), (2, .int v2), (3, .int v3), (4, .int v4), (5, .int v5), (6, .int v6)] → W p l e ({ frames := 2, cells := 0, slots := 0, locals := 40 } : Room) s m ([.ref y, .int p0] : List Value).toArray below meth c H locs 0 0 Q9 (F0 m 169 ls []) := by
    intro K75 hK75 v2 v3 v4 v5 v6 H locs ls hw hP hD hS hl
    refine lv_iload hx hb dX2_grouped_169 (lv_at hl 6 rfl) ?_
    refine lv_if_eq (tgt := 210) hx hb dX2_grouped_171 (by decide) (fun c10 => ?_) (fun c10 => ?_)
    · have hw := hw.1 c10
      exact L210 K75 hK75 v2 v3 v4 v5 _ _ _ hw hP hD hS (lv_sub hl [0, 1, 2, 3, 4, 5] rfl)
    · have hw := hw.2 c10
      refine lv_iload hx hb dX2_grouped_174 (lv_at hl 4 rfl) ?_
      refine lv_aload_n hx hb dX2_grouped_176 rfl (lv_at hl 0 rfl) ?_
      refine va_get (D := (dC, dI)) (ci := 2) (v := .ref bG) (C := RX2) (T := TX2) (N := 16) hx hb hts hinX2 hown hK hP 0 rfl rfl 13 (by decide) (hts (.fieldLink RX2 45 "TileHandModel" "groups" "[I") (by decide +kernel)) (fun _ h9 => h9) rfl dX2_grouped_177 ?_
      refine lv_iload hx hb dX2_grouped_180 (lv_at hl 5 rfl) ?_
      obtain ⟨h11, hw⟩ := hw
      refine va_iald hx hb hK hP 3 0 rfl rfl h11 dX2_grouped_182 ?_
      refine lv_ishr hx hb dX2_grouped_183 ?_
      refine lv_iconst (v := 1) hx hb dX2_grouped_184 (by decide) ?_
      refine lv_iand hx hb dX2_grouped_185 ?_
      refine lv_iconst (v := 1) hx hb dX2_grouped_186 (by decide) ?_
      refine lv_icmp_ne (tgt := 193) hx hb dX2_grouped_187 (by decide) (fun c12 => ?_) (fun c12 => ?_)
      · have hw := hw.2 c12
        refine lv_iload hx hb dX2_grouped_193 (lv_at hl 4 rfl) ?_
        refine lv_iconst (v := 1) hx hb dX2_grouped_195 (by decide) ?_
        refine lv_aload_n hx hb dX2_grouped_196 rfl (lv_at hl 0 rfl) ?_
        refine va_get (D := (dC, dI)) (ci := 2) (v := .ref bG) (C := RX2) (T := TX2) (N := 16) hx hb hts hinX2 hown hK hP 0 rfl rfl 13 (by decide) (hts (.fieldLink RX2 45 "TileHandModel" "groups" "[I") (by decide +kernel)) (fun _ h9 => h9) rfl dX2_grouped_197 ?_
        refine lv_iload hx hb dX2_grouped_200 (lv_at hl 5 rfl) ?_
        obtain ⟨h13, hw⟩ := hw
        refine va_iald hx hb hK hP 3 0 rfl rfl h13 dX2_grouped_202 ?_
        refine lv_ishl hx hb dX2_grouped_203 ?_
        refine lv_ior hx hb dX2_grouped_204 ?_
        refine lv_topi (fun t14 et14 => ?_)
        have hw := hw t14 et14
        refine lv_istore (lv' := [(4, .int t14), (0, .ref y), (1, .int p0), (2, .int v2), (3, .int v3), (5, .int v5), (6, .int v6)]) hx hb dX2_grouped_205 hl (by decide) rfl (fun ls hl => ?_)
        refine lv_iinc (v := v3 + 1) (lv' := [(3, .int (v3 + 1)), (4, .int t14), (0, .ref y), (1, .int p0), (2, .int v2), (5, .int v5), (6, .int v6)]) hx hb dX2_grouped_207 hl (k := 4) rfl rfl (by decide) rfl (fun ls hl => ?_)
        exact L210 K75 hK75 v2 (v3 + 1) t14 v5 _ _ _ hw hP hD hS (lv_sub hl [2, 3, 4, 0, 1, 5] rfl)
      · have hw := hw.1 c12
        refine lv_goto (tgt := 210) hx hb dX2_grouped_190 (by decide) ?_
        exact L210 K75 hK75 v2 v3 v4 v5 _ _ _ hw hP hD hS (lv_sub hl [0, 1, 2, 3, 4, 5] rfl)
  have L161 : ∀ (K75 : Int32 → Int32 → Int32 → Int32 → Prop) (hK75 : ∀ (v2 : Int32) (v3 : Int32) (v4 : Int32) (v5 : Int32) (H : Heap) (locs : List Loc) (ls : Array Slot), K75 v2 v3 v4 v5 → va_P (dC, dI) vwCl [(y, .inr (2, [.int thr, .ref bH, .ref bS, .ref bL, .int mel, .ref bO, .ref bK, .ref bZ, .int sea, .int rnd, .int bas, .int lim, .ref bR, .ref bG, .ref bB, .ref bX])), (bO, .inl (cI, 4, .inl oM)), (bK, .inl (cI, 4, .inl kM)), (bG, .inl (cI, 4, .inl gM))] H → va_D A [(y, .inr (2, [.int thr, .ref bH, .ref bS, .ref bL, .int mel, .ref bO, .ref bK, .ref bZ, .int sea, .int rnd, .int bas, .int lim, .ref bR, .ref bG, .ref bB, .ref bX])), (bO, .inl (cI, 4, .inl oM)), (bK, .inl (cI, 4, .inl kM)), (bG, .inl (cI, 4, .inl gM))] → va_S A s.heap H locs → lv_has ls 8 [(0, .ref y), (1, .int p0), (2, .int v2), (3, .int v3), (4, .int v4), (5, .int v5)] → W p l e ({ frames := 2, cells := 0, slots := 0, locals := 40 } : Room) s m ([.ref y, .int p0] : List Value).toArray below meth c H locs 0 0 Q9 (F0 m 75 ls [])) (K127 : Int32 → Int32 → Int32 → Int32 → Int32 → Int32 → Prop) (hK127 : ∀ (v2 : Int32) (v3 : Int32) (v4 : Int32) (v5 : Int32) (v6 : Int32) (v7 : Int32) (H : Heap) (locs : List Loc) (ls : Array Slot), K127 v2 v3 v4 v5 v6 v7 → va_P (dC, dI) vwCl [(y, .inr (2, [.int thr, .ref bH, .ref bS, .ref bL, .int mel, .ref bO, .ref bK, .ref bZ, .int sea, .int rnd, .int bas, .int lim, .ref bR, .ref bG, .ref bB, .ref bX])), (bO, .inl (cI, 4, .inl oM)), (bK, .inl (cI, 4, .inl kM)), (bG, .inl (cI, 4, .inl gM))] H → va_D A [(y, .inr (2, [.int thr, .ref bH, .ref bS, .ref bL, .int mel, .ref bO, .ref bK, .ref bZ, .int sea, .int rnd, .int bas, .int lim, .ref bR, .ref bG, .ref bB, .ref bX])), (bO, .inl (cI, 4, .inl oM)), (bK, .inl (cI, 4, .inl kM)), (bG, .inl (cI, 4, .inl gM))] → va_S A s.heap H locs → lv_has ls 8 [(0, .ref y), (1, .int p0), (2, .int v2), (3, .int v3), (4, .int v4), (5, .int v5), (6, .int v6), (7, .int v7)] → W p l e ({ frames := 2, cells := 0, slots := 0, locals := 40 } : Room) s m ([.ref y, .int p0] : List Value).toArray below meth c H locs 0 0 Q9 (F0 m 127 ls [])), ∀ (v2 : Int32) (v3 : Int32) (v4 : Int32) (v5 : Int32) (v7 : Int32) (s1 : Int32) (H : Heap) (locs : List Loc) (ls : Array Slot), w_X2_grouped_b161 post mel sea rnd oM kM gM p0 K75 K127 v2 v3 v4 v5 v7 s1 → va_P (dC, dI) vwCl [(y, .inr (2, [.int thr, .ref bH, .ref bS, .ref bL, .int mel, .ref bO, .ref bK, .ref bZ, .int sea, .int rnd, .int bas, .int lim, .ref bR, .ref bG, .ref bB, .ref bX])), (bO, .inl (cI, 4, .inl oM)), (bK, .inl (cI, 4, .inl kM)), (bG, .inl (cI, 4, .inl gM))] H → va_D A [(y, .inr (2, [.int thr, .ref bH, .ref bS, .ref bL, .int mel, .ref bO, .ref bK, .ref bZ, .int sea, .int rnd, .int bas, .int lim, .ref bR, .ref bG, .ref bB, .ref bX])), (bO, .inl (cI, 4, .inl oM)), (bK, .inl (cI, 4, .inl kM)), (bG, .inl (cI, 4, .inl gM))] → va_S A s.heap H locs → lv_has ls 8 [(0, .ref y), (1, .int p0), (2, .int v2), (3, .int v3), (4, .int v4), (5, .int v5), (7, .int v7)] → W p l e ({ frames := 2, cells := 0, slots := 0, locals := 40 } : Room) s m ([.ref y, .int p0] : List Value).toArray below meth c H locs 0 0 Q9 (F0 m 161 ls [.int s1]) := by
    intro K75 hK75 K127 hK127 v2 v3 v4 v5 v7 s1 H locs ls hw hP hD hS hl
    refine lv_istore (lv' := [(6, .int s1), (0, .ref y), (1, .int p0), (2, .int v2), (3, .int v3), (4, .int v4), (5, .int v5), (7, .int v7)]) hx hb dX2_grouped_161 hl (by decide) rfl (fun ls hl => ?_)
    refine lv_iinc (v := v7 + 1) (lv' := [(7, .int (v7 + 1)), (6, .int s1), (0, .ref y), (1, .int p0), (2, .int v2), (3, .int v3), (4, .int v4), (5, .int v5)]) hx hb dX2_grouped_163 hl (k := 7) rfl rfl (by decide) rfl (fun ls hl => ?_)
    refine lv_goto (tgt := 127) hx hb dX2_grouped_166 (by decide) ?_
    exact hK127 v2 v3 v4 v5 s1 (v7 + 1) _ _ _ hw hP hD hS (lv_sub hl [2, 3, 4, 5, 6, 7, 1, 0] rfl)
  have L156 : ∀ (K75 : Int32 → Int32 → Int32 → Int32 → Prop) (hK75 : ∀ (v2 : Int32) (v3 : Int32) (v4 : Int32) (v5 : Int32) (H : Heap) (locs : List Loc) (ls : Array Slot), K75 v2 v3 v4 v5 → va_P (dC, dI) vwCl [(y, .inr (2, [.int thr, .ref bH, .ref bS, .ref bL, .int mel, .ref bO, .ref bK, .ref bZ, .int sea, .int rnd, .int bas, .int lim, .ref bR, .ref bG, .ref bB, .ref bX])), (bO, .inl (cI, 4, .inl oM)), (bK, .inl (cI, 4, .inl kM)), (bG, .inl (cI, 4, .inl gM))] H → va_D A [(y, .inr (2, [.int thr, .ref bH, .ref bS, .ref bL, .int mel, .ref bO, .ref bK, .ref bZ, .int sea, .int rnd, .int bas, .int lim, .ref bR, .ref bG, .ref bB, .ref bX])), (bO, .inl (cI, 4, .inl oM)), (bK, .inl (cI, 4, .inl kM)), (bG, .inl (cI, 4, .inl gM))] → va_S A s.heap H locs → lv_has ls 8 [(0, .ref y), (1, .int p0), (2, .int v2), (3, .int v3), (4, .int v4), (5, .int v5)] → W p l e ({ frames := 2, cells := 0, slots := 0, locals := 40 } : Room) s m ([.ref y, .int p0] : List Value).toArray below meth c H locs 0 0 Q9 (F0 m 75 ls [])) (K127 : Int32 → Int32 → Int32 → Int32 → Int32 → Int32 → Prop) (hK127 : ∀ (v2 : Int32) (v3 : Int32) (v4 : Int32) (v5 : Int32) (v6 : Int32) (v7 : Int32) (H : Heap) (locs : List Loc) (ls : Array Slot), K127 v2 v3 v4 v5 v6 v7 → va_P (dC, dI) vwCl [(y, .inr (2, [.int thr, .ref bH, .ref bS, .ref bL, .int mel, .ref bO, .ref bK, .ref bZ, .int sea, .int rnd, .int bas, .int lim, .ref bR, .ref bG, .ref bB, .ref bX])), (bO, .inl (cI, 4, .inl oM)), (bK, .inl (cI, 4, .inl kM)), (bG, .inl (cI, 4, .inl gM))] H → va_D A [(y, .inr (2, [.int thr, .ref bH, .ref bS, .ref bL, .int mel, .ref bO, .ref bK, .ref bZ, .int sea, .int rnd, .int bas, .int lim, .ref bR, .ref bG, .ref bB, .ref bX])), (bO, .inl (cI, 4, .inl oM)), (bK, .inl (cI, 4, .inl kM)), (bG, .inl (cI, 4, .inl gM))] → va_S A s.heap H locs → lv_has ls 8 [(0, .ref y), (1, .int p0), (2, .int v2), (3, .int v3), (4, .int v4), (5, .int v5), (6, .int v6), (7, .int v7)] → W p l e ({ frames := 2, cells := 0, slots := 0, locals := 40 } : Room) s m ([.ref y, .int p0] : List Value).toArray below meth c H locs 0 0 Q9 (F0 m 127 ls [])), ∀ (v2 : Int32) (v3 : Int32) (v4 : Int32) (v5 : Int32) (v7 : Int32) (H : Heap) (locs : List Loc) (ls : Array Slot), w_X2_grouped_b156 post mel sea rnd oM kM gM p0 K75 K127 v2 v3 v4 v5 v7 → va_P (dC, dI) vwCl [(y, .inr (2, [.int thr, .ref bH, .ref bS, .ref bL, .int mel, .ref bO, .ref bK, .ref bZ, .int sea, .int rnd, .int bas, .int lim, .ref bR, .ref bG, .ref bB, .ref bX])), (bO, .inl (cI, 4, .inl oM)), (bK, .inl (cI, 4, .inl kM)), (bG, .inl (cI, 4, .inl gM))] H → va_D A [(y, .inr (2, [.int thr, .ref bH, .ref bS, .ref bL, .int mel, .ref bO, .ref bK, .ref bZ, .int sea, .int rnd, .int bas, .int lim, .ref bR, .ref bG, .ref bB, .ref bX])), (bO, .inl (cI, 4, .inl oM)), (bK, .inl (cI, 4, .inl kM)), (bG, .inl (cI, 4, .inl gM))] → va_S A s.heap H locs → lv_has ls 8 [(0, .ref y), (1, .int p0), (2, .int v2), (3, .int v3), (4, .int v4), (5, .int v5), (7, .int v7)] → W p l e ({ frames := 2, cells := 0, slots := 0, locals := 40 } : Room) s m ([.ref y, .int p0] : List Value).toArray below meth c H locs 0 0 Q9 (F0 m 156 ls []) := by
    intro K75 hK75 K127 hK127 v2 v3 v4 v5 v7 H locs ls hw hP hD hS hl
    refine lv_iconst (v := 1) hx hb dX2_grouped_156 (by decide) ?_
    refine lv_goto (tgt := 161) hx hb dX2_grouped_157 (by decide) ?_
    exact L161 K75 hK75 K127 hK127 v2 v3 v4 v5 v7 (1 : Int32) _ _ _ hw hP hD hS (lv_sub hl [0, 1, 2, 3, 4, 5, 6] rfl)
  have L127 : ∀ (K75 : Int32 → Int32 → Int32 → Int32 → Prop) (hK75 : ∀ (v2 : Int32) (v3 : Int32) (v4 : Int32) (v5 : Int32) (H : Heap) (locs : List Loc) (ls : Array Slot), K75 v2 v3 v4 v5 → va_P (dC, dI) vwCl [(y, .inr (2, [.int thr, .ref bH, .ref bS, .ref bL, .int mel, .ref bO, .ref bK, .ref bZ, .int sea, .int rnd, .int bas, .int lim, .ref bR, .ref bG, .ref bB, .ref bX])), (bO, .inl (cI, 4, .inl oM)), (bK, .inl (cI, 4, .inl kM)), (bG, .inl (cI, 4, .inl gM))] H → va_D A [(y, .inr (2, [.int thr, .ref bH, .ref bS, .ref bL, .int mel, .ref bO, .ref bK, .ref bZ, .int sea, .int rnd, .int bas, .int lim, .ref bR, .ref bG, .ref bB, .ref bX])), (bO, .inl (cI, 4, .inl oM)), (bK, .inl (cI, 4, .inl kM)), (bG, .inl (cI, 4, .inl gM))] → va_S A s.heap H locs → lv_has ls 8 [(0, .ref y), (1, .int p0), (2, .int v2), (3, .int v3), (4, .int v4), (5, .int v5)] → W p l e ({ frames := 2, cells := 0, slots := 0, locals := 40 } : Room) s m ([.ref y, .int p0] : List Value).toArray below meth c H locs 0 0 Q9 (F0 m 75 ls [])), ∀ (n : Nat), ∀ (v2 : Int32) (v3 : Int32) (v4 : Int32) (v5 : Int32) (v6 : Int32) (v7 : Int32) (H : Heap) (locs : List Loc) (ls : Array Slot), w_X2_grouped_b127 post mel sea rnd oM kM gM p0 K75 n v2 v3 v4 v5 v6 v7 → va_P (dC, dI) vwCl [(y, .inr (2, [.int thr, .ref bH, .ref bS, .ref bL, .int mel, .ref bO, .ref bK, .ref bZ, .int sea, .int rnd, .int bas, .int lim, .ref bR, .ref bG, .ref bB, .ref bX])), (bO, .inl (cI, 4, .inl oM)), (bK, .inl (cI, 4, .inl kM)), (bG, .inl (cI, 4, .inl gM))] H → va_D A [(y, .inr (2, [.int thr, .ref bH, .ref bS, .ref bL, .int mel, .ref bO, .ref bK, .ref bZ, .int sea, .int rnd, .int bas, .int lim, .ref bR, .ref bG, .ref bB, .ref bX])), (bO, .inl (cI, 4, .inl oM)), (bK, .inl (cI, 4, .inl kM)), (bG, .inl (cI, 4, .inl gM))] → va_S A s.heap H locs → lv_has ls 8 [(0, .ref y), (1, .int p0), (2, .int v2), (3, .int v3), (4, .int v4), (5, .int v5), (6, .int v6), (7, .int v7)] → W p l e ({ frames := 2, cells := 0, slots := 0, locals := 40 } : Room) s m ([.ref y, .int p0] : List Value).toArray below meth c H locs 0 0 Q9 (F0 m 127 ls []) := by
    intro K75 hK75 n
    induction n with
    | zero => intro v2 v3 v4 v5 v6 v7 H locs ls hw _ _ _ _; exact False.elim hw
    | succ n ih =>
      intro v2 v3 v4 v5 v6 v7 H locs ls hw hP hD hS hl
      refine lv_iload hx hb dX2_grouped_127 (lv_at hl 7 rfl) ?_
      refine lv_iload hx hb dX2_grouped_129 (lv_at hl 5 rfl) ?_
      refine lv_icmp_ge (tgt := 169) hx hb dX2_grouped_131 (by decide) (fun c9 => ?_) (fun c9 => ?_)
      · have hw := hw.1 c9
        exact L169 K75 hK75 v2 v3 v4 v5 v6 _ _ _ hw hP hD hS (lv_sub hl [0, 1, 2, 3, 4, 5, 6] rfl)
      · have hw := hw.2 c9
        refine lv_iload hx hb dX2_grouped_134 (lv_at hl 6 rfl) ?_
        refine lv_if_ne (tgt := 156) hx hb dX2_grouped_136 (by decide) (fun c15 => ?_) (fun c15 => ?_)
        · have hw := hw.2 c15
          exact L156 K75 hK75 (w_X2_grouped_b127 post mel sea rnd oM kM gM p0 K75 n) ih v2 v3 v4 v5 v7 _ _ _ hw hP hD hS (lv_sub hl [0, 1, 2, 3, 4, 5, 7] rfl)
        · have hw := hw.1 c15
          refine lv_aload_n hx hb dX2_grouped_139 rfl (lv_at hl 0 rfl) ?_
          refine va_get (D := (dC, dI)) (ci := 2) (v := .ref bG) (C := RX2) (T := TX2) (N := 16) hx hb hts hinX2 hown hK hP 0 rfl rfl 13 (by decide) (hts (.fieldLink RX2 45 "TileHandModel" "groups" "[I") (by decide +kernel)) (fun _ h9 => h9) rfl dX2_grouped_140 ?_
          refine lv_iload hx hb dX2_grouped_143 (lv_at hl 7 rfl) ?_
          obtain ⟨h16, hw⟩ := hw
          refine va_iald hx hb hK hP 3 0 rfl rfl h16 dX2_grouped_145 ?_
          refine lv_aload_n hx hb dX2_grouped_146 rfl (lv_at hl 0 rfl) ?_
          refine va_get (D := (dC, dI)) (ci := 2) (v := .ref bG) (C := RX2) (T := TX2) (N := 16) hx hb hts hinX2 hown hK hP 0 rfl rfl 13 (by decide) (hts (.fieldLink RX2 45 "TileHandModel" "groups" "[I") (by decide +kernel)) (fun _ h9 => h9) rfl dX2_grouped_147 ?_
          refine lv_iload hx hb dX2_grouped_150 (lv_at hl 5 rfl) ?_
          obtain ⟨h17, hw⟩ := hw
          refine va_iald hx hb hK hP 3 0 rfl rfl h17 dX2_grouped_152 ?_
          refine lv_icmp_ne (tgt := 160) hx hb dX2_grouped_153 (by decide) (fun c18 => ?_) (fun c18 => ?_)
          · have hw := hw.2 c18
            refine lv_iconst (v := 0) hx hb dX2_grouped_160 (by decide) ?_
            exact L161 K75 hK75 (w_X2_grouped_b127 post mel sea rnd oM kM gM p0 K75 n) ih v2 v3 v4 v5 v7 (0 : Int32) _ _ _ hw hP hD hS (lv_sub hl [0, 1, 2, 3, 4, 5, 7] rfl)
          · have hw := hw.1 c18
            exact L156 K75 hK75 (w_X2_grouped_b127 post mel sea rnd oM kM gM p0 K75 n) ih v2 v3 v4 v5 v7 _ _ _ hw hP hD hS (lv_sub hl [0, 1, 2, 3, 4, 5, 7] rfl)
  have L75 : ∀ (n : Nat), ∀ (v2 : Int32) (v3 : Int32) (v4 : Int32) (v5 : Int32) (H : Heap) (locs : List Loc) (ls : Array Slot), w_X2_grouped_b75 post mel sea rnd oM kM gM p0 n v2 v3 v4 v5 → va_P (dC, dI) vwCl [(y, .inr (2, [.int thr, .ref bH, .ref bS, .ref bL, .int mel, .ref bO, .ref bK, .ref bZ, .int sea, .int rnd, .int bas, .int lim, .ref bR, .ref bG, .ref bB, .ref bX])), (bO, .inl (cI, 4, .inl oM)), (bK, .inl (cI, 4, .inl kM)), (bG, .inl (cI, 4, .inl gM))] H → va_D A [(y, .inr (2, [.int thr, .ref bH, .ref bS, .ref bL, .int mel, .ref bO, .ref bK, .ref bZ, .int sea, .int rnd, .int bas, .int lim, .ref bR, .ref bG, .ref bB, .ref bX])), (bO, .inl (cI, 4, .inl oM)), (bK, .inl (cI, 4, .inl kM)), (bG, .inl (cI, 4, .inl gM))] → va_S A s.heap H locs → lv_has ls 8 [(0, .ref y), (1, .int p0), (2, .int v2), (3, .int v3), (4, .int v4), (5, .int v5)] → W p l e ({ frames := 2, cells := 0, slots := 0, locals := 40 } : Room) s m ([.ref y, .int p0] : List Value).toArray below meth c H locs 0 0 Q9 (F0 m 75 ls []) := by
    intro n
    induction n with
    | zero => intro v2 v3 v4 v5 H locs ls hw _ _ _ _; exact False.elim hw
    | succ n ih =>
      intro v2 v3 v4 v5 H locs ls hw hP hD hS hl
      refine lv_iload hx hb dX2_grouped_75 (lv_at hl 5 rfl) ?_
      refine lv_iconst (v := 4) hx hb dX2_grouped_77 (by decide) ?_
      refine lv_aload_n hx hb dX2_grouped_78 rfl (lv_at hl 0 rfl) ?_
      refine va_get (D := (dC, dI)) (ci := 2) (v := .int mel) (C := RX2) (T := TX2) (N := 16) hx hb hts hinX2 hown hK hP 0 rfl rfl 4 (by decide) (hts (.fieldLink RX2 69 "TileHandModel" "melds" "I") (by decide +kernel)) (fun _ h9 => h9) rfl dX2_grouped_79 ?_
      refine lv_isub hx hb dX2_grouped_82 ?_
      refine lv_icmp_ge (tgt := 216) hx hb dX2_grouped_83 (by decide) (fun c2 => ?_) (fun c2 => ?_)
      · have hw := hw.1 c2
        exact L216 v2 v3 _ _ _ hw hP hD hS (lv_sub hl [0, 1, 2, 3] rfl)
      · have hw := hw.2 c2
        refine lv_aload_n hx hb dX2_grouped_86 rfl (lv_at hl 0 rfl) ?_
        refine va_get (D := (dC, dI)) (ci := 2) (v := .ref bG) (C := RX2) (T := TX2) (N := 16) hx hb hts hinX2 hown hK hP 0 rfl rfl 13 (by decide) (hts (.fieldLink RX2 45 "TileHandModel" "groups" "[I") (by decide +kernel)) (fun _ h9 => h9) rfl dX2_grouped_87 ?_
        refine lv_iload hx hb dX2_grouped_90 (lv_at hl 5 rfl) ?_
        obtain ⟨h7, hw⟩ := hw
        refine va_iald hx hb hK hP 3 0 rfl rfl h7 dX2_grouped_92 ?_
        refine lv_bipush (v := 100) hx hb dX2_grouped_93 (by decide) ?_
        refine lv_icmp_lt (tgt := 118) hx hb dX2_grouped_95 (by decide) (fun c8 => ?_) (fun c8 => ?_)
        · have hw := hw.1 c8
          refine lv_iinc (v := v2 + 1) (lv' := [(2, .int (v2 + 1)), (0, .ref y), (1, .int p0), (3, .int v3), (4, .int v4), (5, .int v5)]) hx hb dX2_grouped_118 hl (k := 2) rfl rfl (by decide) rfl (fun ls hl => ?_)
          refine lv_iconst (v := 0) hx hb dX2_grouped_121 (by decide) ?_
          refine lv_istore (lv' := [(6, .int (0 : Int32)), (2, .int (v2 + 1)), (0, .ref y), (1, .int p0), (3, .int v3), (4, .int v4), (5, .int v5)]) hx hb dX2_grouped_122 hl (by decide) rfl (fun ls hl => ?_)
          refine lv_iconst (v := 0) hx hb dX2_grouped_124 (by decide) ?_
          refine lv_istore (lv' := [(7, .int (0 : Int32)), (6, .int (0 : Int32)), (2, .int (v2 + 1)), (0, .ref y), (1, .int p0), (3, .int v3), (4, .int v4), (5, .int v5)]) hx hb dX2_grouped_125 hl (by decide) rfl (fun ls hl => ?_)
          obtain ⟨n9, hw⟩ := hw
          exact L127 (w_X2_grouped_b75 post mel sea rnd oM kM gM p0 n) ih n9 (v2 + 1) v3 v4 v5 (0 : Int32) (0 : Int32) _ _ _ hw hP hD hS (lv_sub hl [3, 4, 2, 5, 6, 7, 1, 0] rfl)
        · have hw := hw.2 c8
          refine lv_iload_n hx hb dX2_grouped_98 rfl (lv_at hl 3 rfl) ?_
          refine lv_aload_n hx hb dX2_grouped_99 rfl (lv_at hl 0 rfl) ?_
          refine lv_aload_n hx hb dX2_grouped_100 rfl (lv_at hl 0 rfl) ?_
          refine va_get (D := (dC, dI)) (ci := 2) (v := .ref bG) (C := RX2) (T := TX2) (N := 16) hx hb hts hinX2 hown hK hP 0 rfl rfl 13 (by decide) (hts (.fieldLink RX2 45 "TileHandModel" "groups" "[I") (by decide +kernel)) (fun _ h9 => h9) rfl dX2_grouped_101 ?_
          refine lv_iload hx hb dX2_grouped_104 (lv_at hl 5 rfl) ?_
          obtain ⟨h19, hw⟩ := hw
          refine va_iald hx hb hK hP 3 0 rfl rfl h19 dX2_grouped_106 ?_
          refine lv_bipush (v := 100) hx hb dX2_grouped_107 (by decide) ?_
          refine lv_isub hx hb dX2_grouped_109 ?_
          have hPc := hP.sub (ws' := [(y, .inr (2, [.int thr, .ref bH, .ref bS, .ref bL, .int mel, .ref bO, .ref bK, .ref bZ, .int sea, .int rnd, .int bas, .int lim, .ref bR, .ref bG, .ref bB, .ref bX]))]) [0] rfl
          have hDc := hD.sub (ws' := [(y, .inr (2, [.int thr, .ref bH, .ref bS, .ref bL, .int mel, .ref bO, .ref bK, .ref bZ, .int sea, .int rnd, .int bas, .int lim, .ref bR, .ref bG, .ref bB, .ref bX]))]) [0] (by decide) rfl
          have hFc := va_free (wc := [(y, .inr (2, [.int thr, .ref bH, .ref bS, .ref bL, .int mel, .ref bO, .ref bK, .ref bZ, .int sea, .int rnd, .int bas, .int lim, .ref bR, .ref bG, .ref bB, .ref bX]))]) hD hS hA [0] rfl
          refine va_calli (va_runV (As := [.int ((gM v5.toNatClampNeg) - (100 : Int32))]) (rest := [.int v3]) ⟨hx, hb, hml, hown, hts⟩ (c_X2_honoured l dC dI cI cZ y bH bS bL bO bK bZ bR bG bB bX H.size thr mel sea rnd bas lim ((gM v5.toNatClampNeg) - (100 : Int32)) _ hw) (cwV 1 hts gX2_grouped_X2_honoured rfl rfl rfl (by decide +kernel) ⟨Nat.le_of_ble_eq_true rfl, Nat.le_of_ble_eq_true rfl⟩) ⟨fun a U g mk q => by obtain ⟨q0, q1, qP, qK, qD⟩ := q; exact ⟨q0, q1, qP, va_K.moved (u := U) (U := U.calling g mk a) (Vm.Alike.refl U.vm) qK, qD⟩, va_recv hK hPc (ci := 2) (q0 := 0) rfl rfl, fun U hU hW => ⟨rfl, by rw [hU], by rw [hU]; exact hPc, va_K.moved hW.alike hK, hDc.weaken (fun _ _ _ _ => trivial)⟩⟩ rfl rfl hl.1 rfl (lv_room (Nat.le_of_ble_eq_true rfl)) dX2_grouped_110 ⟨Nat.le_of_ble_eq_true rfl, Nat.le_of_ble_eq_true rfl⟩) hS (fun q _ h => hFc q h) hFc (fun r20 u t H1 locs ht hvm hw hB hz1 hk1 hS => ?_)
          obtain ⟨hP1, -, hD1⟩ := hB
          have hw := And.intro hw trivial
          try dsimp only at hw
          have hw := hw.1
          rw [ht] at hP1
          obtain ⟨hP, hD⟩ := va_join (wr := [(bO, .inl (cI, 4, .inl oM)), (bK, .inl (cI, 4, .inl kM)), (bG, .inl (cI, 4, .inl gM))]) (w1 := [(y, .inr (2, [.int thr, .ref bH, .ref bS, .ref bL, .int mel, .ref bO, .ref bK, .ref bZ, .int sea, .int rnd, .int bas, .int lim, .ref bR, .ref bG, .ref bB, .ref bX]))]) hP hD [0] [1, 2, 3] rfl rfl (by decide) (by decide) hk1 hFc hP1 hD1
          generalize H1 = H at hP hS ⊢
          have hP : va_P (dC, dI) vwCl [(bO, .inl (cI, 4, .inl oM)), (bK, .inl (cI, 4, .inl kM)), (bG, .inl (cI, 4, .inl gM)), (y, .inr (2, [.int thr, .ref bH, .ref bS, .ref bL, .int mel, .ref bO, .ref bK, .ref bZ, .int sea, .int rnd, .int bas, .int lim, .ref bR, .ref bG, .ref bB, .ref bX]))] H := hP
          have hD : va_D A [(bO, .inl (cI, 4, .inl oM)), (bK, .inl (cI, 4, .inl kM)), (bG, .inl (cI, 4, .inl gM)), (y, .inr (2, [.int thr, .ref bH, .ref bS, .ref bL, .int mel, .ref bO, .ref bK, .ref bZ, .int sea, .int rnd, .int bas, .int lim, .ref bR, .ref bG, .ref bB, .ref bX]))] := hD
          refine lv_iadd hx hb dX2_grouped_113 ?_
          refine lv_istore_n (lv' := [(3, .int (v3 + r20)), (0, .ref y), (1, .int p0), (2, .int v2), (4, .int v4), (5, .int v5)]) hx hb dX2_grouped_114 rfl hl (by decide) rfl (fun ls hl => ?_)
          refine lv_goto (tgt := 210) hx hb dX2_grouped_115 (by decide) ?_
          have hP9 := hP.sub (ws' := [(y, .inr (2, [.int thr, .ref bH, .ref bS, .ref bL, .int mel, .ref bO, .ref bK, .ref bZ, .int sea, .int rnd, .int bas, .int lim, .ref bR, .ref bG, .ref bB, .ref bX])), (bO, .inl (cI, 4, .inl oM)), (bK, .inl (cI, 4, .inl kM)), (bG, .inl (cI, 4, .inl gM))]) [3, 0, 1, 2] rfl
          have hD9 := hD.sub (ws' := [(y, .inr (2, [.int thr, .ref bH, .ref bS, .ref bL, .int mel, .ref bO, .ref bK, .ref bZ, .int sea, .int rnd, .int bas, .int lim, .ref bR, .ref bG, .ref bB, .ref bX])), (bO, .inl (cI, 4, .inl oM)), (bK, .inl (cI, 4, .inl kM)), (bG, .inl (cI, 4, .inl gM))]) [3, 0, 1, 2] (by decide) rfl
          exact L210 (w_X2_grouped_b75 post mel sea rnd oM kM gM p0 n) ih v2 (v3 + r20) v4 v5 _ _ _ hw hP9 hD9 hS (lv_sub hl [1, 2, 3, 0, 4, 5] rfl)
  have L69 : ∀ (v2 : Int32) (v3 : Int32) (H : Heap) (locs : List Loc) (ls : Array Slot), w_X2_grouped_b69 post mel sea rnd oM kM gM p0 v2 v3 → va_P (dC, dI) vwCl [(y, .inr (2, [.int thr, .ref bH, .ref bS, .ref bL, .int mel, .ref bO, .ref bK, .ref bZ, .int sea, .int rnd, .int bas, .int lim, .ref bR, .ref bG, .ref bB, .ref bX])), (bO, .inl (cI, 4, .inl oM)), (bK, .inl (cI, 4, .inl kM)), (bG, .inl (cI, 4, .inl gM))] H → va_D A [(y, .inr (2, [.int thr, .ref bH, .ref bS, .ref bL, .int mel, .ref bO, .ref bK, .ref bZ, .int sea, .int rnd, .int bas, .int lim, .ref bR, .ref bG, .ref bB, .ref bX])), (bO, .inl (cI, 4, .inl oM)), (bK, .inl (cI, 4, .inl kM)), (bG, .inl (cI, 4, .inl gM))] → va_S A s.heap H locs → lv_has ls 8 [(0, .ref y), (1, .int p0), (2, .int v2), (3, .int v3)] → W p l e ({ frames := 2, cells := 0, slots := 0, locals := 40 } : Room) s m ([.ref y, .int p0] : List Value).toArray below meth c H locs 0 0 Q9 (F0 m 69 ls []) := by
    intro v2 v3 H locs ls hw hP hD hS hl
    refine lv_iconst (v := 0) hx hb dX2_grouped_69 (by decide) ?_
    refine lv_istore (lv' := [(4, .int (0 : Int32)), (0, .ref y), (1, .int p0), (2, .int v2), (3, .int v3)]) hx hb dX2_grouped_70 hl (by decide) rfl (fun ls hl => ?_)
    refine lv_iconst (v := 0) hx hb dX2_grouped_72 (by decide) ?_
    refine lv_istore (lv' := [(5, .int (0 : Int32)), (4, .int (0 : Int32)), (0, .ref y), (1, .int p0), (2, .int v2), (3, .int v3)]) hx hb dX2_grouped_73 hl (by decide) rfl (fun ls hl => ?_)
    obtain ⟨n9, hw⟩ := hw
    exact L75 n9 v2 v3 (0 : Int32) (0 : Int32) _ _ _ hw hP hD hS (lv_sub hl [2, 3, 4, 5, 1, 0] rfl)
  have L63 : ∀ (K7 : Int32 → Int32 → Int32 → Prop) (hK7 : ∀ (v2 : Int32) (v3 : Int32) (v4 : Int32) (H : Heap) (locs : List Loc) (ls : Array Slot), K7 v2 v3 v4 → va_P (dC, dI) vwCl [(y, .inr (2, [.int thr, .ref bH, .ref bS, .ref bL, .int mel, .ref bO, .ref bK, .ref bZ, .int sea, .int rnd, .int bas, .int lim, .ref bR, .ref bG, .ref bB, .ref bX])), (bO, .inl (cI, 4, .inl oM)), (bK, .inl (cI, 4, .inl kM)), (bG, .inl (cI, 4, .inl gM))] H → va_D A [(y, .inr (2, [.int thr, .ref bH, .ref bS, .ref bL, .int mel, .ref bO, .ref bK, .ref bZ, .int sea, .int rnd, .int bas, .int lim, .ref bR, .ref bG, .ref bB, .ref bX])), (bO, .inl (cI, 4, .inl oM)), (bK, .inl (cI, 4, .inl kM)), (bG, .inl (cI, 4, .inl gM))] → va_S A s.heap H locs → lv_has ls 8 [(0, .ref y), (1, .int p0), (2, .int v2), (3, .int v3), (4, .int v4)] → W p l e ({ frames := 2, cells := 0, slots := 0, locals := 40 } : Room) s m ([.ref y, .int p0] : List Value).toArray below meth c H locs 0 0 Q9 (F0 m 7 ls [])), ∀ (v2 : Int32) (v3 : Int32) (v4 : Int32) (H : Heap) (locs : List Loc) (ls : Array Slot), w_X2_grouped_b63 post mel sea rnd oM kM gM p0 K7 v2 v3 v4 → va_P (dC, dI) vwCl [(y, .inr (2, [.int thr, .ref bH, .ref bS, .ref bL, .int mel, .ref bO, .ref bK, .ref bZ, .int sea, .int rnd, .int bas, .int lim, .ref bR, .ref bG, .ref bB, .ref bX])), (bO, .inl (cI, 4, .inl oM)), (bK, .inl (cI, 4, .inl kM)), (bG, .inl (cI, 4, .inl gM))] H → va_D A [(y, .inr (2, [.int thr, .ref bH, .ref bS, .ref bL, .int mel, .ref bO, .ref bK, .ref bZ, .int sea, .int rnd, .int bas, .int lim, .ref bR, .ref bG, .ref bB, .ref bX])), (bO, .inl (cI, 4, .inl oM)), (bK, .inl (cI, 4, .inl kM)), (bG, .inl (cI, 4, .inl gM))] → va_S A s.heap H locs → lv_has ls 8 [(0, .ref y), (1, .int p0), (2, .int v2), (3, .int v3), (4, .int v4)] → W p l e ({ frames := 2, cells := 0, slots := 0, locals := 40 } : Room) s m ([.ref y, .int p0] : List Value).toArray below meth c H locs 0 0 Q9 (F0 m 63 ls []) := by
    intro K7 hK7 v2 v3 v4 H locs ls hw hP hD hS hl
    refine lv_iinc (v := v4 + 1) (lv' := [(4, .int (v4 + 1)), (0, .ref y), (1, .int p0), (2, .int v2), (3, .int v3)]) hx hb dX2_grouped_63 hl (k := 4) rfl rfl (by decide) rfl (fun ls hl => ?_)
    refine lv_goto (tgt := 7) hx hb dX2_grouped_66 (by decide) ?_
    exact hK7 v2 v3 (v4 + 1) _ _ _ hw hP hD hS (lv_sub hl [1, 2, 3, 4, 0] rfl)
  have L60 : ∀ (K7 : Int32 → Int32 → Int32 → Prop) (hK7 : ∀ (v2 : Int32) (v3 : Int32) (v4 : Int32) (H : Heap) (locs : List Loc) (ls : Array Slot), K7 v2 v3 v4 → va_P (dC, dI) vwCl [(y, .inr (2, [.int thr, .ref bH, .ref bS, .ref bL, .int mel, .ref bO, .ref bK, .ref bZ, .int sea, .int rnd, .int bas, .int lim, .ref bR, .ref bG, .ref bB, .ref bX])), (bO, .inl (cI, 4, .inl oM)), (bK, .inl (cI, 4, .inl kM)), (bG, .inl (cI, 4, .inl gM))] H → va_D A [(y, .inr (2, [.int thr, .ref bH, .ref bS, .ref bL, .int mel, .ref bO, .ref bK, .ref bZ, .int sea, .int rnd, .int bas, .int lim, .ref bR, .ref bG, .ref bB, .ref bX])), (bO, .inl (cI, 4, .inl oM)), (bK, .inl (cI, 4, .inl kM)), (bG, .inl (cI, 4, .inl gM))] → va_S A s.heap H locs → lv_has ls 8 [(0, .ref y), (1, .int p0), (2, .int v2), (3, .int v3), (4, .int v4)] → W p l e ({ frames := 2, cells := 0, slots := 0, locals := 40 } : Room) s m ([.ref y, .int p0] : List Value).toArray below meth c H locs 0 0 Q9 (F0 m 7 ls [])), ∀ (v2 : Int32) (v4 : Int32) (s3 : Int32) (s2 : Int32) (s1 : Int32) (H : Heap) (locs : List Loc) (ls : Array Slot), w_X2_grouped_b60 post mel sea rnd oM kM gM p0 K7 v2 v4 s3 s2 s1 → va_P (dC, dI) vwCl [(y, .inr (2, [.int thr, .ref bH, .ref bS, .ref bL, .int mel, .ref bO, .ref bK, .ref bZ, .int sea, .int rnd, .int bas, .int lim, .ref bR, .ref bG, .ref bB, .ref bX])), (bO, .inl (cI, 4, .inl oM)), (bK, .inl (cI, 4, .inl kM)), (bG, .inl (cI, 4, .inl gM))] H → va_D A [(y, .inr (2, [.int thr, .ref bH, .ref bS, .ref bL, .int mel, .ref bO, .ref bK, .ref bZ, .int sea, .int rnd, .int bas, .int lim, .ref bR, .ref bG, .ref bB, .ref bX])), (bO, .inl (cI, 4, .inl oM)), (bK, .inl (cI, 4, .inl kM)), (bG, .inl (cI, 4, .inl gM))] → va_S A s.heap H locs → lv_has ls 8 [(0, .ref y), (1, .int p0), (2, .int v2), (4, .int v4)] → W p l e ({ frames := 2, cells := 0, slots := 0, locals := 40 } : Room) s m ([.ref y, .int p0] : List Value).toArray below meth c H locs 0 0 Q9 (F0 m 60 ls [.int s3, .int s2, .int s1]) := by
    intro K7 hK7 v2 v4 s3 s2 s1 H locs ls hw hP hD hS hl
    refine lv_iadd hx hb dX2_grouped_60 ?_
    refine lv_iadd hx hb dX2_grouped_61 ?_
    refine lv_istore_n (lv' := [(3, .int (s1 + (s2 + s3))), (0, .ref y), (1, .int p0), (2, .int v2), (4, .int v4)]) hx hb dX2_grouped_62 rfl hl (by decide) rfl (fun ls hl => ?_)
    exact L63 K7 hK7 v2 (s1 + (s2 + s3)) v4 _ _ _ hw hP hD hS (lv_sub hl [1, 2, 3, 0, 4] rfl)
  have L7 : ∀ (n : Nat), ∀ (v2 : Int32) (v3 : Int32) (v4 : Int32) (H : Heap) (locs : List Loc) (ls : Array Slot), w_X2_grouped_b7 post mel sea rnd oM kM gM p0 n v2 v3 v4 → va_P (dC, dI) vwCl [(y, .inr (2, [.int thr, .ref bH, .ref bS, .ref bL, .int mel, .ref bO, .ref bK, .ref bZ, .int sea, .int rnd, .int bas, .int lim, .ref bR, .ref bG, .ref bB, .ref bX])), (bO, .inl (cI, 4, .inl oM)), (bK, .inl (cI, 4, .inl kM)), (bG, .inl (cI, 4, .inl gM))] H → va_D A [(y, .inr (2, [.int thr, .ref bH, .ref bS, .ref bL, .int mel, .ref bO, .ref bK, .ref bZ, .int sea, .int rnd, .int bas, .int lim, .ref bR, .ref bG, .ref bB, .ref bX])), (bO, .inl (cI, 4, .inl oM)), (bK, .inl (cI, 4, .inl kM)), (bG, .inl (cI, 4, .inl gM))] → va_S A s.heap H locs → lv_has ls 8 [(0, .ref y), (1, .int p0), (2, .int v2), (3, .int v3), (4, .int v4)] → W p l e ({ frames := 2, cells := 0, slots := 0, locals := 40 } : Room) s m ([.ref y, .int p0] : List Value).toArray below meth c H locs 0 0 Q9 (F0 m 7 ls []) := by
    intro n
    induction n with
    | zero => intro v2 v3 v4 H locs ls hw _ _ _ _; exact False.elim hw
    | succ n ih =>
      intro v2 v3 v4 H locs ls hw hP hD hS hl
      refine lv_iload hx hb dX2_grouped_7 (lv_at hl 4 rfl) ?_
      refine lv_aload_n hx hb dX2_grouped_9 rfl (lv_at hl 0 rfl) ?_
      refine va_get (D := (dC, dI)) (ci := 2) (v := .int mel) (C := RX2) (T := TX2) (N := 16) hx hb hts hinX2 hown hK hP 0 rfl rfl 4 (by decide) (hts (.fieldLink RX2 69 "TileHandModel" "melds" "I") (by decide +kernel)) (fun _ h9 => h9) rfl dX2_grouped_10 ?_
      refine lv_icmp_ge (tgt := 69) hx hb dX2_grouped_13 (by decide) (fun c1 => ?_) (fun c1 => ?_)
      · have hw := hw.1 c1
        exact L69 v2 v3 _ _ _ hw hP hD hS (lv_sub hl [0, 1, 2, 3] rfl)
      · have hw := hw.2 c1
        refine lv_aload_n hx hb dX2_grouped_16 rfl (lv_at hl 0 rfl) ?_
        refine va_get (D := (dC, dI)) (ci := 2) (v := .ref bO) (C := RX2) (T := TX2) (N := 16) hx hb hts hinX2 hown hK hP 0 rfl rfl 5 (by decide) (hts (.fieldLink RX2 19 "TileHandModel" "sorts" "[I") (by decide +kernel)) (fun _ h9 => h9) rfl dX2_grouped_17 ?_
        refine lv_iload hx hb dX2_grouped_20 (lv_at hl 4 rfl) ?_
        obtain ⟨h21, hw⟩ := hw
        refine va_iald hx hb hK hP 1 0 rfl rfl h21 dX2_grouped_22 ?_
        refine lv_if_ne (tgt := 32) hx hb dX2_grouped_23 (by decide) (fun c22 => ?_) (fun c22 => ?_)
        · have hw := hw.2 c22
          refine lv_iload_n hx hb dX2_grouped_32 rfl (lv_at hl 3 rfl) ?_
          refine lv_aload_n hx hb dX2_grouped_33 rfl (lv_at hl 0 rfl) ?_
          refine lv_aload_n hx hb dX2_grouped_34 rfl (lv_at hl 0 rfl) ?_
          refine va_get (D := (dC, dI)) (ci := 2) (v := .ref bK) (C := RX2) (T := TX2) (N := 16) hx hb hts hinX2 hown hK hP 0 rfl rfl 6 (by decide) (hts (.fieldLink RX2 22 "TileHandModel" "kinds" "[I") (by decide +kernel)) (fun _ h9 => h9) rfl dX2_grouped_35 ?_
          refine lv_iload hx hb dX2_grouped_38 (lv_at hl 4 rfl) ?_
          obtain ⟨h23, hw⟩ := hw
          refine va_iald hx hb hK hP 2 0 rfl rfl h23 dX2_grouped_40 ?_
          have hPc := hP.sub (ws' := [(y, .inr (2, [.int thr, .ref bH, .ref bS, .ref bL, .int mel, .ref bO, .ref bK, .ref bZ, .int sea, .int rnd, .int bas, .int lim, .ref bR, .ref bG, .ref bB, .ref bX]))]) [0] rfl
          have hDc := hD.sub (ws' := [(y, .inr (2, [.int thr, .ref bH, .ref bS, .ref bL, .int mel, .ref bO, .ref bK, .ref bZ, .int sea, .int rnd, .int bas, .int lim, .ref bR, .ref bG, .ref bB, .ref bX]))]) [0] (by decide) rfl
          have hFc := va_free (wc := [(y, .inr (2, [.int thr, .ref bH, .ref bS, .ref bL, .int mel, .ref bO, .ref bK, .ref bZ, .int sea, .int rnd, .int bas, .int lim, .ref bR, .ref bG, .ref bB, .ref bX]))]) hD hS hA [0] rfl
          refine va_calli (va_runV (As := [.int (kM v4.toNatClampNeg)]) (rest := [.int v3]) ⟨hx, hb, hml, hown, hts⟩ (c_X2_honoured l dC dI cI cZ y bH bS bL bO bK bZ bR bG bB bX H.size thr mel sea rnd bas lim (kM v4.toNatClampNeg) _ hw) (cwV 1 hts gX2_grouped_X2_honoured rfl rfl rfl (by decide +kernel) ⟨Nat.le_of_ble_eq_true rfl, Nat.le_of_ble_eq_true rfl⟩) ⟨fun a U g mk q => by obtain ⟨q0, q1, qP, qK, qD⟩ := q; exact ⟨q0, q1, qP, va_K.moved (u := U) (U := U.calling g mk a) (Vm.Alike.refl U.vm) qK, qD⟩, va_recv hK hPc (ci := 2) (q0 := 0) rfl rfl, fun U hU hW => ⟨rfl, by rw [hU], by rw [hU]; exact hPc, va_K.moved hW.alike hK, hDc.weaken (fun _ _ _ _ => trivial)⟩⟩ rfl rfl hl.1 rfl (lv_room (Nat.le_of_ble_eq_true rfl)) dX2_grouped_41 ⟨Nat.le_of_ble_eq_true rfl, Nat.le_of_ble_eq_true rfl⟩) hS (fun q _ h => hFc q h) hFc (fun r24 u t H1 locs ht hvm hw hB hz1 hk1 hS => ?_)
          obtain ⟨hP1, -, hD1⟩ := hB
          have hw := And.intro hw trivial
          try dsimp only at hw
          have hw := hw.1
          rw [ht] at hP1
          obtain ⟨hP, hD⟩ := va_join (wr := [(bO, .inl (cI, 4, .inl oM)), (bK, .inl (cI, 4, .inl kM)), (bG, .inl (cI, 4, .inl gM))]) (w1 := [(y, .inr (2, [.int thr, .ref bH, .ref bS, .ref bL, .int mel, .ref bO, .ref bK, .ref bZ, .int sea, .int rnd, .int bas, .int lim, .ref bR, .ref bG, .ref bB, .ref bX]))]) hP hD [0] [1, 2, 3] rfl rfl (by decide) (by decide) hk1 hFc hP1 hD1
          generalize H1 = H at hP hS ⊢
          have hP : va_P (dC, dI) vwCl [(bO, .inl (cI, 4, .inl oM)), (bK, .inl (cI, 4, .inl kM)), (bG, .inl (cI, 4, .inl gM)), (y, .inr (2, [.int thr, .ref bH, .ref bS, .ref bL, .int mel, .ref bO, .ref bK, .ref bZ, .int sea, .int rnd, .int bas, .int lim, .ref bR, .ref bG, .ref bB, .ref bX]))] H := hP
          have hD : va_D A [(bO, .inl (cI, 4, .inl oM)), (bK, .inl (cI, 4, .inl kM)), (bG, .inl (cI, 4, .inl gM)), (y, .inr (2, [.int thr, .ref bH, .ref bS, .ref bL, .int mel, .ref bO, .ref bK, .ref bZ, .int sea, .int rnd, .int bas, .int lim, .ref bR, .ref bG, .ref bB, .ref bX]))] := hD
          refine lv_aload_n hx hb dX2_grouped_44 rfl (lv_at hl 0 rfl) ?_
          refine va_get (D := (dC, dI)) (ci := 2) (v := .ref bO) (C := RX2) (T := TX2) (N := 16) hx hb hts hinX2 hown hK hP 3 rfl rfl 5 (by decide) (hts (.fieldLink RX2 19 "TileHandModel" "sorts" "[I") (by decide +kernel)) (fun _ h9 => h9) rfl dX2_grouped_45 ?_
          refine lv_iload hx hb dX2_grouped_48 (lv_at hl 4 rfl) ?_
          obtain ⟨h25, hw⟩ := hw
          refine va_iald hx hb hK hP 0 0 rfl rfl h25 dX2_grouped_50 ?_
          refine lv_iconst (v := 2) hx hb dX2_grouped_51 (by decide) ?_
          refine lv_icmp_ne (tgt := 59) hx hb dX2_grouped_52 (by decide) (fun c26 => ?_) (fun c26 => ?_)
          · have hw := hw.2 c26
            refine lv_iconst (v := 0) hx hb dX2_grouped_59 (by decide) ?_
            have hP9 := hP.sub (ws' := [(y, .inr (2, [.int thr, .ref bH, .ref bS, .ref bL, .int mel, .ref bO, .ref bK, .ref bZ, .int sea, .int rnd, .int bas, .int lim, .ref bR, .ref bG, .ref bB, .ref bX])), (bO, .inl (cI, 4, .inl oM)), (bK, .inl (cI, 4, .inl kM)), (bG, .inl (cI, 4, .inl gM))]) [3, 0, 1, 2] rfl
            have hD9 := hD.sub (ws' := [(y, .inr (2, [.int thr, .ref bH, .ref bS, .ref bL, .int mel, .ref bO, .ref bK, .ref bZ, .int sea, .int rnd, .int bas, .int lim, .ref bR, .ref bG, .ref bB, .ref bX])), (bO, .inl (cI, 4, .inl oM)), (bK, .inl (cI, 4, .inl kM)), (bG, .inl (cI, 4, .inl gM))]) [3, 0, 1, 2] (by decide) rfl
            exact L60 (w_X2_grouped_b7 post mel sea rnd oM kM gM p0 n) ih v2 v4 (0 : Int32) r24 v3 _ _ _ hw hP9 hD9 hS (lv_sub hl [0, 1, 2, 4] rfl)
          · have hw := hw.1 c26
            refine lv_iconst (v := 1) hx hb dX2_grouped_55 (by decide) ?_
            refine lv_goto (tgt := 60) hx hb dX2_grouped_56 (by decide) ?_
            have hP9 := hP.sub (ws' := [(y, .inr (2, [.int thr, .ref bH, .ref bS, .ref bL, .int mel, .ref bO, .ref bK, .ref bZ, .int sea, .int rnd, .int bas, .int lim, .ref bR, .ref bG, .ref bB, .ref bX])), (bO, .inl (cI, 4, .inl oM)), (bK, .inl (cI, 4, .inl kM)), (bG, .inl (cI, 4, .inl gM))]) [3, 0, 1, 2] rfl
            have hD9 := hD.sub (ws' := [(y, .inr (2, [.int thr, .ref bH, .ref bS, .ref bL, .int mel, .ref bO, .ref bK, .ref bZ, .int sea, .int rnd, .int bas, .int lim, .ref bR, .ref bG, .ref bB, .ref bX])), (bO, .inl (cI, 4, .inl oM)), (bK, .inl (cI, 4, .inl kM)), (bG, .inl (cI, 4, .inl gM))]) [3, 0, 1, 2] (by decide) rfl
            exact L60 (w_X2_grouped_b7 post mel sea rnd oM kM gM p0 n) ih v2 v4 (1 : Int32) r24 v3 _ _ _ hw hP9 hD9 hS (lv_sub hl [0, 1, 2, 4] rfl)
        · have hw := hw.1 c22
          refine lv_iinc (v := v2 + 1) (lv' := [(2, .int (v2 + 1)), (0, .ref y), (1, .int p0), (3, .int v3), (4, .int v4)]) hx hb dX2_grouped_26 hl (k := 2) rfl rfl (by decide) rfl (fun ls hl => ?_)
          refine lv_goto (tgt := 63) hx hb dX2_grouped_29 (by decide) ?_
          exact L63 (w_X2_grouped_b7 post mel sea rnd oM kM gM p0 n) ih (v2 + 1) v3 v4 _ _ _ hw hP hD hS (lv_sub hl [1, 2, 0, 3, 4] rfl)
  refine lv_iconst (v := 0) hx hb dX2_grouped_0 (by decide) ?_
  refine lv_istore_n (lv' := [(2, .int (0 : Int32)), (0, .ref y), (1, .int p0)]) hx hb dX2_grouped_1 rfl hl (by decide) rfl (fun ls hl => ?_)
  refine lv_iconst (v := 0) hx hb dX2_grouped_2 (by decide) ?_
  refine lv_istore_n (lv' := [(3, .int (0 : Int32)), (2, .int (0 : Int32)), (0, .ref y), (1, .int p0)]) hx hb dX2_grouped_3 rfl hl (by decide) rfl (fun ls hl => ?_)
  refine lv_iconst (v := 0) hx hb dX2_grouped_4 (by decide) ?_
  refine lv_istore (lv' := [(4, .int (0 : Int32)), (3, .int (0 : Int32)), (2, .int (0 : Int32)), (0, .ref y), (1, .int p0)]) hx hb dX2_grouped_5 hl (by decide) rfl (fun ls hl => ?_)
  obtain ⟨n9, hw⟩ := hw
  exact L7 n9 (0 : Int32) (0 : Int32) (0 : Int32) _ _ _ hw hP hD hS (lv_sub hl [3, 4, 2, 1, 0] rfl)
