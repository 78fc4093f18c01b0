def w_X2_grow_b72 (post : Int32 → Int32 → (Nat → Int32) → (Nat → Int32) → (Nat → Int32) → Prop) (mel : Int32) (kM : (Nat → Int32)) (p0 : Int32) (thr : Int32) (hM : (Nat → Int32)) (lM : (Nat → Int32)) (oM : (Nat → Int32)) : Prop := w_X2_fail thr (2 : Int32) (fun r5 thr_6 => (post r5 thr_6 hM lM oM))

def w_X2_grow_b58 (post : Int32 → Int32 → (Nat → Int32) → (Nat → Int32) → (Nat → Int32) → Prop) (mel : Int32) (kM : (Nat → Int32)) (p0 : Int32) (v2 : Int32) (thr : Int32) (hM : (Nat → Int32)) (lM : (Nat → Int32)) (oM : (Nat → Int32)) : Prop := ((v2 = (-1 : Int32) → (w_X2_grow_b72 post mel kM p0 thr hM lM oM)) ∧ (¬ v2 = (-1 : Int32) → (vp_in p0 34 ∧ ((((hM p0.toNatClampNeg) = 0 → (w_X2_grow_b72 post mel kM p0 thr hM lM oM)) ∧ (¬ (hM p0.toNatClampNeg) = 0 → (w_X2_lay hM lM p0 (1 : Int32) (fun hM_9 lM_10 => (vp_in v2 4 ∧ (w_X2_sizeOf mel hM_9 (fun r12 => (post r12 thr hM_9 lM_10 (upd oM v2.toNatClampNeg (2 : Int32))))))))))))))

def w_X2_grow_b52 (post : Int32 → Int32 → (Nat → Int32) → (Nat → Int32) → (Nat → Int32) → Prop) (mel : Int32) (kM : (Nat → Int32)) (p0 : Int32) (K22 : Int32 → Int32 → Int32 → (Nat → Int32) → (Nat → Int32) → (Nat → Int32) → Prop) (v2 : Int32) (v3 : Int32) (thr : Int32) (hM : (Nat → Int32)) (lM : (Nat → Int32)) (oM : (Nat → Int32)) : Prop := K22 v2 (v3 + 1) thr hM lM oM

def w_X2_grow_b22 (post : Int32 → Int32 → (Nat → Int32) → (Nat → Int32) → (Nat → Int32) → Prop) (mel : Int32) (kM : (Nat → Int32)) (p0 : Int32) : Nat → Int32 → Int32 → Int32 → (Nat → Int32) → (Nat → Int32) → (Nat → Int32) → Prop
  | 0, _, _, _, _, _, _ => False
  | n + 1, v2, v3, thr, hM, lM, oM => ((mel ≤ v3 → (w_X2_grow_b58 post mel kM p0 v2 thr hM lM oM)) ∧ (¬ mel ≤ v3 → (vp_in v3 4 ∧ ((((oM v3.toNatClampNeg) = (1 : Int32) → (vp_in v3 4 ∧ ((((kM v3.toNatClampNeg) = p0 → (w_X2_grow_b52 post mel kM p0 (w_X2_grow_b22 post mel kM p0 n) v3 v3 thr hM lM oM)) ∧ (¬ (kM v3.toNatClampNeg) = p0 → (w_X2_grow_b52 post mel kM p0 (w_X2_grow_b22 post mel kM p0 n) v2 v3 thr hM lM oM)))))) ∧ (¬ (oM v3.toNatClampNeg) = (1 : Int32) → (w_X2_grow_b52 post mel kM p0 (w_X2_grow_b22 post mel kM p0 n) v2 v3 thr hM lM oM)))))))

def w_X2_grow (thr : Int32) (mel : Int32) (hM : (Nat → Int32)) (lM : (Nat → Int32)) (oM : (Nat → Int32)) (kM : (Nat → Int32)) (p0 : Int32) (post : Int32 → Int32 → (Nat → Int32) → (Nat → Int32) → (Nat → Int32) → Prop) : Prop := w_X2_isKind p0 (fun r1 => (((r1 = 0 → (w_X2_fail (0 : Int32) (1 : Int32) (fun r17 thr_18 => (post r17 thr_18 hM lM oM)))) ∧ (¬ r1 = 0 → (∃ n9, w_X2_grow_b22 post mel kM p0 n9 (-1 : Int32) (0 : Int32) (0 : Int32) hM lM oM)))))

set_option maxHeartbeats 4000000 in
set_option maxRecDepth 100000 in
theorem c_X2_grow (l : Launch) (dC : Nat → ClassId) (dI : Nat → Nat → Nat) (cI cZ : ClassId) (y : Nat) (bH : Nat) (bS : Nat) (bL : Nat) (bO : Nat) (bK : Nat) (bZ : Nat) (bR : Nat) (bG : Nat) (bB : Nat) (bX : Nat) (sz : Nat) (thr : Int32) (mel : Int32) (sea : Int32) (rnd : Int32) (bas : Int32) (lim : Int32) (hM : (Nat → Int32)) (lM : (Nat → Int32)) (oM : (Nat → Int32)) (kM : (Nat → Int32)) (p0 : Int32) (post : Int32 → Int32 → (Nat → Int32) → (Nat → Int32) → (Nat → Int32) → Prop) (hw : w_X2_grow thr mel hM lM oM kM p0 post) : Met l yX2_grow wsX2_grow ({ frames := 3, cells := 0, slots := 0, locals := 60 } : Room) (va_Pc [.ref y, .int p0] (fun U => U.heap.size = sz ∧ va_P (dC, dI) vwCl [(y, .inr (2, [.int thr, .ref bH, .ref bS, .ref bL, .int mel, .ref bO, .ref bK, .ref bZ, .int sea, .int rnd, .int bas, .int lim, .ref bR, .ref bG, .ref bB, .ref bX])), (bH, .inl (cI, 34, .inl hM)), (bL, .inl (cI, 34, .inl lM)), (bO, .inl (cI, 4, .inl oM)), (bK, .inl (cI, 4, .inl kM))] U.heap ∧ va_K (dC, dI) vwCl [(cI, .int), (cZ, .boolean)] U ∧ va_D (fun _ => True) [(y, .inr (2, [.int thr, .ref bH, .ref bS, .ref bL, .int mel, .ref bO, .ref bK, .ref bZ, .int sea, .int rnd, .int bas, .int lim, .ref bR, .ref bG, .ref bB, .ref bX])), (bH, .inl (cI, 34, .inl hM)), (bL, .inl (cI, 34, .inl lM)), (bO, .inl (cI, 4, .inl oM)), (bK, .inl (cI, 4, .inl kM))])) (va_Qi (fun (r9 : Int32) (u9 : Int32 × (Nat → Int32) × (Nat → Int32) × (Nat → Int32)) => post r9 u9.1 u9.2.1 u9.2.2.1 u9.2.2.2) (fun (u9 : Int32 × (Nat → Int32) × (Nat → Int32) × (Nat → Int32)) (t9 : State) => va_P (dC, dI) vwCl [(y, .inr (2, [.int u9.1, .ref bH, .ref bS, .ref bL, .int mel, .ref bO, .ref bK, .ref bZ, .int sea, .int rnd, .int bas, .int lim, .ref bR, .ref bG, .ref bB, .ref bX])), (bH, .inl (cI, 34, .inl u9.2.1)), (bL, .inl (cI, 34, .inl u9.2.2.1)), (bO, .inl (cI, 4, .inl u9.2.2.2)), (bK, .inl (cI, 4, .inl kM))] t9.heap ∧ va_K (dC, dI) vwCl [(cI, .int), (cZ, .boolean)] t9 ∧ va_D (va_A [(y, .inr (2, [.int thr, .ref bH, .ref bS, .ref bL, .int mel, .ref bO, .ref bK, .ref bZ, .int sea, .int rnd, .int bas, .int lim, .ref bR, .ref bG, .ref bB, .ref bX])), (bH, .inl (cI, 34, .inl hM)), (bL, .inl (cI, 34, .inl lM)), (bO, .inl (cI, 4, .inl oM)), (bK, .inl (cI, 4, .inl kM))] sz) [(y, .inr (2, [.int u9.1, .ref bH, .ref bS, .ref bL, .int mel, .ref bO, .ref bK, .ref bZ, .int sea, .int rnd, .int bas, .int lim, .ref bR, .ref bG, .ref bB, .ref bX])), (bH, .inl (cI, 34, .inl u9.2.1)), (bL, .inl (cI, 34, .inl u9.2.2.1)), (bO, .inl (cI, 4, .inl u9.2.2.2)), (bK, .inl (cI, 4, .inl kM))]) (va_A [(y, .inr (2, [.int thr, .ref bH, .ref bS, .ref bL, .int mel, .ref bO, .ref bK, .ref bZ, .int sea, .int rnd, .int bas, .int lim, .ref bR, .ref bG, .ref bB, .ref bX])), (bH, .inl (cI, 34, .inl hM)), (bL, .inl (cI, 34, .inl lM)), (bO, .inl (cI, 4, .inl oM)), (bK, .inl (cI, 4, .inl kM))] sz)) 0 0 (va_A [(y, .inr (2, [.int thr, .ref bH, .ref bS, .ref bL, .int mel, .ref bO, .ref bK, .ref bZ, .int sea, .int rnd, .int bas, .int lim, .ref bR, .ref bG, .ref bB, .ref bX])), (bH, .inl (cI, 34, .inl hM)), (bL, .inl (cI, 34, .inl lM)), (bO, .inl (cI, 4, .inl oM)), (bK, .inl (cI, 4, .inl kM))] sz) := by
  refine Met.ofW (cc := cX2_grow) (maxL := 4) (ret := (some .int)) (by decide) rfl ?_
  intro p e s m args below meth c s₁ B hml hv
  obtain ⟨rfl, hsz, hP, hK, hD0⟩ := hv
  have hx := B.exec
  have hb := B.bytes
  have hr := B.returns
  have hts := atoms_spec (ws := wsX2_grow) B.pre
  have hown : s.vm.findClass RX2 = some m.cls := findClass_of_methodNamed B.named
  have hlocks := B.notSynchronized
  have hinX2 : ∀ w ∈ u_ws RX2 TX2 16, w ∈ wsX2_grow := by decide +kernel
  subst hsz
  have hD := hD0.self (sz := s.heap.size)
  generalize hAe : va_A [(y, .inr (2, [.int thr, .ref bH, .ref bS, .ref bL, .int mel, .ref bO, .ref bK, .ref bZ, .int sea, .int rnd, .int bas, .int lim, .ref bR, .ref bG, .ref bB, .ref bX])), (bH, .inl (cI, 34, .inl hM)), (bL, .inl (cI, 34, .inl lM)), (bO, .inl (cI, 4, .inl oM)), (bK, .inl (cI, 4, .inl kM))] s.heap.size = A at hD ⊢
  have hA : ∀ q : Nat, s.heap.size ≤ q → A q := fun q h => by rw [← hAe]; exact Or.inr h
  have hS : va_S A s.heap s.heap [] := va_S.rf
  have hl := lv_entry ([.ref y, .int p0]) (n := 4) (Nat.le_of_ble_eq_true rfl)
  rw [lg_entry_eq]
  generalize (lg_sl ([.ref y, .int p0]) ++ List.replicate (4 - (lg_sl ([.ref y, .int p0])).length) Slot.unset).toArray = ls at hl ⊢
  have hl : lv_has ls 4 [(0, .ref y), (1, .int p0)] := hl
  refine (?_ : ∀ Q9 : State → Prop, MQ below _ _ s _ _ _ = Q9 → W p l e ({ frames := 3, cells := 0, slots := 0, locals := 60 } : Room) s m _ below meth c s.heap [] 0 0 Q9 (F0 m 0 ls [])) _ rfl
  intro Q9 hQ9
  have hw : w_X2_isKind p0 (fun r1 => (((r1 = 0 → (w_X2_fail (0 : Int32) (1 : Int32) (fun r17 thr_18 => (post r17 thr_18 hM lM oM)))) ∧ (¬ r1 = 0 → (∃ n9, w_X2_grow_b22 post mel kM p0 n9 (-1 : Int32) (0 : Int32) (0 : Int32) hM lM oM))))) := hw
  have L72 : ∀ (thr : Int32) (hM : (Nat → Int32)) (lM : (Nat → Int32)) (oM : (Nat → Int32)) (H : Heap) (locs : List Loc) (ls : Array Slot), w_X2_grow_b72 post mel kM p0 thr hM lM oM → va_P (dC, dI) vwCl [(y, .inr (2, [.int thr, .ref bH, .ref bS, .ref bL, .int mel, .ref bO, .ref bK, .ref bZ, .int sea, .int rnd, .int bas, .int lim, .ref bR, .ref bG, .ref bB, .ref bX])), (bH, .inl (cI, 34, .inl hM)), (bL, .inl (cI, 34, .inl lM)), (bO, .inl (cI, 4, .inl oM)), (bK, .inl (cI, 4, .inl kM))] H → va_D A [(y, .inr (2, [.int thr, .ref bH, .ref bS, .ref bL, .int mel, .ref bO, .ref bK, .ref bZ, .int sea, .int rnd, .int bas, .int lim, .ref bR, .ref bG, .ref bB, .ref bX])), (bH, .inl (cI, 34, .inl hM)), (bL, .inl (cI, 34, .inl lM)), (bO, .inl (cI, 4, .inl oM)), (bK, .inl (cI, 4, .inl kM))] → va_S A s.heap H locs → lv_has ls 4 [(0, .ref y)] → W p l e ({ frames := 3, cells := 0, slots := 0, locals := 60 } : Room) s m ([.ref y, .int p0] : List Value).toArray below meth c H locs 0 0 Q9 (F0 m 72 ls []) := by
    intro thr hM lM oM H locs ls hw hP hD hS hl
    refine lv_aload_n hx hb dX2_grow_72 rfl (lv_at hl 0 rfl) ?_
    refine lv_iconst (v := 2) hx hb dX2_grow_73 (by decide) ?_
    have hPc := hP.sub (ws' := [(y, .inr (2, [.int thr, .ref bH, .ref bS, .ref bL, .int mel, .ref bO, .ref bK, .ref bZ, .int sea, .int rnd, .int bas, .int lim, .ref bR, .ref bG, .ref bB, .ref bX]))]) [0] rfl
    have hDc := hD.sub (ws' := [(y, .inr (2, [.int thr, .ref bH, .ref bS, .ref bL, .int mel, .ref bO, .ref bK, .ref bZ, .int sea, .int rnd, .int bas, .int lim, .ref bR, .ref bG, .ref bB, .ref bX]))]) [0] (by decide) rfl
    have hFc := va_free (wc := [(y, .inr (2, [.int thr, .ref bH, .ref bS, .ref bL, .int mel, .ref bO, .ref bK, .ref bZ, .int sea, .int rnd, .int bas, .int lim, .ref bR, .ref bG, .ref bB, .ref bX]))]) hD hS hA [0] rfl
    refine va_calli (va_runV (As := [.int (2 : Int32)]) (rest := []) ⟨hx, hb, hml, hown, hts⟩ (c_X2_fail l dC dI cI cZ y bH bS bL bO bK bZ bR bG bB bX H.size thr mel sea rnd bas lim (2 : Int32) _ hw) (cwV 1 hts gX2_grow_X2_fail rfl rfl rfl (by decide +kernel) ⟨Nat.le_of_ble_eq_true rfl, Nat.le_of_ble_eq_true rfl⟩) ⟨fun a U g mk q => by obtain ⟨q0, q1, qP, qK, qD⟩ := q; exact ⟨q0, q1, qP, va_K.moved (u := U) (U := U.calling g mk a) (Vm.Alike.refl U.vm) qK, qD⟩, va_recv hK hPc (ci := 2) (q0 := 0) rfl rfl, fun U hU hW => ⟨rfl, by rw [hU], by rw [hU]; exact hPc, va_K.moved hW.alike hK, hDc.weaken (fun _ _ _ _ => trivial)⟩⟩ rfl rfl hl.1 rfl (lv_room (Nat.le_of_ble_eq_true rfl)) dX2_grow_74 ⟨Nat.le_of_ble_eq_true rfl, Nat.le_of_ble_eq_true rfl⟩) hS (fun q _ h => hFc q h) hFc (fun r5 u t H1 locs ht hvm hw hB hz1 hk1 hS => ?_)
    obtain ⟨thr_6, rfl⟩ : ∃ z, z = u := ⟨_, rfl⟩
    obtain ⟨hP1, -, hD1⟩ := hB
    have hw := And.intro hw trivial
    try dsimp only at hw
    have hw := hw.1
    rw [ht] at hP1
    obtain ⟨hP, hD⟩ := va_join (wr := [(bH, .inl (cI, 34, .inl hM)), (bL, .inl (cI, 34, .inl lM)), (bO, .inl (cI, 4, .inl oM)), (bK, .inl (cI, 4, .inl kM))]) (w1 := [(y, .inr (2, [.int thr_6, .ref bH, .ref bS, .ref bL, .int mel, .ref bO, .ref bK, .ref bZ, .int sea, .int rnd, .int bas, .int lim, .ref bR, .ref bG, .ref bB, .ref bX]))]) hP hD [0] [1, 2, 3, 4] rfl rfl (by decide) (by decide) hk1 hFc hP1 hD1
    generalize H1 = H at hP hS ⊢
    have hP : va_P (dC, dI) vwCl [(bH, .inl (cI, 34, .inl hM)), (bL, .inl (cI, 34, .inl lM)), (bO, .inl (cI, 4, .inl oM)), (bK, .inl (cI, 4, .inl kM)), (y, .inr (2, [.int thr_6, .ref bH, .ref bS, .ref bL, .int mel, .ref bO, .ref bK, .ref bZ, .int sea, .int rnd, .int bas, .int lim, .ref bR, .ref bG, .ref bB, .ref bX]))] H := hP
    have hD : va_D A [(bH, .inl (cI, 34, .inl hM)), (bL, .inl (cI, 34, .inl lM)), (bO, .inl (cI, 4, .inl oM)), (bK, .inl (cI, 4, .inl kM)), (y, .inr (2, [.int thr_6, .ref bH, .ref bS, .ref bL, .int mel, .ref bO, .ref bK, .ref bZ, .int sea, .int rnd, .int bas, .int lim, .ref bR, .ref bG, .ref bB, .ref bX]))] := hD
    have hP9 := hP.sub (ws' := [(y, .inr (2, [.int thr_6, .ref bH, .ref bS, .ref bL, .int mel, .ref bO, .ref bK, .ref bZ, .int sea, .int rnd, .int bas, .int lim, .ref bR, .ref bG, .ref bB, .ref bX])), (bH, .inl (cI, 34, .inl hM)), (bL, .inl (cI, 34, .inl lM)), (bO, .inl (cI, 4, .inl oM)), (bK, .inl (cI, 4, .inl kM))]) [4, 0, 1, 2, 3] rfl
    have hD9 := hD.sub (ws' := [(y, .inr (2, [.int thr_6, .ref bH, .ref bS, .ref bL, .int mel, .ref bO, .ref bK, .ref bZ, .int sea, .int rnd, .int bas, .int lim, .ref bR, .ref bG, .ref bB, .ref bX])), (bH, .inl (cI, 34, .inl hM)), (bL, .inl (cI, 34, .inl lM)), (bO, .inl (cI, 4, .inl oM)), (bK, .inl (cI, 4, .inl kM))]) [4, 0, 1, 2, 3] (by decide) rfl
    rw [← hQ9]
    exact W.iret (v := r5) hx hb hr (fun t ht hW => ⟨⟨r5, (thr_6, hM, lM, oM), rfl, hw, by rw [ht]; exact hP9, va_K.moved hW.alike hK, hD9⟩, hS.F ht⟩) hS.2.2 dX2_grow_77
  have L58 : ∀ (v2 : Int32) (thr : Int32) (hM : (Nat → Int32)) (lM : (Nat → Int32)) (oM : (Nat → Int32)) (H : Heap) (locs : List Loc) (ls : Array Slot), w_X2_grow_b58 post mel kM p0 v2 thr hM lM oM → va_P (dC, dI) vwCl [(y, .inr (2, [.int thr, .ref bH, .ref bS, .ref bL, .int mel, .ref bO, .ref bK, .ref bZ, .int sea, .int rnd, .int bas, .int lim, .ref bR, .ref bG, .ref bB, .ref bX])), (bH, .inl (cI, 34, .inl hM)), (bL, .inl (cI, 34, .inl lM)), (bO, .inl (cI, 4, .inl oM)), (bK, .inl (cI, 4, .inl kM))] H → va_D A [(y, .inr (2, [.int thr, .ref bH, .ref bS, .ref bL, .int mel, .ref bO, .ref bK, .ref bZ, .int sea, .int rnd, .int bas, .int lim, .ref bR, .ref bG, .ref bB, .ref bX])), (bH, .inl (cI, 34, .inl hM)), (bL, .inl (cI, 34, .inl lM)), (bO, .inl (cI, 4, .inl oM)), (bK, .inl (cI, 4, .inl kM))] → va_S A s.heap H locs → lv_has ls 4 [(0, .ref y), (1, .int p0), (2, .int v2)] → W p l e ({ frames := 3, cells := 0, slots := 0, locals := 60 } : Room) s m ([.ref y, .int p0] : List Value).toArray below meth c H locs 0 0 Q9 (F0 m 58 ls []) := by
    intro v2 thr hM lM oM H locs ls hw hP hD hS hl
    refine lv_iload_n hx hb dX2_grow_58 rfl (lv_at hl 2 rfl) ?_
    refine lv_iconst (v := -1) hx hb dX2_grow_59 (by decide) ?_
    refine lv_icmp_eq (tgt := 72) hx hb dX2_grow_60 (by decide) (fun c4 => ?_) (fun c4 => ?_)
    · have hw := hw.1 c4
      exact L72 thr hM lM oM _ _ _ hw hP hD hS (lv_sub hl [0] rfl)
    · have hw := hw.2 c4
      refine lv_aload_n hx hb dX2_grow_63 rfl (lv_at hl 0 rfl) ?_
      refine va_get (D := (dC, dI)) (ci := 2) (v := .ref bH) (C := RX2) (T := TX2) (N := 16) hx hb hts hinX2 hown hK hP 0 rfl rfl 1 (by decide) (hts (.fieldLink RX2 9 "TileHandModel" "hand" "[I") (by decide +kernel)) (fun _ h9 => h9) rfl dX2_grow_64 ?_
      refine lv_iload_n hx hb dX2_grow_67 rfl (lv_at hl 1 rfl) ?_
      obtain ⟨h7, hw⟩ := hw
      refine va_iald hx hb hK hP 1 0 rfl rfl h7 dX2_grow_68 ?_
      refine lv_if_ne (tgt := 78) hx hb dX2_grow_69 (by decide) (fun c8 => ?_) (fun c8 => ?_)
      · have hw := hw.2 c8
        refine lv_aload_n hx hb dX2_grow_78 rfl (lv_at hl 0 rfl) ?_
        refine lv_iload_n hx hb dX2_grow_79 rfl (lv_at hl 1 rfl) ?_
        refine lv_iconst (v := 1) hx hb dX2_grow_80 (by decide) ?_
        have hPc := hP.sub (ws' := [(y, .inr (2, [.int thr, .ref bH, .ref bS, .ref bL, .int mel, .ref bO, .ref bK, .ref bZ, .int sea, .int rnd, .int bas, .int lim, .ref bR, .ref bG, .ref bB, .ref bX])), (bH, .inl (cI, 34, .inl hM)), (bL, .inl (cI, 34, .inl lM))]) [0, 1, 2] rfl
        have hDc := hD.sub (ws' := [(y, .inr (2, [.int thr, .ref bH, .ref bS, .ref bL, .int mel, .ref bO, .ref bK, .ref bZ, .int sea, .int rnd, .int bas, .int lim, .ref bR, .ref bG, .ref bB, .ref bX])), (bH, .inl (cI, 34, .inl hM)), (bL, .inl (cI, 34, .inl lM))]) [0, 1, 2] (by decide) rfl
        have hFc := va_free (wc := [(y, .inr (2, [.int thr, .ref bH, .ref bS, .ref bL, .int mel, .ref bO, .ref bK, .ref bZ, .int sea, .int rnd, .int bas, .int lim, .ref bR, .ref bG, .ref bB, .ref bX])), (bH, .inl (cI, 34, .inl hM)), (bL, .inl (cI, 34, .inl lM))]) hD hS hA [0, 1, 2] rfl
        refine va_callv (va_runV (As := [.int p0, .int (1 : Int32)]) (rest := []) ⟨hx, hb, hml, hown, hts⟩ (c_X2_lay l dC dI cI cZ y bH bS bL bO bK bZ bR bG bB bX H.size thr mel sea rnd bas lim hM lM p0 (1 : Int32) _ hw) (cwV 2 hts gX2_grow_X2_lay rfl rfl rfl (by decide +kernel) ⟨Nat.le_of_ble_eq_true rfl, Nat.le_of_ble_eq_true rfl⟩) ⟨fun a U g mk q => by obtain ⟨q0, q1, qP, qK, qD⟩ := q; exact ⟨q0, q1, qP, va_K.moved (u := U) (U := U.calling g mk a) (Vm.Alike.refl U.vm) qK, qD⟩, va_recv hK hPc (ci := 2) (q0 := 0) rfl rfl, fun U hU hW => ⟨rfl, by rw [hU], by rw [hU]; exact hPc, va_K.moved hW.alike hK, hDc.weaken (fun _ _ _ _ => trivial)⟩⟩ rfl rfl hl.1 rfl (lv_room (Nat.le_of_ble_eq_true rfl)) dX2_grow_81 ⟨Nat.le_of_ble_eq_true rfl, Nat.le_of_ble_eq_true rfl⟩) hS (fun q _ h => hFc q h) hFc (fun u t H1 locs ht hvm hw hB hz1 hk1 hS => ?_)
        obtain ⟨hM_9, lM_10⟩ := u
        obtain ⟨hP1, -, hD1⟩ := hB
        have hw := And.intro hw trivial
        try dsimp only at hw
        have hw := hw.1
        rw [ht] at hP1
        obtain ⟨hP, hD⟩ := va_join (wr := [(bO, .inl (cI, 4, .inl oM)), (bK, .inl (cI, 4, .inl kM))]) (w1 := [(y, .inr (2, [.int thr, .ref bH, .ref bS, .ref bL, .int mel, .ref bO, .ref bK, .ref bZ, .int sea, .int rnd, .int bas, .int lim, .ref bR, .ref bG, .ref bB, .ref bX])), (bH, .inl (cI, 34, .inl hM_9)), (bL, .inl (cI, 34, .inl lM_10))]) hP hD [0, 1, 2] [3, 4] rfl rfl (by decide) (by decide) hk1 hFc hP1 hD1
        generalize H1 = H at hP hS ⊢
        have hP : va_P (dC, dI) vwCl [(bO, .inl (cI, 4, .inl oM)), (bK, .inl (cI, 4, .inl kM)), (y, .inr (2, [.int thr, .ref bH, .ref bS, .ref bL, .int mel, .ref bO, .ref bK, .ref bZ, .int sea, .int rnd, .int bas, .int lim, .ref bR, .ref bG, .ref bB, .ref bX])), (bH, .inl (cI, 34, .inl hM_9)), (bL, .inl (cI, 34, .inl lM_10))] H := hP
        have hD : va_D A [(bO, .inl (cI, 4, .inl oM)), (bK, .inl (cI, 4, .inl kM)), (y, .inr (2, [.int thr, .ref bH, .ref bS, .ref bL, .int mel, .ref bO, .ref bK, .ref bZ, .int sea, .int rnd, .int bas, .int lim, .ref bR, .ref bG, .ref bB, .ref bX])), (bH, .inl (cI, 34, .inl hM_9)), (bL, .inl (cI, 34, .inl lM_10))] := hD
        refine lv_aload_n hx hb dX2_grow_84 rfl (lv_at hl 0 rfl) ?_
        refine va_get (D := (dC, dI)) (ci := 2) (v := .ref bO) (C := RX2) (T := TX2) (N := 16) hx hb hts hinX2 hown hK hP 2 rfl rfl 5 (by decide) (hts (.fieldLink RX2 19 "TileHandModel" "sorts" "[I") (by decide +kernel)) (fun _ h9 => h9) rfl dX2_grow_85 ?_
        refine lv_iload_n hx hb dX2_grow_88 rfl (lv_at hl 2 rfl) ?_
        refine lv_iconst (v := 2) hx hb dX2_grow_89 (by decide) ?_
        obtain ⟨h11, hw⟩ := hw
        refine va_iast hx hb hK hP hD hS 0 0 rfl rfl h11 dX2_grow_90 (fun H locs hP hD hS => ?_)
        have hP : va_P (dC, dI) vwCl [(bO, .inl (cI, 4, .inl (upd oM v2.toNatClampNeg (2 : Int32)))), (bK, .inl (cI, 4, .inl kM)), (y, .inr (2, [.int thr, .ref bH, .ref bS, .ref bL, .int mel, .ref bO, .ref bK, .ref bZ, .int sea, .int rnd, .int bas, .int lim, .ref bR, .ref bG, .ref bB, .ref bX])), (bH, .inl (cI, 34, .inl hM_9)), (bL, .inl (cI, 34, .inl lM_10))] H := hP
        have hD : va_D A [(bO, .inl (cI, 4, .inl (upd oM v2.toNatClampNeg (2 : Int32)))), (bK, .inl (cI, 4, .inl kM)), (y, .inr (2, [.int thr, .ref bH, .ref bS, .ref bL, .int mel, .ref bO, .ref bK, .ref bZ, .int sea, .int rnd, .int bas, .int lim, .ref bR, .ref bG, .ref bB, .ref bX])), (bH, .inl (cI, 34, .inl hM_9)), (bL, .inl (cI, 34, .inl lM_10))] := hD
        refine lv_aload_n hx hb dX2_grow_91 rfl (lv_at hl 0 rfl) ?_
        have hPc := hP.sub (ws' := [(y, .inr (2, [.int thr, .ref bH, .ref bS, .ref bL, .int mel, .ref bO, .ref bK, .ref bZ, .int sea, .int rnd, .int bas, .int lim, .ref bR, .ref bG, .ref bB, .ref bX])), (bH, .inl (cI, 34, .inl hM_9))]) [2, 3] rfl
        have hDc := hD.sub (ws' := [(y, .inr (2, [.int thr, .ref bH, .ref bS, .ref bL, .int mel, .ref bO, .ref bK, .ref bZ, .int sea, .int rnd, .int bas, .int lim, .ref bR, .ref bG, .ref bB, .ref bX])), (bH, .inl (cI, 34, .inl hM_9))]) [2, 3] (by decide) rfl
        have hFc := va_free (wc := [(y, .inr (2, [.int thr, .ref bH, .ref bS, .ref bL, .int mel, .ref bO, .ref bK, .ref bZ, .int sea, .int rnd, .int bas, .int lim, .ref bR, .ref bG, .ref bB, .ref bX])), (bH, .inl (cI, 34, .inl hM_9))]) hD hS hA [2, 3] rfl
        refine va_calli (va_runV (As := []) (rest := []) ⟨hx, hb, hml, hown, hts⟩ (c_X2_sizeOf l dC dI cI cZ y bH bS bL bO bK bZ bR bG bB bX H.size thr mel sea rnd bas lim hM_9 _ hw) (cwV 0 hts gX2_grow_X2_sizeOf rfl rfl rfl (by decide +kernel) ⟨Nat.le_of_ble_eq_true rfl, Nat.le_of_ble_eq_true rfl⟩) ⟨fun a U g mk q => by obtain ⟨q0, q1, qP, qK, qD⟩ := q; exact ⟨q0, q1, qP, va_K.moved (u := U) (U := U.calling g mk a) (Vm.Alike.refl U.vm) qK, qD⟩, va_recv hK hPc (ci := 2) (q0 := 0) rfl rfl, fun U hU hW => ⟨rfl, by rw [hU], by rw [hU]; exact hPc, va_K.moved hW.alike hK, hDc.weaken (fun _ _ _ _ => trivial)⟩⟩ rfl rfl hl.1 rfl (lv_room (Nat.le_of_ble_eq_true rfl)) dX2_grow_92 ⟨Nat.le_of_ble_eq_true rfl, Nat.le_of_ble_eq_true rfl⟩) hS (fun q _ h => hFc q h) hFc (fun r12 u t H1 locs ht hvm hw hB hz1 hk1 hS => ?_)
        obtain ⟨hP1, -, hD1⟩ := hB
        have hw := And.intro hw trivial
        try dsimp only at hw
        have hw := hw.1
        rw [ht] at hP1
        obtain ⟨hP, hD⟩ := va_join (wr := [(bO, .inl (cI, 4, .inl (upd oM v2.toNatClampNeg (2 : Int32)))), (bK, .inl (cI, 4, .inl kM)), (bL, .inl (cI, 34, .inl lM_10))]) (w1 := [(y, .inr (2, [.int thr, .ref bH, .ref bS, .ref bL, .int mel, .ref bO, .ref bK, .ref bZ, .int sea, .int rnd, .int bas, .int lim, .ref bR, .ref bG, .ref bB, .ref bX])), (bH, .inl (cI, 34, .inl hM_9))]) hP hD [2, 3] [0, 1, 4] rfl rfl (by decide) (by decide) hk1 hFc hP1 hD1
        generalize H1 = H at hP hS ⊢
        have hP : va_P (dC, dI) vwCl [(bO, .inl (cI, 4, .inl (upd oM v2.toNatClampNeg (2 : Int32)))), (bK, .inl (cI, 4, .inl kM)), (bL, .inl (cI, 34, .inl lM_10)), (y, .inr (2, [.int thr, .ref bH, .ref bS, .ref bL, .int mel, .ref bO, .ref bK, .ref bZ, .int sea, .int rnd, .int bas, .int lim, .ref bR, .ref bG, .ref bB, .ref bX])), (bH, .inl (cI, 34, .inl hM_9))] H := hP
        have hD : va_D A [(bO, .inl (cI, 4, .inl (upd oM v2.toNatClampNeg (2 : Int32)))), (bK, .inl (cI, 4, .inl kM)), (bL, .inl (cI, 34, .inl lM_10)), (y, .inr (2, [.int thr, .ref bH, .ref bS, .ref bL, .int mel, .ref bO, .ref bK, .ref bZ, .int sea, .int rnd, .int bas, .int lim, .ref bR, .ref bG, .ref bB, .ref bX])), (bH, .inl (cI, 34, .inl hM_9))] := hD
        have hP9 := hP.sub (ws' := [(y, .inr (2, [.int thr, .ref bH, .ref bS, .ref bL, .int mel, .ref bO, .ref bK, .ref bZ, .int sea, .int rnd, .int bas, .int lim, .ref bR, .ref bG, .ref bB, .ref bX])), (bH, .inl (cI, 34, .inl hM_9)), (bL, .inl (cI, 34, .inl lM_10)), (bO, .inl (cI, 4, .inl (upd oM v2.toNatClampNeg (2 : Int32)))), (bK, .inl (cI, 4, .inl kM))]) [3, 4, 2, 0, 1] rfl
        have hD9 := hD.sub (ws' := [(y, .inr (2, [.int thr, .ref bH, .ref bS, .ref bL, .int mel, .ref bO, .ref bK, .ref bZ, .int sea, .int rnd, .int bas, .int lim, .ref bR, .ref bG, .ref bB, .ref bX])), (bH, .inl (cI, 34, .inl hM_9)), (bL, .inl (cI, 34, .inl lM_10)), (bO, .inl (cI, 4, .inl (upd oM v2.toNatClampNeg (2 : Int32)))), (bK, .inl (cI, 4, .inl kM))]) [3, 4, 2, 0, 1] (by decide) rfl
        rw [← hQ9]
        exact W.iret (v := r12) hx hb hr (fun t ht hW => ⟨⟨r12, (thr, hM_9, lM_10, upd oM v2.toNatClampNeg (2 : Int32)), rfl, hw, by rw [ht]; exact hP9, va_K.moved hW.alike hK, hD9⟩, hS.F ht⟩) hS.2.2 dX2_grow_95
      · have hw := hw.1 c8
        exact L72 thr hM lM oM _ _ _ hw hP hD hS (lv_sub hl [0] rfl)
  have L52 : ∀ (K22 : Int32 → Int32 → Int32 → (Nat → Int32) → (Nat → Int32) → (Nat → Int32) → Prop) (hK22 : ∀ (v2 : Int32) (v3 : Int32) (thr : Int32) (hM : (Nat → Int32)) (lM : (Nat → Int32)) (oM : (Nat → Int32)) (H : Heap) (locs : List Loc) (ls : Array Slot), K22 v2 v3 thr hM lM oM → va_P (dC, dI) vwCl [(y, .inr (2, [.int thr, .ref bH, .ref bS, .ref bL, .int mel, .ref bO, .ref bK, .ref bZ, .int sea, .int rnd, .int bas, .int lim, .ref bR, .ref bG, .ref bB, .ref bX])), (bH, .inl (cI, 34, .inl hM)), (bL, .inl (cI, 34, .inl lM)), (bO, .inl (cI, 4, .inl oM)), (bK, .inl (cI, 4, .inl kM))] H → va_D A [(y, .inr (2, [.int thr, .ref bH, .ref bS, .ref bL, .int mel, .ref bO, .ref bK, .ref bZ, .int sea, .int rnd, .int bas, .int lim, .ref bR, .ref bG, .ref bB, .ref bX])), (bH, .inl (cI, 34, .inl hM)), (bL, .inl (cI, 34, .inl lM)), (bO, .inl (cI, 4, .inl oM)), (bK, .inl (cI, 4, .inl kM))] → va_S A s.heap H locs → lv_has ls 4 [(0, .ref y), (1, .int p0), (2, .int v2), (3, .int v3)] → W p l e ({ frames := 3, cells := 0, slots := 0, locals := 60 } : Room) s m ([.ref y, .int p0] : List Value).toArray below meth c H locs 0 0 Q9 (F0 m 22 ls [])), ∀ (v2 : Int32) (v3 : Int32) (thr : Int32) (hM : (Nat → Int32)) (lM : (Nat → Int32)) (oM : (Nat → Int32)) (H : Heap) (locs : List Loc) (ls : Array Slot), w_X2_grow_b52 post mel kM p0 K22 v2 v3 thr hM lM oM → va_P (dC, dI) vwCl [(y, .inr (2, [.int thr, .ref bH, .ref bS, .ref bL, .int mel, .ref bO, .ref bK, .ref bZ, .int sea, .int rnd, .int bas, .int lim, .ref bR, .ref bG, .ref bB, .ref bX])), (bH, .inl (cI, 34, .inl hM)), (bL, .inl (cI, 34, .inl lM)), (bO, .inl (cI, 4, .inl oM)), (bK, .inl (cI, 4, .inl kM))] H → va_D A [(y, .inr (2, [.int thr, .ref bH, .ref bS, .ref bL, .int mel, .ref bO, .ref bK, .ref bZ, .int sea, .int rnd, .int bas, .int lim, .ref bR, .ref bG, .ref bB, .ref bX])), (bH, .inl (cI, 34, .inl hM)), (bL, .inl (cI, 34, .inl lM)), (bO, .inl (cI, 4, .inl oM)), (bK, .inl (cI, 4, .inl kM))] → va_S A s.heap H locs → lv_has ls 4 [(0, .ref y), (1, .int p0), (2, .int v2), (3, .int v3)] → W p l e ({ frames := 3, cells := 0, slots := 0, locals := 60 } : Room) s m ([.ref y, .int p0] : List Value).toArray below meth c H locs 0 0 Q9 (F0 m 52 ls []) := by
    intro K22 hK22 v2 v3 thr hM lM oM H locs ls hw hP hD hS hl
    refine lv_iinc (v := v3 + 1) (lv' := [(3, .int (v3 + 1)), (0, .ref y), (1, .int p0), (2, .int v2)]) hx hb dX2_grow_52 hl (k := 3) rfl rfl (by decide) rfl (fun ls hl => ?_)
    refine lv_goto (tgt := 22) hx hb dX2_grow_55 (by decide) ?_
    exact hK22 v2 (v3 + 1) thr hM lM oM _ _ _ hw hP hD hS (lv_sub hl [1, 2, 3, 0] rfl)
  have L22 : ∀ (n : Nat), ∀ (v2 : Int32) (v3 : Int32) (thr : Int32) (hM : (Nat → Int32)) (lM : (Nat → Int32)) (oM : (Nat → Int32)) (H : Heap) (locs : List Loc) (ls : Array Slot), w_X2_grow_b22 post mel kM p0 n v2 v3 thr hM lM oM → va_P (dC, dI) vwCl [(y, .inr (2, [.int thr, .ref bH, .ref bS, .ref bL, .int mel, .ref bO, .ref bK, .ref bZ, .int sea, .int rnd, .int bas, .int lim, .ref bR, .ref bG, .ref bB, .ref bX])), (bH, .inl (cI, 34, .inl hM)), (bL, .inl (cI, 34, .inl lM)), (bO, .inl (cI, 4, .inl oM)), (bK, .inl (cI, 4, .inl kM))] H → va_D A [(y, .inr (2, [.int thr, .ref bH, .ref bS, .ref bL, .int mel, .ref bO, .ref bK, .ref bZ, .int sea, .int rnd, .int bas, .int lim, .ref bR, .ref bG, .ref bB, .ref bX])), (bH, .inl (cI, 34, .inl hM)), (bL, .inl (cI, 34, .inl lM)), (bO, .inl (cI, 4, .inl oM)), (bK, .inl (cI, 4, .inl kM))] → va_S A s.heap H locs → lv_has ls 4 [(0, .ref y), (1, .int p0), (2, .int v2), (3, .int v3)] → W p l e ({ frames := 3, cells := 0, slots := 0, locals := 60 } : Room) s m ([.ref y, .int p0] : List Value).toArray below meth c H locs 0 0 Q9 (F0 m 22 ls []) := by
    intro n
    induction n with
    | zero => intro v2 v3 thr hM lM oM H locs ls hw _ _ _ _; exact False.elim hw
    | succ n ih =>
      intro v2 v3 thr hM lM oM H locs ls hw hP hD hS hl
      refine lv_iload_n hx hb dX2_grow_22 rfl (lv_at hl 3 rfl) ?_
      refine lv_aload_n hx hb dX2_grow_23 rfl (lv_at hl 0 rfl) ?_
      refine va_get (D := (dC, dI)) (ci := 2) (v := .int mel) (C := RX2) (T := TX2) (N := 16) hx hb hts hinX2 hown hK hP 0 rfl rfl 4 (by decide) (hts (.fieldLink RX2 69 "TileHandModel" "melds" "I") (by decide +kernel)) (fun _ h9 => h9) rfl dX2_grow_24 ?_
      refine lv_icmp_ge (tgt := 58) hx hb dX2_grow_27 (by decide) (fun c3 => ?_) (fun c3 => ?_)
      · have hw := hw.1 c3
        exact L58 v2 thr hM lM oM _ _ _ hw hP hD hS (lv_sub hl [0, 1, 2] rfl)
      · have hw := hw.2 c3
        refine lv_aload_n hx hb dX2_grow_30 rfl (lv_at hl 0 rfl) ?_
        refine va_get (D := (dC, dI)) (ci := 2) (v := .ref bO) (C := RX2) (T := TX2) (N := 16) hx hb hts hinX2 hown hK hP 0 rfl rfl 5 (by decide) (hts (.fieldLink RX2 19 "TileHandModel" "sorts" "[I") (by decide +kernel)) (fun _ h9 => h9) rfl dX2_grow_31 ?_
        refine lv_iload_n hx hb dX2_grow_34 rfl (lv_at hl 3 rfl) ?_
        obtain ⟨h13, hw⟩ := hw
        refine va_iald hx hb hK hP 3 0 rfl rfl h13 dX2_grow_35 ?_
        refine lv_iconst (v := 1) hx hb dX2_grow_36 (by decide) ?_
        refine lv_icmp_ne (tgt := 52) hx hb dX2_grow_37 (by decide) (fun c14 => ?_) (fun c14 => ?_)
        · have hw := hw.2 c14
          exact L52 (w_X2_grow_b22 post mel kM p0 n) ih v2 v3 thr hM lM oM _ _ _ hw hP hD hS (lv_sub hl [0, 1, 2, 3] rfl)
        · have hw := hw.1 c14
          refine lv_aload_n hx hb dX2_grow_40 rfl (lv_at hl 0 rfl) ?_
          refine va_get (D := (dC, dI)) (ci := 2) (v := .ref bK) (C := RX2) (T := TX2) (N := 16) hx hb hts hinX2 hown hK hP 0 rfl rfl 6 (by decide) (hts (.fieldLink RX2 22 "TileHandModel" "kinds" "[I") (by decide +kernel)) (fun _ h9 => h9) rfl dX2_grow_41 ?_
          refine lv_iload_n hx hb dX2_grow_44 rfl (lv_at hl 3 rfl) ?_
          obtain ⟨h15, hw⟩ := hw
          refine va_iald hx hb hK hP 4 0 rfl rfl h15 dX2_grow_45 ?_
          refine lv_iload_n hx hb dX2_grow_46 rfl (lv_at hl 1 rfl) ?_
          refine lv_icmp_ne (tgt := 52) hx hb dX2_grow_47 (by decide) (fun c16 => ?_) (fun c16 => ?_)
          · have hw := hw.2 c16
            exact L52 (w_X2_grow_b22 post mel kM p0 n) ih v2 v3 thr hM lM oM _ _ _ hw hP hD hS (lv_sub hl [0, 1, 2, 3] rfl)
          · have hw := hw.1 c16
            refine lv_iload_n hx hb dX2_grow_50 rfl (lv_at hl 3 rfl) ?_
            refine lv_istore_n (lv' := [(2, .int v3), (0, .ref y), (1, .int p0), (3, .int v3)]) hx hb dX2_grow_51 rfl hl (by decide) rfl (fun ls hl => ?_)
            exact L52 (w_X2_grow_b22 post mel kM p0 n) ih v3 v3 thr hM lM oM _ _ _ hw hP hD hS (lv_sub hl [1, 2, 0, 3] rfl)
  refine lv_aload_n hx hb dX2_grow_0 rfl (lv_at hl 0 rfl) ?_
  refine lv_iconst (v := 0) hx hb dX2_grow_1 (by decide) ?_
  refine va_put (D := (dC, dI)) (ci := 2) (v := .int (0 : Int32)) (ty := .int) (C := RX2) (T := TX2) (N := 16) hx hb hts hinX2 tyX2 tyX2_ok nmX2 hown hK hP hD hS 0 rfl rfl 0 (by decide) (hts (.fieldLink RX2 54 "TileHandModel" "thrown" "I") (by decide +kernel)) (fun _ h9 => h9) rfl (by decide +kernel) rfl rfl (Nat.le_of_ble_eq_true rfl) dX2_grow_2 (fun H locs hP hD hS => ?_)
  have hP : va_P (dC, dI) vwCl [(y, .inr (2, [.int (0 : Int32), .ref bH, .ref bS, .ref bL, .int mel, .ref bO, .ref bK, .ref bZ, .int sea, .int rnd, .int bas, .int lim, .ref bR, .ref bG, .ref bB, .ref bX])), (bH, .inl (cI, 34, .inl hM)), (bL, .inl (cI, 34, .inl lM)), (bO, .inl (cI, 4, .inl oM)), (bK, .inl (cI, 4, .inl kM))] H := hP
  have hD : va_D A [(y, .inr (2, [.int (0 : Int32), .ref bH, .ref bS, .ref bL, .int mel, .ref bO, .ref bK, .ref bZ, .int sea, .int rnd, .int bas, .int lim, .ref bR, .ref bG, .ref bB, .ref bX])), (bH, .inl (cI, 34, .inl hM)), (bL, .inl (cI, 34, .inl lM)), (bO, .inl (cI, 4, .inl oM)), (bK, .inl (cI, 4, .inl kM))] := hD
  refine lv_iload_n hx hb dX2_grow_5 rfl (lv_at hl 1 rfl) ?_
  have hPc := hP.sub (ws' := []) [] rfl
  have hDc := hD.sub (ws' := []) [] (by decide) rfl
  have hFc := va_free (wc := []) hD hS hA [] rfl
  refine va_calli (va_runS (As := [.int p0]) (rest := []) ⟨hx, hb, hml, hown, hts⟩ (c_X2_isKind l dC dI cI cZ H.size p0 _ hw) (va_cwS 1 hts gX2_grow_X2_isKind rfl rfl rfl (by decide +kernel) ⟨Nat.le_of_ble_eq_true rfl, Nat.le_of_ble_eq_true rfl⟩) ⟨fun a U g mk q => by obtain ⟨q0, q1, qP, qK, qD⟩ := q; exact ⟨q0, q1, qP, va_K.moved (u := U) (U := U.calling g mk a) (Vm.Alike.refl U.vm) qK, qD⟩, fun U hU hW => ⟨rfl, by rw [hU], by rw [hU]; exact hPc, va_K.moved hW.alike hK, hDc.weaken (fun _ _ _ _ => trivial)⟩⟩ rfl rfl hl.1 rfl (lv_room (Nat.le_of_ble_eq_true rfl)) dX2_grow_6 ⟨Nat.le_of_ble_eq_true rfl, Nat.le_of_ble_eq_true rfl⟩) hS (fun q _ h => hFc q h) hFc (fun r1 u t H1 locs ht hvm hw hB hz1 hk1 hS => ?_)
  obtain ⟨hP1, -, hD1⟩ := hB
  have hw := And.intro hw trivial
  try dsimp only at hw
  have hw := hw.1
  rw [ht] at hP1
  obtain ⟨hP, hD⟩ := va_join (wr := [(y, .inr (2, [.int (0 : Int32), .ref bH, .ref bS, .ref bL, .int mel, .ref bO, .ref bK, .ref bZ, .int sea, .int rnd, .int bas, .int lim, .ref bR, .ref bG, .ref bB, .ref bX])), (bH, .inl (cI, 34, .inl hM)), (bL, .inl (cI, 34, .inl lM)), (bO, .inl (cI, 4, .inl oM)), (bK, .inl (cI, 4, .inl kM))]) (w1 := []) hP hD [] [0, 1, 2, 3, 4] rfl rfl (by decide) (by decide) hk1 hFc hP1 hD1
  generalize H1 = H at hP hS ⊢
  have hP : va_P (dC, dI) vwCl [(y, .inr (2, [.int (0 : Int32), .ref bH, .ref bS, .ref bL, .int mel, .ref bO, .ref bK, .ref bZ, .int sea, .int rnd, .int bas, .int lim, .ref bR, .ref bG, .ref bB, .ref bX])), (bH, .inl (cI, 34, .inl hM)), (bL, .inl (cI, 34, .inl lM)), (bO, .inl (cI, 4, .inl oM)), (bK, .inl (cI, 4, .inl kM))] H := hP
  have hD : va_D A [(y, .inr (2, [.int (0 : Int32), .ref bH, .ref bS, .ref bL, .int mel, .ref bO, .ref bK, .ref bZ, .int sea, .int rnd, .int bas, .int lim, .ref bR, .ref bG, .ref bB, .ref bX])), (bH, .inl (cI, 34, .inl hM)), (bL, .inl (cI, 34, .inl lM)), (bO, .inl (cI, 4, .inl oM)), (bK, .inl (cI, 4, .inl kM))] := hD
  refine lv_if_ne (tgt := 18) hx hb dX2_grow_9 (by decide) (fun c2 => ?_) (fun c2 => ?_)
  · have hw := hw.2 c2
    refine lv_iconst (v := -1) hx hb dX2_grow_18 (by decide) ?_
    refine lv_istore_n (lv' := [(2, .int (-1 : Int32)), (0, .ref y), (1, .int p0)]) hx hb dX2_grow_19 rfl hl (by decide) rfl (fun ls hl => ?_)
    refine lv_iconst (v := 0) hx hb dX2_grow_20 (by decide) ?_
    refine lv_istore_n (lv' := [(3, .int (0 : Int32)), (2, .int (-1 : Int32)), (0, .ref y), (1, .int p0)]) hx hb dX2_grow_21 rfl hl (by decide) rfl (fun ls hl => ?_)
    obtain ⟨n9, hw⟩ := hw
    exact L22 n9 (-1 : Int32) (0 : Int32) (0 : Int32) hM lM oM _ _ _ hw hP hD hS (lv_sub hl [2, 3, 1, 0] rfl)
  · have hw := hw.1 c2
    refine lv_aload_n hx hb dX2_grow_12 rfl (lv_at hl 0 rfl) ?_
    refine lv_iconst (v := 1) hx hb dX2_grow_13 (by decide) ?_
    have hPc := hP.sub (ws' := [(y, .inr (2, [.int (0 : Int32), .ref bH, .ref bS, .ref bL, .int mel, .ref bO, .ref bK, .ref bZ, .int sea, .int rnd, .int bas, .int lim, .ref bR, .ref bG, .ref bB, .ref bX]))]) [0] rfl
    have hDc := hD.sub (ws' := [(y, .inr (2, [.int (0 : Int32), .ref bH, .ref bS, .ref bL, .int mel, .ref bO, .ref bK, .ref bZ, .int sea, .int rnd, .int bas, .int lim, .ref bR, .ref bG, .ref bB, .ref bX]))]) [0] (by decide) rfl
    have hFc := va_free (wc := [(y, .inr (2, [.int (0 : Int32), .ref bH, .ref bS, .ref bL, .int mel, .ref bO, .ref bK, .ref bZ, .int sea, .int rnd, .int bas, .int lim, .ref bR, .ref bG, .ref bB, .ref bX]))]) hD hS hA [0] rfl
    refine va_calli (va_runV (As := [.int (1 : Int32)]) (rest := []) ⟨hx, hb, hml, hown, hts⟩ (c_X2_fail l dC dI cI cZ y bH bS bL bO bK bZ bR bG bB bX H.size (0 : Int32) mel sea rnd bas lim (1 : Int32) _ hw) (cwV 1 hts gX2_grow_X2_fail rfl rfl rfl (by decide +kernel) ⟨Nat.le_of_ble_eq_true rfl, Nat.le_of_ble_eq_true rfl⟩) ⟨fun a U g mk q => by obtain ⟨q0, q1, qP, qK, qD⟩ := q; exact ⟨q0, q1, qP, va_K.moved (u := U) (U := U.calling g mk a) (Vm.Alike.refl U.vm) qK, qD⟩, va_recv hK hPc (ci := 2) (q0 := 0) rfl rfl, fun U hU hW => ⟨rfl, by rw [hU], by rw [hU]; exact hPc, va_K.moved hW.alike hK, hDc.weaken (fun _ _ _ _ => trivial)⟩⟩ rfl rfl hl.1 rfl (lv_room (Nat.le_of_ble_eq_true rfl)) dX2_grow_14 ⟨Nat.le_of_ble_eq_true rfl, Nat.le_of_ble_eq_true rfl⟩) hS (fun q _ h => hFc q h) hFc (fun r17 u t H1 locs ht hvm hw hB hz1 hk1 hS => ?_)
    obtain ⟨thr_18, rfl⟩ : ∃ z, z = u := ⟨_, rfl⟩
    obtain ⟨hP1, -, hD1⟩ := hB
    have hw := And.intro hw trivial
    try dsimp only at hw
    have hw := hw.1
    rw [ht] at hP1
    obtain ⟨hP, hD⟩ := va_join (wr := [(bH, .inl (cI, 34, .inl hM)), (bL, .inl (cI, 34, .inl lM)), (bO, .inl (cI, 4, .inl oM)), (bK, .inl (cI, 4, .inl kM))]) (w1 := [(y, .inr (2, [.int thr_18, .ref bH, .ref bS, .ref bL, .int mel, .ref bO, .ref bK, .ref bZ, .int sea, .int rnd, .int bas, .int lim, .ref bR, .ref bG, .ref bB, .ref bX]))]) hP hD [0] [1, 2, 3, 4] rfl rfl (by decide) (by decide) hk1 hFc hP1 hD1
    generalize H1 = H at hP hS ⊢
    have hP : va_P (dC, dI) vwCl [(bH, .inl (cI, 34, .inl hM)), (bL, .inl (cI, 34, .inl lM)), (bO, .inl (cI, 4, .inl oM)), (bK, .inl (cI, 4, .inl kM)), (y, .inr (2, [.int thr_18, .ref bH, .ref bS, .ref bL, .int mel, .ref bO, .ref bK, .ref bZ, .int sea, .int rnd, .int bas, .int lim, .ref bR, .ref bG, .ref bB, .ref bX]))] H := hP
    have hD : va_D A [(bH, .inl (cI, 34, .inl hM)), (bL, .inl (cI, 34, .inl lM)), (bO, .inl (cI, 4, .inl oM)), (bK, .inl (cI, 4, .inl kM)), (y, .inr (2, [.int thr_18, .ref bH, .ref bS, .ref bL, .int mel, .ref bO, .ref bK, .ref bZ, .int sea, .int rnd, .int bas, .int lim, .ref bR, .ref bG, .ref bB, .ref bX]))] := hD
    have hP9 := hP.sub (ws' := [(y, .inr (2, [.int thr_18, .ref bH, .ref bS, .ref bL, .int mel, .ref bO, .ref bK, .ref bZ, .int sea, .int rnd, .int bas, .int lim, .ref bR, .ref bG, .ref bB, .ref bX])), (bH, .inl (cI, 34, .inl hM)), (bL, .inl (cI, 34, .inl lM)), (bO, .inl (cI, 4, .inl oM)), (bK, .inl (cI, 4, .inl kM))]) [4, 0, 1, 2, 3] rfl
    have hD9 := hD.sub (ws' := [(y, .inr (2, [.int thr_18, .ref bH, .ref bS, .ref bL, .int mel, .ref bO, .ref bK, .ref bZ, .int sea, .int rnd, .int bas, .int lim, .ref bR, .ref bG, .ref bB, .ref bX])), (bH, .inl (cI, 34, .inl hM)), (bL, .inl (cI, 34, .inl lM)), (bO, .inl (cI, 4, .inl oM)), (bK, .inl (cI, 4, .inl kM))]) [4, 0, 1, 2, 3] (by decide) rfl
    rw [← hQ9]
    exact W.iret (v := r17) hx hb hr (fun t ht hW => ⟨⟨r17, (thr_18, hM, lM, oM), rfl, hw, by rw [ht]; exact hP9, va_K.moved hW.alike hK, hD9⟩, hS.F ht⟩) hS.2.2 dX2_grow_17

def w_X2_begin_b45 (post : Int32 → Int32 → Int32 → (Nat → Int32) → (Nat → Int32) → (Nat → Int32) → Prop) (v1 : Int32) (thr : Int32) (mel : Int32) (hM : (Nat → Int32)) (sM : (Nat → Int32)) (lM : (Nat → Int32)) : Prop := post v1 thr (0 : Int32) hM sM lM

def w_X2_begin_b12 (post : Int32 → Int32 → Int32 → (Nat → Int32) → (Nat → Int32) → (Nat → Int32) → Prop) : Nat → Int32 → Int32 → Int32 → Int32 → (Nat → Int32) → (Nat → Int32) → (Nat → Int32) → Prop
  | 0, _, _, _, _, _, _, _ => False
  | n + 1, v1, v2, thr, mel, hM, sM, lM => (((34 : Int32) ≤ v2 → (w_X2_begin_b45 post v1 thr mel hM sM lM)) ∧ (¬ (34 : Int32) ≤ v2 → (vp_in v2 34 ∧ (vp_in v2 34 ∧ (vp_in v2 34 ∧ (w_X2_begin_b12 post n v1 (v2 + 1) thr mel (upd hM v2.toNatClampNeg (0 : Int32)) (upd sM v2.toNatClampNeg (0 : Int32)) (upd lM v2.toNatClampNeg (0 : Int32))))))))

def w_X2_begin (thr : Int32) (mel : Int32) (hM : (Nat → Int32)) (sM : (Nat → Int32)) (lM : (Nat → Int32)) (post : Int32 → Int32 → Int32 → (Nat → Int32) → (Nat → Int32) → (Nat → Int32) → Prop) : Prop := w_X2_sizeOf mel hM (fun r1 => (∃ n9, w_X2_begin_b12 post n9 r1 (0 : Int32) (0 : Int32) mel hM sM lM))

set_option maxHeartbeats 4000000 in
set_option maxRecDepth 100000 in
theorem c_X2_begin (l : Launch) (dC : Nat → ClassId) (dI : Nat → Nat → Nat) (cI cZ : ClassId) (y : Nat) (bH : Nat) (bS : Nat) (bL : Nat) (bO : Nat) (bK : Nat) (bZ : Nat) (bR : Nat) (bG : Nat) (bB : Nat) (bX : Nat) (sz : Nat) (thr : Int32) (mel : Int32) (sea : Int32) (rnd : Int32) (bas : Int32) (lim : Int32) (hM : (Nat → Int32)) (sM : (Nat → Int32)) (lM : (Nat → Int32)) (post : Int32 → Int32 → Int32 → (Nat → Int32) → (Nat → Int32) → (Nat → Int32) → Prop) (hw : w_X2_begin thr mel hM sM lM post) : Met l yX2_begin wsX2_begin ({ frames := 3, cells := 0, slots := 0, locals := 60 } : Room) (va_Pc [.ref y] (fun U => U.heap.size = sz ∧ va_P (dC, dI) vwCl [(y, .inr (2, [.int thr, .ref bH, .ref bS, .ref bL, .int mel, .ref bO, .ref bK, .ref bZ, .int sea, .int rnd, .int bas, .int lim, .ref bR, .ref bG, .ref bB, .ref bX])), (bH, .inl (cI, 34, .inl hM)), (bS, .inl (cI, 34, .inl sM)), (bL, .inl (cI, 34, .inl lM))] U.heap ∧ va_K (dC, dI) vwCl [(cI, .int), (cZ, .boolean)] U ∧ va_D (fun _ => True) [(y, .inr (2, [.int thr, .ref bH, .ref bS, .ref bL, .int mel, .ref bO, .ref bK, .ref bZ, .int sea, .int rnd, .int bas, .int lim, .ref bR, .ref bG, .ref bB, .ref bX])), (bH, .inl (cI, 34, .inl hM)), (bS, .inl (cI, 34, .inl sM)), (bL, .inl (cI, 34, .inl lM))])) (va_Qi (fun (r9 : Int32) (u9 : Int32 × Int32 × (Nat → Int32) × (Nat → Int32) × (Nat → Int32)) => post r9 u9.1 u9.2.1 u9.2.2.1 u9.2.2.2.1 u9.2.2.2.2) (fun (u9 : Int32 × Int32 × (Nat → Int32) × (Nat → Int32) × (Nat → Int32)) (t9 : State) => va_P (dC, dI) vwCl [(y, .inr (2, [.int u9.1, .ref bH, .ref bS, .ref bL, .int u9.2.1, .ref bO, .ref bK, .ref bZ, .int sea, .int rnd, .int bas, .int lim, .ref bR, .ref bG, .ref bB, .ref bX])), (bH, .inl (cI, 34, .inl u9.2.2.1)), (bS, .inl (cI, 34, .inl u9.2.2.2.1)), (bL, .inl (cI, 34, .inl u9.2.2.2.2))] t9.heap ∧ va_K (dC, dI) vwCl [(cI, .int), (cZ, .boolean)] t9 ∧ va_D (va_A [(y, .inr (2, [.int thr, .ref bH, .ref bS, .ref bL, .int mel, .ref bO, .ref bK, .ref bZ, .int sea, .int rnd, .int bas, .int lim, .ref bR, .ref bG, .ref bB, .ref bX])), (bH, .inl (cI, 34, .inl hM)), (bS, .inl (cI, 34, .inl sM)), (bL, .inl (cI, 34, .inl lM))] sz) [(y, .inr (2, [.int u9.1, .ref bH, .ref bS, .ref bL, .int u9.2.1, .ref bO, .ref bK, .ref bZ, .int sea, .int rnd, .int bas, .int lim, .ref bR, .ref bG, .ref bB, .ref bX])), (bH, .inl (cI, 34, .inl u9.2.2.1)), (bS, .inl (cI, 34, .inl u9.2.2.2.1)), (bL, .inl (cI, 34, .inl u9.2.2.2.2))]) (va_A [(y, .inr (2, [.int thr, .ref bH, .ref bS, .ref bL, .int mel, .ref bO, .ref bK, .ref bZ, .int sea, .int rnd, .int bas, .int lim, .ref bR, .ref bG, .ref bB, .ref bX])), (bH, .inl (cI, 34, .inl hM)), (bS, .inl (cI, 34, .inl sM)), (bL, .inl (cI, 34, .inl lM))] sz)) 0 0 (va_A [(y, .inr (2, [.int thr, .ref bH, .ref bS, .ref bL, .int mel, .ref bO, .ref bK, .ref bZ, .int sea, .int rnd, .int bas, .int lim, .ref bR, .ref bG, .ref bB, .ref bX])), (bH, .inl (cI, 34, .inl hM)), (bS, .inl (cI, 34, .inl sM)), (bL, .inl (cI, 34, .inl lM))] sz) := by
  refine Met.ofW (cc := cX2_begin) (maxL := 3) (ret := (some .int)) (by decide) rfl ?_
  intro p e s m args below meth c s₁ B hml hv
  obtain ⟨rfl, hsz, hP, hK, hD0⟩ := hv
  have hx := B.exec
  have hb := B.bytes
  have hr := B.returns
  have hts := atoms_spec (ws := wsX2_begin) B.pre
  have hown : s.vm.findClass RX2 = some m.cls := findClass_of_methodNamed B.named
  have hlocks := B.notSynchronized
  have hinX2 : ∀ w ∈ u_ws RX2 TX2 16, w ∈ wsX2_begin := by decide +kernel
  subst hsz
  have hD := hD0.self (sz := s.heap.size)
  generalize hAe : va_A [(y, .inr (2, [.int thr, .ref bH, .ref bS, .ref bL, .int mel, .ref bO, .ref bK, .ref bZ, .int sea, .int rnd, .int bas, .int lim, .ref bR, .ref bG, .ref bB, .ref bX])), (bH, .inl (cI, 34, .inl hM)), (bS, .inl (cI, 34, .inl sM)), (bL, .inl (cI, 34, .inl lM))] s.heap.size = A at hD ⊢
  have hA : ∀ q : Nat, s.heap.size ≤ q → A q := fun q h => by rw [← hAe]; exact Or.inr h
  have hS : va_S A s.heap s.heap [] := va_S.rf
  have hl := lv_entry ([.ref y]) (n := 3) (Nat.le_of_ble_eq_true rfl)
  rw [lg_entry_eq]
  generalize (lg_sl ([.ref y]) ++ List.replicate (3 - (lg_sl ([.ref y])).length) Slot.unset).toArray = ls at hl ⊢
  have hl : lv_has ls 3 [(0, .ref y)] := hl
  refine (?_ : ∀ Q9 : State → Prop, MQ below _ _ s _ _ _ = Q9 → W p l e ({ frames := 3, cells := 0, slots := 0, locals := 60 } : Room) s m _ below meth c s.heap [] 0 0 Q9 (F0 m 0 ls [])) _ rfl
  intro Q9 hQ9
  have hw : w_X2_sizeOf mel hM (fun r1 => (∃ n9, w_X2_begin_b12 post n9 r1 (0 : Int32) (0 : Int32) mel hM sM lM)) := hw
  have L45 : ∀ (v1 : Int32) (thr : Int32) (mel : Int32) (hM : (Nat → Int32)) (sM : (Nat → Int32)) (lM : (Nat → Int32)) (H : Heap) (locs : List Loc) (ls : Array Slot), w_X2_begin_b45 post v1 thr mel hM sM lM → va_P (dC, dI) vwCl [(y, .inr (2, [.int thr, .ref bH, .ref bS, .ref bL, .int mel, .ref bO, .ref bK, .ref bZ, .int sea, .int rnd, .int bas, .int lim, .ref bR, .ref bG, .ref bB, .ref bX])), (bH, .inl (cI, 34, .inl hM)), (bS, .inl (cI, 34, .inl sM)), (bL, .inl (cI, 34, .inl lM))] H → va_D A [(y, .inr (2, [.int thr, .ref bH, .ref bS, .ref bL, .int mel, .ref bO, .ref bK, .ref bZ, .int sea, .int rnd, .int bas, .int lim, .ref bR, .ref bG, .ref bB, .ref bX])), (bH, .inl (cI, 34, .inl hM)), (bS, .inl (cI, 34, .inl sM)), (bL, .inl (cI, 34, .inl lM))] → va_S A s.heap H locs → lv_has ls 3 [(0, .ref y), (1, .int v1)] → W p l e ({ frames := 3, cells := 0, slots := 0, locals := 60 } : Room) s m ([.ref y] : List Value).toArray below meth c H locs 0 0 Q9 (F0 m 45 ls []) := by
    intro v1 thr mel hM sM lM H locs ls hw hP hD hS hl
    refine lv_aload_n hx hb dX2_begin_45 rfl (lv_at hl 0 rfl) ?_
    refine lv_iconst (v := 0) hx hb dX2_begin_46 (by decide) ?_
    refine va_put (D := (dC, dI)) (ci := 2) (v := .int (0 : Int32)) (ty := .int) (C := RX2) (T := TX2) (N := 16) hx hb hts hinX2 tyX2 tyX2_ok nmX2 hown hK hP hD hS 0 rfl rfl 4 (by decide) (hts (.fieldLink RX2 69 "TileHandModel" "melds" "I") (by decide +kernel)) (fun _ h9 => h9) rfl (by decide +kernel) rfl rfl (Nat.le_of_ble_eq_true rfl) dX2_begin_47 (fun H locs hP hD hS => ?_)
    have hP : va_P (dC, dI) vwCl [(y, .inr (2, [.int thr, .ref bH, .ref bS, .ref bL, .int (0 : Int32), .ref bO, .ref bK, .ref bZ, .int sea, .int rnd, .int bas, .int lim, .ref bR, .ref bG, .ref bB, .ref bX])), (bH, .inl (cI, 34, .inl hM)), (bS, .inl (cI, 34, .inl sM)), (bL, .inl (cI, 34, .inl lM))] H := hP
    have hD : va_D A [(y, .inr (2, [.int thr, .ref bH, .ref bS, .ref bL, .int (0 : Int32), .ref bO, .ref bK, .ref bZ, .int sea, .int rnd, .int bas, .int lim, .ref bR, .ref bG, .ref bB, .ref bX])), (bH, .inl (cI, 34, .inl hM)), (bS, .inl (cI, 34, .inl sM)), (bL, .inl (cI, 34, .inl lM))] := hD
    refine lv_iload_n hx hb dX2_begin_50 rfl (lv_at hl 1 rfl) ?_
    rw [← hQ9]
    exact W.iret (v := v1) hx hb hr (fun t ht hW => ⟨⟨v1, (thr, (0 : Int32), hM, sM, lM), rfl, hw, by rw [ht]; exact hP, va_K.moved hW.alike hK, hD⟩, hS.F ht⟩) hS.2.2 dX2_begin_51
  have L12 : ∀ (n : Nat), ∀ (v1 : Int32) (v2 : Int32) (thr : Int32) (mel : Int32) (hM : (Nat → Int32)) (sM : (Nat → Int32)) (lM : (Nat → Int32)) (H : Heap) (locs : List Loc) (ls : Array Slot), w_X2_begin_b12 post n v1 v2 thr mel hM sM lM → va_P (dC, dI) vwCl [(y, .inr (2, [.int thr, .ref bH, .ref bS, .ref bL, .int mel, .ref bO, .ref bK, .ref bZ, .int sea, .int rnd, .int bas, .int lim, .ref bR, .ref bG, .ref bB, .ref bX])), (bH, .inl (cI, 34, .inl hM)), (bS, .inl (cI, 34, .inl sM)), (bL, .inl (cI, 34, .inl lM))] H → va_D A [(y, .inr (2, [.int thr, .ref bH, .ref bS, .ref bL, .int mel, .ref bO, .ref bK, .ref bZ, .int sea, .int rnd, .int bas, .int lim, .ref bR, .ref bG, .ref bB, .ref bX])), (bH, .inl (cI, 34, .inl hM)), (bS, .inl (cI, 34, .inl sM)), (bL, .inl (cI, 34, .inl lM))] → va_S A s.heap H locs → lv_has ls 3 [(0, .ref y), (1, .int v1), (2, .int v2)] → W p l e ({ frames := 3, cells := 0, slots := 0, locals := 60 } : Room) s m ([.ref y] : List Value).toArray below meth c H locs 0 0 Q9 (F0 m 12 ls []) := by
    intro n
    induction n with
    | zero => intro v1 v2 thr mel hM sM lM H locs ls hw _ _ _ _; exact False.elim hw
    | succ n ih =>
      intro v1 v2 thr mel hM sM lM H locs ls hw hP hD hS hl
      refine lv_iload_n hx hb dX2_begin_12 rfl (lv_at hl 2 rfl) ?_
      refine lv_bipush (v := 34) hx hb dX2_begin_13 (by decide) ?_
      refine lv_icmp_ge (tgt := 45) hx hb dX2_begin_15 (by decide) (fun c2 => ?_) (fun c2 => ?_)
      · have hw := hw.1 c2
        exact L45 v1 thr mel hM sM lM _ _ _ hw hP hD hS (lv_sub hl [0, 1] rfl)
      · have hw := hw.2 c2
        refine lv_aload_n hx hb dX2_begin_18 rfl (lv_at hl 0 rfl) ?_
        refine va_get (D := (dC, dI)) (ci := 2) (v := .ref bH) (C := RX2) (T := TX2) (N := 16) hx hb hts hinX2 hown hK hP 0 rfl rfl 1 (by decide) (hts (.fieldLink RX2 9 "TileHandModel" "hand" "[I") (by decide +kernel)) (fun _ h9 => h9) rfl dX2_begin_19 ?_
        refine lv_iload_n hx hb dX2_begin_22 rfl (lv_at hl 2 rfl) ?_
        refine lv_iconst (v := 0) hx hb dX2_begin_23 (by decide) ?_
        obtain ⟨h3, hw⟩ := hw
        refine va_iast hx hb hK hP hD hS 1 0 rfl rfl h3 dX2_begin_24 (fun H locs hP hD hS => ?_)
        have hP : va_P (dC, dI) vwCl [(y, .inr (2, [.int thr, .ref bH, .ref bS, .ref bL, .int mel, .ref bO, .ref bK, .ref bZ, .int sea, .int rnd, .int bas, .int lim, .ref bR, .ref bG, .ref bB, .ref bX])), (bH, .inl (cI, 34, .inl (upd hM v2.toNatClampNeg (0 : Int32)))), (bS, .inl (cI, 34, .inl sM)), (bL, .inl (cI, 34, .inl lM))] H := hP
        have hD : va_D A [(y, .inr (2, [.int thr, .ref bH, .ref bS, .ref bL, .int mel, .ref bO, .ref bK, .ref bZ, .int sea, .int rnd, .int bas, .int lim, .ref bR, .ref bG, .ref bB, .ref bX])), (bH, .inl (cI, 34, .inl (upd hM v2.toNatClampNeg (0 : Int32)))), (bS, .inl (cI, 34, .inl sM)), (bL, .inl (cI, 34, .inl lM))] := hD
        refine lv_aload_n hx hb dX2_begin_25 rfl (lv_at hl 0 rfl) ?_
        refine va_get (D := (dC, dI)) (ci := 2) (v := .ref bS) (C := RX2) (T := TX2) (N := 16) hx hb hts hinX2 hown hK hP 0 rfl rfl 2 (by decide) (hts (.fieldLink RX2 13 "TileHandModel" "seen" "[I") (by decide +kernel)) (fun _ h9 => h9) rfl dX2_begin_26 ?_
        refine lv_iload_n hx hb dX2_begin_29 rfl (lv_at hl 2 rfl) ?_
        refine lv_iconst (v := 0) hx hb dX2_begin_30 (by decide) ?_
        obtain ⟨h4, hw⟩ := hw
        refine va_iast hx hb hK hP hD hS 2 0 rfl rfl h4 dX2_begin_31 (fun H locs hP hD hS => ?_)
        have hP : va_P (dC, dI) vwCl [(y, .inr (2, [.int thr, .ref bH, .ref bS, .ref bL, .int mel, .ref bO, .ref bK, .ref bZ, .int sea, .int rnd, .int bas, .int lim, .ref bR, .ref bG, .ref bB, .ref bX])), (bH, .inl (cI, 34, .inl (upd hM v2.toNatClampNeg (0 : Int32)))), (bS, .inl (cI, 34, .inl (upd sM v2.toNatClampNeg (0 : Int32)))), (bL, .inl (cI, 34, .inl lM))] H := hP
        have hD : va_D A [(y, .inr (2, [.int thr, .ref bH, .ref bS, .ref bL, .int mel, .ref bO, .ref bK, .ref bZ, .int sea, .int rnd, .int bas, .int lim, .ref bR, .ref bG, .ref bB, .ref bX])), (bH, .inl (cI, 34, .inl (upd hM v2.toNatClampNeg (0 : Int32)))), (bS, .inl (cI, 34, .inl (upd sM v2.toNatClampNeg (0 : Int32)))), (bL, .inl (cI, 34, .inl lM))] := hD
        refine lv_aload_n hx hb dX2_begin_32 rfl (lv_at hl 0 rfl) ?_
        refine va_get (D := (dC, dI)) (ci := 2) (v := .ref bL) (C := RX2) (T := TX2) (N := 16) hx hb hts hinX2 hown hK hP 0 rfl rfl 3 (by decide) (hts (.fieldLink RX2 16 "TileHandModel" "laid" "[I") (by decide +kernel)) (fun _ h9 => h9) rfl dX2_begin_33 ?_
        refine lv_iload_n hx hb dX2_begin_36 rfl (lv_at hl 2 rfl) ?_
        refine lv_iconst (v := 0) hx hb dX2_begin_37 (by decide) ?_
        obtain ⟨h5, hw⟩ := hw
        refine va_iast hx hb hK hP hD hS 3 0 rfl rfl h5 dX2_begin_38 (fun H locs hP hD hS => ?_)
        have hP : va_P (dC, dI) vwCl [(y, .inr (2, [.int thr, .ref bH, .ref bS, .ref bL, .int mel, .ref bO, .ref bK, .ref bZ, .int sea, .int rnd, .int bas, .int lim, .ref bR, .ref bG, .ref bB, .ref bX])), (bH, .inl (cI, 34, .inl (upd hM v2.toNatClampNeg (0 : Int32)))), (bS, .inl (cI, 34, .inl (upd sM v2.toNatClampNeg (0 : Int32)))), (bL, .inl (cI, 34, .inl (upd lM v2.toNatClampNeg (0 : Int32))))] H := hP
        have hD : va_D A [(y, .inr (2, [.int thr, .ref bH, .ref bS, .ref bL, .int mel, .ref bO, .ref bK, .ref bZ, .int sea, .int rnd, .int bas, .int lim, .ref bR, .ref bG, .ref bB, .ref bX])), (bH, .inl (cI, 34, .inl (upd hM v2.toNatClampNeg (0 : Int32)))), (bS, .inl (cI, 34, .inl (upd sM v2.toNatClampNeg (0 : Int32)))), (bL, .inl (cI, 34, .inl (upd lM v2.toNatClampNeg (0 : Int32))))] := hD
        refine lv_iinc (v := v2 + 1) (lv' := [(2, .int (v2 + 1)), (0, .ref y), (1, .int v1)]) hx hb dX2_begin_39 hl (k := 2) rfl rfl (by decide) rfl (fun ls hl => ?_)
        refine lv_goto (tgt := 12) hx hb dX2_begin_42 (by decide) ?_
        exact ih v1 (v2 + 1) thr mel (upd hM v2.toNatClampNeg (0 : Int32)) (upd sM v2.toNatClampNeg (0 : Int32)) (upd lM v2.toNatClampNeg (0 : Int32)) _ _ _ hw hP hD hS (lv_sub hl [1, 2, 0] rfl)
  refine lv_aload_n hx hb dX2_begin_0 rfl (lv_at hl 0 rfl) ?_
  refine lv_iconst (v := 0) hx hb dX2_begin_1 (by decide) ?_
  refine va_put (D := (dC, dI)) (ci := 2) (v := .int (0 : Int32)) (ty := .int) (C := RX2) (T := TX2) (N := 16) hx hb hts hinX2 tyX2 tyX2_ok nmX2 hown hK hP hD hS 0 rfl rfl 0 (by decide) (hts (.fieldLink RX2 54 "TileHandModel" "thrown" "I") (by decide +kernel)) (fun _ h9 => h9) rfl (by decide +kernel) rfl rfl (Nat.le_of_ble_eq_true rfl) dX2_begin_2 (fun H locs hP hD hS => ?_)
  have hP : va_P (dC, dI) vwCl [(y, .inr (2, [.int (0 : Int32), .ref bH, .ref bS, .ref bL, .int mel, .ref bO, .ref bK, .ref bZ, .int sea, .int rnd, .int bas, .int lim, .ref bR, .ref bG, .ref bB, .ref bX])), (bH, .inl (cI, 34, .inl hM)), (bS, .inl (cI, 34, .inl sM)), (bL, .inl (cI, 34, .inl lM))] H := hP
  have hD : va_D A [(y, .inr (2, [.int (0 : Int32), .ref bH, .ref bS, .ref bL, .int mel, .ref bO, .ref bK, .ref bZ, .int sea, .int rnd, .int bas, .int lim, .ref bR, .ref bG, .ref bB, .ref bX])), (bH, .inl (cI, 34, .inl hM)), (bS, .inl (cI, 34, .inl sM)), (bL, .inl (cI, 34, .inl lM))] := hD
  refine lv_aload_n hx hb dX2_begin_5 rfl (lv_at hl 0 rfl) ?_
  have hPc := hP.sub (ws' := [(y, .inr (2, [.int (0 : Int32), .ref bH, .ref bS, .ref bL, .int mel, .ref bO, .ref bK, .ref bZ, .int sea, .int rnd, .int bas, .int lim, .ref bR, .ref bG, .ref bB, .ref bX])), (bH, .inl (cI, 34, .inl hM))]) [0, 1] rfl
  have hDc := hD.sub (ws' := [(y, .inr (2, [.int (0 : Int32), .ref bH, .ref bS, .ref bL, .int mel, .ref bO, .ref bK, .ref bZ, .int sea, .int rnd, .int bas, .int lim, .ref bR, .ref bG, .ref bB, .ref bX])), (bH, .inl (cI, 34, .inl hM))]) [0, 1] (by decide) rfl
  have hFc := va_free (wc := [(y, .inr (2, [.int (0 : Int32), .ref bH, .ref bS, .ref bL, .int mel, .ref bO, .ref bK, .ref bZ, .int sea, .int rnd, .int bas, .int lim, .ref bR, .ref bG, .ref bB, .ref bX])), (bH, .inl (cI, 34, .inl hM))]) hD hS hA [0, 1] rfl
  refine va_calli (va_runV (As := []) (rest := []) ⟨hx, hb, hml, hown, hts⟩ (c_X2_sizeOf l dC dI cI cZ y bH bS bL bO bK bZ bR bG bB bX H.size (0 : Int32) mel sea rnd bas lim hM _ hw) (cwV 0 hts gX2_begin_X2_sizeOf rfl rfl rfl (by decide +kernel) ⟨Nat.le_of_ble_eq_true rfl, Nat.le_of_ble_eq_true rfl⟩) ⟨fun a U g mk q => by obtain ⟨q0, q1, qP, qK, qD⟩ := q; exact ⟨q0, q1, qP, va_K.moved (u := U) (U := U.calling g mk a) (Vm.Alike.refl U.vm) qK, qD⟩, va_recv hK hPc (ci := 2) (q0 := 0) rfl rfl, fun U hU hW => ⟨rfl, by rw [hU], by rw [hU]; exact hPc, va_K.moved hW.alike hK, hDc.weaken (fun _ _ _ _ => trivial)⟩⟩ rfl rfl hl.1 rfl (lv_room (Nat.le_of_ble_eq_true rfl)) dX2_begin_6 ⟨Nat.le_of_ble_eq_true rfl, Nat.le_of_ble_eq_true rfl⟩) hS (fun q _ h => hFc q h) hFc (fun r1 u t H1 locs ht hvm hw hB hz1 hk1 hS => ?_)
  obtain ⟨hP1, -, hD1⟩ := hB
  have hw := And.intro hw trivial
  try dsimp only at hw
  have hw := hw.1
  rw [ht] at hP1
  obtain ⟨hP, hD⟩ := va_join (wr := [(bS, .inl (cI, 34, .inl sM)), (bL, .inl (cI, 34, .inl lM))]) (w1 := [(y, .inr (2, [.int (0 : Int32), .ref bH, .ref bS, .ref bL, .int mel, .ref bO, .ref bK, .ref bZ, .int sea, .int rnd, .int bas, .int lim, .ref bR, .ref bG, .ref bB, .ref bX])), (bH, .inl (cI, 34, .inl hM))]) hP hD [0, 1] [2, 3] rfl rfl (by decide) (by decide) hk1 hFc hP1 hD1
  generalize H1 = H at hP hS ⊢
  have hP : va_P (dC, dI) vwCl [(bS, .inl (cI, 34, .inl sM)), (bL, .inl (cI, 34, .inl lM)), (y, .inr (2, [.int (0 : Int32), .ref bH, .ref bS, .ref bL, .int mel, .ref bO, .ref bK, .ref bZ, .int sea, .int rnd, .int bas, .int lim, .ref bR, .ref bG, .ref bB, .ref bX])), (bH, .inl (cI, 34, .inl hM))] H := hP
  have hD : va_D A [(bS, .inl (cI, 34, .inl sM)), (bL, .inl (cI, 34, .inl lM)), (y, .inr (2, [.int (0 : Int32), .ref bH, .ref bS, .ref bL, .int mel, .ref bO, .ref bK, .ref bZ, .int sea, .int rnd, .int bas, .int lim, .ref bR, .ref bG, .ref bB, .ref bX])), (bH, .inl (cI, 34, .inl hM))] := hD
  refine lv_istore_n (lv' := [(1, .int r1), (0, .ref y)]) hx hb dX2_begin_9 rfl hl (by decide) rfl (fun ls hl => ?_)
  refine lv_iconst (v := 0) hx hb dX2_begin_10 (by decide) ?_
  refine lv_istore_n (lv' := [(2, .int (0 : Int32)), (1, .int r1), (0, .ref y)]) hx hb dX2_begin_11 rfl hl (by decide) rfl (fun ls hl => ?_)
  have hP9 := hP.sub (ws' := [(y, .inr (2, [.int (0 : Int32), .ref bH, .ref bS, .ref bL, .int mel, .ref bO, .ref bK, .ref bZ, .int sea, .int rnd, .int bas, .int lim, .ref bR, .ref bG, .ref bB, .ref bX])), (bH, .inl (cI, 34, .inl hM)), (bS, .inl (cI, 34, .inl sM)), (bL, .inl (cI, 34, .inl lM))]) [2, 3, 0, 1] rfl
  have hD9 := hD.sub (ws' := [(y, .inr (2, [.int (0 : Int32), .ref bH, .ref bS, .ref bL, .int mel, .ref bO, .ref bK, .ref bZ, .int sea, .int rnd, .int bas, .int lim, .ref bR, .ref bG, .ref bB, .ref bX])), (bH, .inl (cI, 34, .inl hM)), (bS, .inl (cI, 34, .inl sM)), (bL, .inl (cI, 34, .inl lM))]) [2, 3, 0, 1] (by decide) rfl
  obtain ⟨n9, hw⟩ := hw
  exact L12 n9 r1 (0 : Int32) (0 : Int32) mel hM sM lM _ _ _ hw hP9 hD9 hS (lv_sub hl [2, 1, 0] rfl)

def w_X2_size (thr : Int32) (mel : Int32) (hM : (Nat → Int32)) (post : Int32 → Int32 → Prop) : Prop := w_X2_sizeOf mel hM (fun r1 => (post r1 (0 : Int32)))

set_option maxHeartbeats 4000000 in
set_option maxRecDepth 100000 in
theorem c_X2_size (l : Launch) (dC : Nat → ClassId) (dI : Nat → Nat → Nat) (cI cZ : ClassId) (y : Nat) (bH : Nat) (bS : Nat) (bL : Nat) (bO : Nat) (bK : Nat) (bZ : Nat) (bR : Nat) (bG : Nat) (bB : Nat) (bX : Nat) (sz : Nat) (thr : Int32) (mel : Int32) (sea : Int32) (rnd : Int32) (bas : Int32) (lim : Int32) (hM : (Nat → Int32)) (post : Int32 → Int32 → Prop) (hw : w_X2_size thr mel hM post) : Met l yX2_size wsX2_size ({ frames := 3, cells := 0, slots := 0, locals := 60 } : Room) (va_Pc [.ref y] (fun U => U.heap.size = sz ∧ va_P (dC, dI) vwCl [(y, .inr (2, [.int thr, .ref bH, .ref bS, .ref bL, .int mel, .ref bO, .ref bK, .ref bZ, .int sea, .int rnd, .int bas, .int lim, .ref bR, .ref bG, .ref bB, .ref bX])), (bH, .inl (cI, 34, .inl hM))] U.heap ∧ va_K (dC, dI) vwCl [(cI, .int), (cZ, .boolean)] U ∧ va_D (fun _ => True) [(y, .inr (2, [.int thr, .ref bH, .ref bS, .ref bL, .int mel, .ref bO, .ref bK, .ref bZ, .int sea, .int rnd, .int bas, .int lim, .ref bR, .ref bG, .ref bB, .ref bX])), (bH, .inl (cI, 34, .inl hM))])) (va_Qi (fun (r9 : Int32) (u9 : Int32) => post r9 u9) (fun (u9 : Int32) (t9 : State) => va_P (dC, dI) vwCl [(y, .inr (2, [.int u9, .ref bH, .ref bS, .ref bL, .int mel, .ref bO, .ref bK, .ref bZ, .int sea, .int rnd, .int bas, .int lim, .ref bR, .ref bG, .ref bB, .ref bX])), (bH, .inl (cI, 34, .inl hM))] t9.heap ∧ va_K (dC, dI) vwCl [(cI, .int), (cZ, .boolean)] t9 ∧ va_D (va_A [(y, .inr (2, [.int thr, .ref bH, .ref bS, .ref bL, .int mel, .ref bO, .ref bK, .ref bZ, .int sea, .int rnd, .int bas, .int lim, .ref bR, .ref bG, .ref bB, .ref bX])), (bH, .inl (cI, 34, .inl hM))] sz) [(y, .inr (2, [.int u9, .ref bH, .ref bS, .ref bL, .int mel, .ref bO, .ref bK, .ref bZ, .int sea, .int rnd, .int bas, .int lim, .ref bR, .ref bG, .ref bB, .ref bX])), (bH, .inl (cI, 34, .inl hM))]) (va_A [(y, .inr (2, [.int thr, .ref bH, .ref bS, .ref bL, .int mel, .ref bO, .ref bK, .ref bZ, .int sea, .int rnd, .int bas, .int lim, .ref bR, .ref bG, .ref bB, .ref bX])), (bH, .inl (cI, 34, .inl hM))] sz)) 0 0 (va_A [(y, .inr (2, [.int thr, .ref bH, .ref bS, .ref bL, .int mel, .ref bO, .ref bK, .ref bZ, .int sea, .int rnd, .int bas, .int lim, .ref bR, .ref bG, .ref bB, .ref bX])), (bH, .inl (cI, 34, .inl hM))] sz) := by
  refine Met.ofW (cc := cX2_size) (maxL := 1) (ret := (some .int)) (by decide) rfl ?_
  intro p e s m args below meth c s₁ B hml hv
  obtain ⟨rfl, hsz, hP, hK, hD0⟩ := hv
  have hx := B.exec
  have hb := B.bytes
  have hr := B.returns
  have hts := atoms_spec (ws := wsX2_size) B.pre
  have hown : s.vm.findClass RX2 = some m.cls := findClass_of_methodNamed B.named
  have hlocks := B.notSynchronized
  have hinX2 : ∀ w ∈ u_ws RX2 TX2 16, w ∈ wsX2_size := by decide +kernel
  subst hsz
  have hD := hD0.self (sz := s.heap.size)
  generalize hAe : va_A [(y, .inr (2, [.int thr, .ref bH, .ref bS, .ref bL, .int mel, .ref bO, .ref bK, .ref bZ, .int sea, .int rnd, .int bas, .int lim, .ref bR, .ref bG, .ref bB, .ref bX])), (bH, .inl (cI, 34, .inl hM))] s.heap.size = A at hD ⊢
  have hA : ∀ q : Nat, s.heap.size ≤ q → A q := fun q h => by rw [← hAe]; exact Or.inr h
  have hS : va_S A s.heap s.heap [] := va_S.rf
  have hl := lv_entry ([.ref y]) (n := 1) (Nat.le_of_ble_eq_true rfl)
  rw [lg_entry_eq]
  generalize (lg_sl ([.ref y]) ++ List.replicate (1 - (lg_sl ([.ref y])).length) Slot.unset).toArray = ls at hl ⊢
  have hl : lv_has ls 1 [(0, .ref y)] := hl
  refine (?_ : ∀ Q9 : State → Prop, MQ below _ _ s _ _ _ = Q9 → W p l e ({ frames := 3, cells := 0, slots := 0, locals := 60 } : Room) s m _ below meth c s.heap [] 0 0 Q9 (F0 m 0 ls [])) _ rfl
  intro Q9 hQ9
  have hw : w_X2_sizeOf mel hM (fun r1 => (post r1 (0 : Int32))) := hw
  refine lv_aload_n hx hb dX2_size_0 rfl (lv_at hl 0 rfl) ?_
  refine lv_iconst (v := 0) hx hb dX2_size_1 (by decide) ?_
  refine va_put (D := (dC, dI)) (ci := 2) (v := .int (0 : Int32)) (ty := .int) (C := RX2) (T := TX2) (N := 16) hx hb hts hinX2 tyX2 tyX2_ok nmX2 hown hK hP hD hS 0 rfl rfl 0 (by decide) (hts (.fieldLink RX2 54 "TileHandModel" "thrown" "I") (by decide +kernel)) (fun _ h9 => h9) rfl (by decide +kernel) rfl rfl (Nat.le_of_ble_eq_true rfl) dX2_size_2 (fun H locs hP hD hS => ?_)
  have hP : va_P (dC, dI) vwCl [(y, .inr (2, [.int (0 : Int32), .ref bH, .ref bS, .ref bL, .int mel, .ref bO, .ref bK, .ref bZ, .int sea, .int rnd, .int bas, .int lim, .ref bR, .ref bG, .ref bB, .ref bX])), (bH, .inl (cI, 34, .inl hM))] H := hP
  have hD : va_D A [(y, .inr (2, [.int (0 : Int32), .ref bH, .ref bS, .ref bL, .int mel, .ref bO, .ref bK, .ref bZ, .int sea, .int rnd, .int bas, .int lim, .ref bR, .ref bG, .ref bB, .ref bX])), (bH, .inl (cI, 34, .inl hM))] := hD
  refine lv_aload_n hx hb dX2_size_5 rfl (lv_at hl 0 rfl) ?_
  have hPc := hP.sub (ws' := [(y, .inr (2, [.int (0 : Int32), .ref bH, .ref bS, .ref bL, .int mel, .ref bO, .ref bK, .ref bZ, .int sea, .int rnd, .int bas, .int lim, .ref bR, .ref bG, .ref bB, .ref bX])), (bH, .inl (cI, 34, .inl hM))]) [0, 1] rfl
  have hDc := hD.sub (ws' := [(y, .inr (2, [.int (0 : Int32), .ref bH, .ref bS, .ref bL, .int mel, .ref bO, .ref bK, .ref bZ, .int sea, .int rnd, .int bas, .int lim, .ref bR, .ref bG, .ref bB, .ref bX])), (bH, .inl (cI, 34, .inl hM))]) [0, 1] (by decide) rfl
  have hFc := va_free (wc := [(y, .inr (2, [.int (0 : Int32), .ref bH, .ref bS, .ref bL, .int mel, .ref bO, .ref bK, .ref bZ, .int sea, .int rnd, .int bas, .int lim, .ref bR, .ref bG, .ref bB, .ref bX])), (bH, .inl (cI, 34, .inl hM))]) hD hS hA [0, 1] rfl
  refine va_calli (va_runV (As := []) (rest := []) ⟨hx, hb, hml, hown, hts⟩ (c_X2_sizeOf l dC dI cI cZ y bH bS bL bO bK bZ bR bG bB bX H.size (0 : Int32) mel sea rnd bas lim hM _ hw) (cwV 0 hts gX2_size_X2_sizeOf rfl rfl rfl (by decide +kernel) ⟨Nat.le_of_ble_eq_true rfl, Nat.le_of_ble_eq_true rfl⟩) ⟨fun a U g mk q => by obtain ⟨q0, q1, qP, qK, qD⟩ := q; exact ⟨q0, q1, qP, va_K.moved (u := U) (U := U.calling g mk a) (Vm.Alike.refl U.vm) qK, qD⟩, va_recv hK hPc (ci := 2) (q0 := 0) rfl rfl, fun U hU hW => ⟨rfl, by rw [hU], by rw [hU]; exact hPc, va_K.moved hW.alike hK, hDc.weaken (fun _ _ _ _ => trivial)⟩⟩ rfl rfl hl.1 rfl (lv_room (Nat.le_of_ble_eq_true rfl)) dX2_size_6 ⟨Nat.le_of_ble_eq_true rfl, Nat.le_of_ble_eq_true rfl⟩) hS (fun q _ h => hFc q h) hFc (fun r1 u t H1 locs ht hvm hw hB hz1 hk1 hS => ?_)
  obtain ⟨hP1, -, hD1⟩ := hB
  have hw := And.intro hw trivial
  try dsimp only at hw
  have hw := hw.1
  rw [ht] at hP1
  obtain ⟨hP, hD⟩ := va_join (wr := []) (w1 := [(y, .inr (2, [.int (0 : Int32), .ref bH, .ref bS, .ref bL, .int mel, .ref bO, .ref bK, .ref bZ, .int sea, .int rnd, .int bas, .int lim, .ref bR, .ref bG, .ref bB, .ref bX])), (bH, .inl (cI, 34, .inl hM))]) hP hD [0, 1] [] rfl rfl (by decide) (by decide) hk1 hFc hP1 hD1
  generalize H1 = H at hP hS ⊢
  have hP : va_P (dC, dI) vwCl [(y, .inr (2, [.int (0 : Int32), .ref bH, .ref bS, .ref bL, .int mel, .ref bO, .ref bK, .ref bZ, .int sea, .int rnd, .int bas, .int lim, .ref bR, .ref bG, .ref bB, .ref bX])), (bH, .inl (cI, 34, .inl hM))] H := hP
  have hD : va_D A [(y, .inr (2, [.int (0 : Int32), .ref bH, .ref bS, .ref bL, .int mel, .ref bO, .ref bK, .ref bZ, .int sea, .int rnd, .int bas, .int lim, .ref bR, .ref bG, .ref bB, .ref bX])), (bH, .inl (cI, 34, .inl hM))] := hD
  rw [← hQ9]
  exact W.iret (v := r1) hx hb hr (fun t ht hW => ⟨⟨r1, ((0 : Int32)), rfl, hw, by rw [ht]; exact hP, va_K.moved hW.alike hK, hD⟩, hS.F ht⟩) hS.2.2 dX2_size_9

def w_X2_count (thr : Int32) (hM : (Nat → Int32)) (sM : (Nat → Int32)) (p0 : Int32) (p1 : Int32) (post : Int32 → Int32 → Prop) : Prop := w_X2_isKind p0 (fun r1 => (((r1 = 0 → (w_X2_fail (0 : Int32) (1 : Int32) (fun r6 thr_7 => (post r6 thr_7)))) ∧ (¬ r1 = 0 → (((p1 = 0 → (vp_in p0 34 ∧ (post (hM p0.toNatClampNeg) (0 : Int32)))) ∧ (¬ p1 = 0 → (vp_in p0 34 ∧ (post (sM p0.toNatClampNeg) (0 : Int32))))))))))

set_option maxHeartbeats 4000000 in
set_option maxRecDepth 100000 in
theorem c_X2_count (l : Launch) (dC : Nat → ClassId) (dI : Nat → Nat → Nat) (cI cZ : ClassId) (y : Nat) (bH : Nat) (bS : Nat) (bL : Nat) (bO : Nat) (bK : Nat) (bZ : Nat) (bR : Nat) (bG : Nat) (bB : Nat) (bX : Nat) (sz : Nat) (thr : Int32) (mel : Int32) (sea : Int32) (rnd : Int32) (bas : Int32) (lim : Int32) (hM : (Nat → Int32)) (sM : (Nat → Int32)) (p0 : Int32) (p1 : Int32) (post : Int32 → Int32 → Prop) (hw : w_X2_count thr hM sM p0 p1 post) : Met l yX2_count wsX2_count ({ frames := 3, cells := 0, slots := 0, locals := 60 } : Room) (va_Pc [.ref y, .int p0, .int p1] (fun U => U.heap.size = sz ∧ va_P (dC, dI) vwCl [(y, .inr (2, [.int thr, .ref bH, .ref bS, .ref bL, .int mel, .ref bO, .ref bK, .ref bZ, .int sea, .int rnd, .int bas, .int lim, .ref bR, .ref bG, .ref bB, .ref bX])), (bH, .inl (cI, 34, .inl hM)), (bS, .inl (cI, 34, .inl sM))] U.heap ∧ va_K (dC, dI) vwCl [(cI, .int), (cZ, .boolean)] U ∧ va_D (fun _ => True) [(y, .inr (2, [.int thr, .ref bH, .ref bS, .ref bL, .int mel, .ref bO, .ref bK, .ref bZ, .int sea, .int rnd, .int bas, .int lim, .ref bR, .ref bG, .ref bB, .ref bX])), (bH, .inl (cI, 34, .inl hM)), (bS, .inl (cI, 34, .inl sM))])) (va_Qi (fun (r9 : Int32) (u9 : Int32) => post r9 u9) (fun (u9 : Int32) (t9 : State) => va_P (dC, dI) vwCl [(y, .inr (2, [.int u9, .ref bH, .ref bS, .ref bL, .int mel, .ref bO, .ref bK, .ref bZ, .int sea, .int rnd, .int bas, .int lim, .ref bR, .ref bG, .ref bB, .ref bX])), (bH, .inl (cI, 34, .inl hM)), (bS, .inl (cI, 34, .inl sM))] t9.heap ∧ va_K (dC, dI) vwCl [(cI, .int), (cZ, .boolean)] t9 ∧ va_D (va_A [(y, .inr (2, [.int thr, .ref bH, .ref bS, .ref bL, .int mel, .ref bO, .ref bK, .ref bZ, .int sea, .int rnd, .int bas, .int lim, .ref bR, .ref bG, .ref bB, .ref bX])), (bH, .inl (cI, 34, .inl hM)), (bS, .inl (cI, 34, .inl sM))] sz) [(y, .inr (2, [.int u9, .ref bH, .ref bS, .ref bL, .int mel, .ref bO, .ref bK, .ref bZ, .int sea, .int rnd, .int bas, .int lim, .ref bR, .ref bG, .ref bB, .ref bX])), (bH, .inl (cI, 34, .inl hM)), (bS, .inl (cI, 34, .inl sM))]) (va_A [(y, .inr (2, [.int thr, .ref bH, .ref bS, .ref bL, .int mel, .ref bO, .ref bK, .ref bZ, .int sea, .int rnd, .int bas, .int lim, .ref bR, .ref bG, .ref bB, .ref bX])), (bH, .inl (cI, 34, .inl hM)), (bS, .inl (cI, 34, .inl sM))] sz)) 0 0 (va_A [(y, .inr (2, [.int thr, .ref bH, .ref bS, .ref bL, .int mel, .ref bO, .ref bK, .ref bZ, .int sea, .int rnd, .int bas, .int lim, .ref bR, .ref bG, .ref bB, .ref bX])), (bH, .inl (cI, 34, .inl hM)), (bS, .inl (cI, 34, .inl sM))] sz) := by
  refine Met.ofW (cc := cX2_count) (maxL := 3) (ret := (some .int)) (by decide) rfl ?_
  intro p e s m args below meth c s₁ B hml hv
  obtain ⟨rfl, hsz, hP, hK, hD0⟩ := hv
  have hx := B.exec
  have hb := B.bytes
  have hr := B.returns
  have hts := atoms_spec (ws := wsX2_count) B.pre
  have hown : s.vm.findClass RX2 = some m.cls := findClass_of_methodNamed B.named
  have hlocks := B.notSynchronized
  have hinX2 : ∀ w ∈ u_ws RX2 TX2 16, w ∈ wsX2_count := by decide +kernel
  subst hsz
  have hD := hD0.self (sz := s.heap.size)
  generalize hAe : va_A [(y, .inr (2, [.int thr, .ref bH, .ref bS, .ref bL, .int mel, .ref bO, .ref bK, .ref bZ, .int sea, .int rnd, .int bas, .int lim, .ref bR, .ref bG, .ref bB, .ref bX])), (bH, .inl (cI, 34, .inl hM)), (bS, .inl (cI, 34, .inl sM))] s.heap.size = A at hD ⊢
  have hA : ∀ q : Nat, s.heap.size ≤ q → A q := fun q h => by rw [← hAe]; exact Or.inr h
  have hS : va_S A s.heap s.heap [] := va_S.rf
  have hl := lv_entry ([.ref y, .int p0, .int p1]) (n := 3) (Nat.le_of_ble_eq_true rfl)
  rw [lg_entry_eq]
  generalize (lg_sl ([.ref y, .int p0, .int p1]) ++ List.replicate (3 - (lg_sl ([.ref y, .int p0, .int p1])).length) Slot.unset).toArray = ls at hl ⊢
  have hl : lv_has ls 3 [(0, .ref y), (1, .int p0), (2, .int p1)] := hl
  refine (?_ : ∀ Q9 : State → Prop, MQ below _ _ s _ _ _ = Q9 → W p l e ({ frames := 3, cells := 0, slots := 0, locals := 60 } : Room) s m _ below meth c s.heap [] 0 0 Q9 (F0 m 0 ls [])) _ rfl
  intro Q9 hQ9
  have hw : w_X2_isKind p0 (fun r1 => (((r1 = 0 → (w_X2_fail (0 : Int32) (1 : Int32) (fun r6 thr_7 => (post r6 thr_7)))) ∧ (¬ r1 = 0 → (((p1 = 0 → (vp_in p0 34 ∧ (post (hM p0.toNatClampNeg) (0 : Int32)))) ∧ (¬ p1 = 0 → (vp_in p0 34 ∧ (post (sM p0.toNatClampNeg) (0 : Int32)))))))))) := hw
  refine lv_aload_n hx hb dX2_count_0 rfl (lv_at hl 0 rfl) ?_
  refine lv_iconst (v := 0) hx hb dX2_count_1 (by decide) ?_
  refine va_put (D := (dC, dI)) (ci := 2) (v := .int (0 : Int32)) (ty := .int) (C := RX2) (T := TX2) (N := 16) hx hb hts hinX2 tyX2 tyX2_ok nmX2 hown hK hP hD hS 0 rfl rfl 0 (by decide) (hts (.fieldLink RX2 54 "TileHandModel" "thrown" "I") (by decide +kernel)) (fun _ h9 => h9) rfl (by decide +kernel) rfl rfl (Nat.le_of_ble_eq_true rfl) dX2_count_2 (fun H locs hP hD hS => ?_)
  have hP : va_P (dC, dI) vwCl [(y, .inr (2, [.int (0 : Int32), .ref bH, .ref bS, .ref bL, .int mel, .ref bO, .ref bK, .ref bZ, .int sea, .int rnd, .int bas, .int lim, .ref bR, .ref bG, .ref bB, .ref bX])), (bH, .inl (cI, 34, .inl hM)), (bS, .inl (cI, 34, .inl sM))] H := hP
  have hD : va_D A [(y, .inr (2, [.int (0 : Int32), .ref bH, .ref bS, .ref bL, .int mel, .ref bO, .ref bK, .ref bZ, .int sea, .int rnd, .int bas, .int lim, .ref bR, .ref bG, .ref bB, .ref bX])), (bH, .inl (cI, 34, .inl hM)), (bS, .inl (cI, 34, .inl sM))] := hD
  refine lv_iload_n hx hb dX2_count_5 rfl (lv_at hl 1 rfl) ?_
  have hPc := hP.sub (ws' := []) [] rfl
  have hDc := hD.sub (ws' := []) [] (by decide) rfl
  have hFc := va_free (wc := []) hD hS hA [] rfl
  refine va_calli (va_runS (As := [.int p0]) (rest := []) ⟨hx, hb, hml, hown, hts⟩ (c_X2_isKind l dC dI cI cZ H.size p0 _ hw) (va_cwS 1 hts gX2_count_X2_isKind rfl rfl rfl (by decide +kernel) ⟨Nat.le_of_ble_eq_true rfl, Nat.le_of_ble_eq_true rfl⟩) ⟨fun a U g mk q => by obtain ⟨q0, q1, qP, qK, qD⟩ := q; exact ⟨q0, q1, qP, va_K.moved (u := U) (U := U.calling g mk a) (Vm.Alike.refl U.vm) qK, qD⟩, fun U hU hW => ⟨rfl, by rw [hU], by rw [hU]; exact hPc, va_K.moved hW.alike hK, hDc.weaken (fun _ _ _ _ => trivial)⟩⟩ rfl rfl hl.1 rfl (lv_room (Nat.le_of_ble_eq_true rfl)) dX2_count_6 ⟨Nat.le_of_ble_eq_true rfl, Nat.le_of_ble_eq_true rfl⟩) hS (fun q _ h => hFc q h) hFc (fun r1 u t H1 locs ht hvm hw hB hz1 hk1 hS => ?_)
  obtain ⟨hP1, -, hD1⟩ := hB
  have hw := And.intro hw trivial
  try dsimp only at hw
  have hw := hw.1
  rw [ht] at hP1
  obtain ⟨hP, hD⟩ := va_join (wr := [(y, .inr (2, [.int (0 : Int32), .ref bH, .ref bS, .ref bL, .int mel, .ref bO, .ref bK, .ref bZ, .int sea, .int rnd, .int bas, .int lim, .ref bR, .ref bG, .ref bB, .ref bX])), (bH, .inl (cI, 34, .inl hM)), (bS, .inl (cI, 34, .inl sM))]) (w1 := []) hP hD [] [0, 1, 2] rfl rfl (by decide) (by decide) hk1 hFc hP1 hD1
  generalize H1 = H at hP hS ⊢
  have hP : va_P (dC, dI) vwCl [(y, .inr (2, [.int (0 : Int32), .ref bH, .ref bS, .ref bL, .int mel, .ref bO, .ref bK, .ref bZ, .int sea, .int rnd, .int bas, .int lim, .ref bR, .ref bG, .ref bB, .ref bX])), (bH, .inl (cI, 34, .inl hM)), (bS, .inl (cI, 34, .inl sM))] H := hP
  have hD : va_D A [(y, .inr (2, [.int (0 : Int32), .ref bH, .ref bS, .ref bL, .int mel, .ref bO, .ref bK, .ref bZ, .int sea, .int rnd, .int bas, .int lim, .ref bR, .ref bG, .ref bB, .ref bX])), (bH, .inl (cI, 34, .inl hM)), (bS, .inl (cI, 34, .inl sM))] := hD
  refine lv_if_ne (tgt := 18) hx hb dX2_count_9 (by decide) (fun c2 => ?_) (fun c2 => ?_)
  · have hw := hw.2 c2
    refine lv_iload_n hx hb dX2_count_18 rfl (lv_at hl 2 rfl) ?_
    refine lv_if_eq (tgt := 31) hx hb dX2_count_19 (by decide) (fun c3 => ?_) (fun c3 => ?_)
    · have hw := hw.1 c3
      refine lv_aload_n hx hb dX2_count_31 rfl (lv_at hl 0 rfl) ?_
      refine va_get (D := (dC, dI)) (ci := 2) (v := .ref bH) (C := RX2) (T := TX2) (N := 16) hx hb hts hinX2 hown hK hP 0 rfl rfl 1 (by decide) (hts (.fieldLink RX2 9 "TileHandModel" "hand" "[I") (by decide +kernel)) (fun _ h9 => h9) rfl dX2_count_32 ?_
      refine lv_iload_n hx hb dX2_count_35 rfl (lv_at hl 1 rfl) ?_
      obtain ⟨h4, hw⟩ := hw
      refine va_iald hx hb hK hP 1 0 rfl rfl h4 dX2_count_36 ?_
      rw [← hQ9]
      exact W.iret (v := hM p0.toNatClampNeg) hx hb hr (fun t ht hW => ⟨⟨hM p0.toNatClampNeg, ((0 : Int32)), rfl, hw, by rw [ht]; exact hP, va_K.moved hW.alike hK, hD⟩, hS.F ht⟩) hS.2.2 dX2_count_37
    · have hw := hw.2 c3
      refine lv_aload_n hx hb dX2_count_22 rfl (lv_at hl 0 rfl) ?_
      refine va_get (D := (dC, dI)) (ci := 2) (v := .ref bS) (C := RX2) (T := TX2) (N := 16) hx hb hts hinX2 hown hK hP 0 rfl rfl 2 (by decide) (hts (.fieldLink RX2 13 "TileHandModel" "seen" "[I") (by decide +kernel)) (fun _ h9 => h9) rfl dX2_count_23 ?_
      refine lv_iload_n hx hb dX2_count_26 rfl (lv_at hl 1 rfl) ?_
      obtain ⟨h5, hw⟩ := hw
      refine va_iald hx hb hK hP 2 0 rfl rfl h5 dX2_count_27 ?_
      refine lv_goto (tgt := 37) hx hb dX2_count_28 (by decide) ?_
      rw [← hQ9]
      exact W.iret (v := sM p0.toNatClampNeg) hx hb hr (fun t ht hW => ⟨⟨sM p0.toNatClampNeg, ((0 : Int32)), rfl, hw, by rw [ht]; exact hP, va_K.moved hW.alike hK, hD⟩, hS.F ht⟩) hS.2.2 dX2_count_37
  · have hw := hw.1 c2
    refine lv_aload_n hx hb dX2_count_12 rfl (lv_at hl 0 rfl) ?_
    refine lv_iconst (v := 1) hx hb dX2_count_13 (by decide) ?_
    have hPc := hP.sub (ws' := [(y, .inr (2, [.int (0 : Int32), .ref bH, .ref bS, .ref bL, .int mel, .ref bO, .ref bK, .ref bZ, .int sea, .int rnd, .int bas, .int lim, .ref bR, .ref bG, .ref bB, .ref bX]))]) [0] rfl
    have hDc := hD.sub (ws' := [(y, .inr (2, [.int (0 : Int32), .ref bH, .ref bS, .ref bL, .int mel, .ref bO, .ref bK, .ref bZ, .int sea, .int rnd, .int bas, .int lim, .ref bR, .ref bG, .ref bB, .ref bX]))]) [0] (by decide) rfl
    have hFc := va_free (wc := [(y, .inr (2, [.int (0 : Int32), .ref bH, .ref bS, .ref bL, .int mel, .ref bO, .ref bK, .ref bZ, .int sea, .int rnd, .int bas, .int lim, .ref bR, .ref bG, .ref bB, .ref bX]))]) hD hS hA [0] rfl
    refine va_calli (va_runV (As := [.int (1 : Int32)]) (rest := []) ⟨hx, hb, hml, hown, hts⟩ (c_X2_fail l dC dI cI cZ y bH bS bL bO bK bZ bR bG bB bX H.size (0 : Int32) mel sea rnd bas lim (1 : Int32) _ hw) (cwV 1 hts gX2_count_X2_fail rfl rfl rfl (by decide +kernel) ⟨Nat.le_of_ble_eq_true rfl, Nat.le_of_ble_eq_true rfl⟩) ⟨fun a U g mk q => by obtain ⟨q0, q1, qP, qK, qD⟩ := q; exact ⟨q0, q1, qP, va_K.moved (u := U) (U := U.calling g mk a) (Vm.Alike.refl U.vm) qK, qD⟩, va_recv hK hPc (ci := 2) (q0 := 0) rfl rfl, fun U hU hW => ⟨rfl, by rw [hU], by rw [hU]; exact hPc, va_K.moved hW.alike hK, hDc.weaken (fun _ _ _ _ => trivial)⟩⟩ rfl rfl hl.1 rfl (lv_room (Nat.le_of_ble_eq_true rfl)) dX2_count_14 ⟨Nat.le_of_ble_eq_true rfl, Nat.le_of_ble_eq_true rfl⟩) hS (fun q _ h => hFc q h) hFc (fun r6 u t H1 locs ht hvm hw hB hz1 hk1 hS => ?_)
    obtain ⟨thr_7, rfl⟩ : ∃ z, z = u := ⟨_, rfl⟩
    obtain ⟨hP1, -, hD1⟩ := hB
    have hw := And.intro hw trivial
    try dsimp only at hw
    have hw := hw.1
    rw [ht] at hP1
    obtain ⟨hP, hD⟩ := va_join (wr := [(bH, .inl (cI, 34, .inl hM)), (bS, .inl (cI, 34, .inl sM))]) (w1 := [(y, .inr (2, [.int thr_7, .ref bH, .ref bS, .ref bL, .int mel, .ref bO, .ref bK, .ref bZ, .int sea, .int rnd, .int bas, .int lim, .ref bR, .ref bG, .ref bB, .ref bX]))]) hP hD [0] [1, 2] rfl rfl (by decide) (by decide) hk1 hFc hP1 hD1
    generalize H1 = H at hP hS ⊢
    have hP : va_P (dC, dI) vwCl [(bH, .inl (cI, 34, .inl hM)), (bS, .inl (cI, 34, .inl sM)), (y, .inr (2, [.int thr_7, .ref bH, .ref bS, .ref bL, .int mel, .ref bO, .ref bK, .ref bZ, .int sea, .int rnd, .int bas, .int lim, .ref bR, .ref bG, .ref bB, .ref bX]))] H := hP
    have hD : va_D A [(bH, .inl (cI, 34, .inl hM)), (bS, .inl (cI, 34, .inl sM)), (y, .inr (2, [.int thr_7, .ref bH, .ref bS, .ref bL, .int mel, .ref bO, .ref bK, .ref bZ, .int sea, .int rnd, .int bas, .int lim, .ref bR, .ref bG, .ref bB, .ref bX]))] := hD
    have hP9 := hP.sub (ws' := [(y, .inr (2, [.int thr_7, .ref bH, .ref bS, .ref bL, .int mel, .ref bO, .ref bK, .ref bZ, .int sea, .int rnd, .int bas, .int lim, .ref bR, .ref bG, .ref bB, .ref bX])), (bH, .inl (cI, 34, .inl hM)), (bS, .inl (cI, 34, .inl sM))]) [2, 0, 1] rfl
    have hD9 := hD.sub (ws' := [(y, .inr (2, [.int thr_7, .ref bH, .ref bS, .ref bL, .int mel, .ref bO, .ref bK, .ref bZ, .int sea, .int rnd, .int bas, .int lim, .ref bR, .ref bG, .ref bB, .ref bX])), (bH, .inl (cI, 34, .inl hM)), (bS, .inl (cI, 34, .inl sM))]) [2, 0, 1] (by decide) rfl
    rw [← hQ9]
    exact W.iret (v := r6) hx hb hr (fun t ht hW => ⟨⟨r6, (thr_7), rfl, hw, by rw [ht]; exact hP9, va_K.moved hW.alike hK, hD9⟩, hS.F ht⟩) hS.2.2 dX2_count_17

def w_X2_melds (thr : Int32) (mel : Int32) (post : Int32 → Int32 → Prop) : Prop := post mel (0 : Int32)

set_option maxHeartbeats 4000000 in
set_option maxRecDepth 100000 in
theorem c_X2_melds (l : Launch) (dC : Nat → ClassId) (dI : Nat → Nat → Nat) (cI cZ : ClassId) (y : Nat) (bH : Nat) (bS : Nat) (bL : Nat) (bO : Nat) (bK : Nat) (bZ : Nat) (bR : Nat) (bG : Nat) (bB : Nat) (bX : Nat) (sz : Nat) (thr : Int32) (mel : Int32) (sea : Int32) (rnd : Int32) (bas : Int32) (lim : Int32) (post : Int32 → Int32 → Prop) (hw : w_X2_melds thr mel post) : Met l yX2_melds wsX2_melds ({ frames := 0, cells := 0, slots := 0, locals := 0 } : Room) (va_Pc [.ref y] (fun U => U.heap.size = sz ∧ va_P (dC, dI) vwCl [(y, .inr (2, [.int thr, .ref bH, .ref bS, .ref bL, .int mel, .ref bO, .ref bK, .ref bZ, .int sea, .int rnd, .int bas, .int lim, .ref bR, .ref bG, .ref bB, .ref bX]))] U.heap ∧ va_K (dC, dI) vwCl [(cI, .int), (cZ, .boolean)] U ∧ va_D (fun _ => True) [(y, .inr (2, [.int thr, .ref bH, .ref bS, .ref bL, .int mel, .ref bO, .ref bK, .ref bZ, .int sea, .int rnd, .int bas, .int lim, .ref bR, .ref bG, .ref bB, .ref bX]))])) (va_Qi (fun (r9 : Int32) (u9 : Int32) => post r9 u9) (fun (u9 : Int32) (t9 : State) => va_P (dC, dI) vwCl [(y, .inr (2, [.int u9, .ref bH, .ref bS, .ref bL, .int mel, .ref bO, .ref bK, .ref bZ, .int sea, .int rnd, .int bas, .int lim, .ref bR, .ref bG, .ref bB, .ref bX]))] t9.heap ∧ va_K (dC, dI) vwCl [(cI, .int), (cZ, .boolean)] t9 ∧ va_D (va_A [(y, .inr (2, [.int thr, .ref bH, .ref bS, .ref bL, .int mel, .ref bO, .ref bK, .ref bZ, .int sea, .int rnd, .int bas, .int lim, .ref bR, .ref bG, .ref bB, .ref bX]))] sz) [(y, .inr (2, [.int u9, .ref bH, .ref bS, .ref bL, .int mel, .ref bO, .ref bK, .ref bZ, .int sea, .int rnd, .int bas, .int lim, .ref bR, .ref bG, .ref bB, .ref bX]))]) (va_A [(y, .inr (2, [.int thr, .ref bH, .ref bS, .ref bL, .int mel, .ref bO, .ref bK, .ref bZ, .int sea, .int rnd, .int bas, .int lim, .ref bR, .ref bG, .ref bB, .ref bX]))] sz)) 0 0 (va_A [(y, .inr (2, [.int thr, .ref bH, .ref bS, .ref bL, .int mel, .ref bO, .ref bK, .ref bZ, .int sea, .int rnd, .int bas, .int lim, .ref bR, .ref bG, .ref bB, .ref bX]))] sz) := by
  refine Met.ofW (cc := cX2_melds) (maxL := 1) (ret := (some .int)) (by decide) rfl ?_
  intro p e s m args below meth c s₁ B hml hv
  obtain ⟨rfl, hsz, hP, hK, hD0⟩ := hv
  have hx := B.exec
  have hb := B.bytes
  have hr := B.returns
  have hts := atoms_spec (ws := wsX2_melds) B.pre
  have hown : s.vm.findClass RX2 = some m.cls := findClass_of_methodNamed B.named
  have hlocks := B.notSynchronized
  have hinX2 : ∀ w ∈ u_ws RX2 TX2 16, w ∈ wsX2_melds := by decide +kernel
  subst hsz
  have hD := hD0.self (sz := s.heap.size)
  generalize hAe : va_A [(y, .inr (2, [.int thr, .ref bH, .ref bS, .ref bL, .int mel, .ref bO, .ref bK, .ref bZ, .int sea, .int rnd, .int bas, .int lim, .ref bR, .ref bG, .ref bB, .ref bX]))] s.heap.size = A at hD ⊢
  have hA : ∀ q : Nat, s.heap.size ≤ q → A q := fun q h => by rw [← hAe]; exact Or.inr h
  have hS : va_S A s.heap s.heap [] := va_S.rf
  have hl := lv_entry ([.ref y]) (n := 1) (Nat.le_of_ble_eq_true rfl)
  rw [lg_entry_eq]
  generalize (lg_sl ([.ref y]) ++ List.replicate (1 - (lg_sl ([.ref y])).length) Slot.unset).toArray = ls at hl ⊢
  have hl : lv_has ls 1 [(0, .ref y)] := hl
  refine (?_ : ∀ Q9 : State → Prop, MQ below _ _ s _ _ _ = Q9 → W p l e ({ frames := 0, cells := 0, slots := 0, locals := 0 } : Room) s m _ below meth c s.heap [] 0 0 Q9 (F0 m 0 ls [])) _ rfl
  intro Q9 hQ9
  have hw : post mel (0 : Int32) := hw
  refine lv_aload_n hx hb dX2_melds_0 rfl (lv_at hl 0 rfl) ?_
  refine lv_iconst (v := 0) hx hb dX2_melds_1 (by decide) ?_
  refine va_put (D := (dC, dI)) (ci := 2) (v := .int (0 : Int32)) (ty := .int) (C := RX2) (T := TX2) (N := 16) hx hb hts hinX2 tyX2 tyX2_ok nmX2 hown hK hP hD hS 0 rfl rfl 0 (by decide) (hts (.fieldLink RX2 54 "TileHandModel" "thrown" "I") (by decide +kernel)) (fun _ h9 => h9) rfl (by decide +kernel) rfl rfl (Nat.le_of_ble_eq_true rfl) dX2_melds_2 (fun H locs hP hD hS => ?_)
  have hP : va_P (dC, dI) vwCl [(y, .inr (2, [.int (0 : Int32), .ref bH, .ref bS, .ref bL, .int mel, .ref bO, .ref bK, .ref bZ, .int sea, .int rnd, .int bas, .int lim, .ref bR, .ref bG, .ref bB, .ref bX]))] H := hP
  have hD : va_D A [(y, .inr (2, [.int (0 : Int32), .ref bH, .ref bS, .ref bL, .int mel, .ref bO, .ref bK, .ref bZ, .int sea, .int rnd, .int bas, .int lim, .ref bR, .ref bG, .ref bB, .ref bX]))] := hD
  refine lv_aload_n hx hb dX2_melds_5 rfl (lv_at hl 0 rfl) ?_
  refine va_get (D := (dC, dI)) (ci := 2) (v := .int mel) (C := RX2) (T := TX2) (N := 16) hx hb hts hinX2 hown hK hP 0 rfl rfl 4 (by decide) (hts (.fieldLink RX2 69 "TileHandModel" "melds" "I") (by decide +kernel)) (fun _ h9 => h9) rfl dX2_melds_6 ?_
  rw [← hQ9]
  exact W.iret (v := mel) hx hb hr (fun t ht hW => ⟨⟨mel, ((0 : Int32)), rfl, hw, by rw [ht]; exact hP, va_K.moved hW.alike hK, hD⟩, hS.F ht⟩) hS.2.2 dX2_melds_9

def w_X2_told (oM : (Nat → Int32)) (kM : (Nat → Int32)) (zM : (Nat → Int32)) (p0 : Int32) (p1 : Int32) (post : Int32 → Prop) : Prop := ((p1 = 0 → (vp_in p0 4 ∧ (post (oM p0.toNatClampNeg)))) ∧ (¬ p1 = 0 → (((p1 = (1 : Int32) → (vp_in p0 4 ∧ (post (kM p0.toNatClampNeg)))) ∧ (¬ p1 = (1 : Int32) → (vp_in p0 4 ∧ ((((zM p0.toNatClampNeg) = 0 → (post (0 : Int32))) ∧ (¬ (zM p0.toNatClampNeg) = 0 → (post (1 : Int32)))))))))))

set_option maxHeartbeats 4000000 in
set_option maxRecDepth 100000 in
theorem c_X2_told (l : Launch) (dC : Nat → ClassId) (dI : Nat → Nat → Nat) (cI cZ : ClassId) (y : Nat) (bH : Nat) (bS : Nat) (bL : Nat) (bO : Nat) (bK : Nat) (bZ : Nat) (bR : Nat) (bG : Nat) (bB : Nat) (bX : Nat) (sz : Nat) (thr : Int32) (mel : Int32) (sea : Int32) (rnd : Int32) (bas : Int32) (lim : Int32) (oM : (Nat → Int32)) (kM : (Nat → Int32)) (zM : (Nat → Int32)) (p0 : Int32) (p1 : Int32) (post : Int32 → Prop) (hw : w_X2_told oM kM zM p0 p1 post) : Met l yX2_told wsX2_told ({ frames := 0, cells := 0, slots := 0, locals := 0 } : Room) (va_Pc [.ref y, .int p0, .int p1] (fun U => U.heap.size = sz ∧ va_P (dC, dI) vwCl [(y, .inr (2, [.int thr, .ref bH, .ref bS, .ref bL, .int mel, .ref bO, .ref bK, .ref bZ, .int sea, .int rnd, .int bas, .int lim, .ref bR, .ref bG, .ref bB, .ref bX])), (bO, .inl (cI, 4, .inl oM)), (bK, .inl (cI, 4, .inl kM)), (bZ, .inl (cZ, 4, .inl zM))] U.heap ∧ va_K (dC, dI) vwCl [(cI, .int), (cZ, .boolean)] U ∧ va_D (fun _ => True) [(y, .inr (2, [.int thr, .ref bH, .ref bS, .ref bL, .int mel, .ref bO, .ref bK, .ref bZ, .int sea, .int rnd, .int bas, .int lim, .ref bR, .ref bG, .ref bB, .ref bX])), (bO, .inl (cI, 4, .inl oM)), (bK, .inl (cI, 4, .inl kM)), (bZ, .inl (cZ, 4, .inl zM))])) (va_Qi (fun (r9 : Int32) (u9 : Unit) => post r9) (fun (u9 : Unit) (t9 : State) => va_P (dC, dI) vwCl [(y, .inr (2, [.int thr, .ref bH, .ref bS, .ref bL, .int mel, .ref bO, .ref bK, .ref bZ, .int sea, .int rnd, .int bas, .int lim, .ref bR, .ref bG, .ref bB, .ref bX])), (bO, .inl (cI, 4, .inl oM)), (bK, .inl (cI, 4, .inl kM)), (bZ, .inl (cZ, 4, .inl zM))] t9.heap ∧ va_K (dC, dI) vwCl [(cI, .int), (cZ, .boolean)] t9 ∧ va_D (va_A [(y, .inr (2, [.int thr, .ref bH, .ref bS, .ref bL, .int mel, .ref bO, .ref bK, .ref bZ, .int sea, .int rnd, .int bas, .int lim, .ref bR, .ref bG, .ref bB, .ref bX])), (bO, .inl (cI, 4, .inl oM)), (bK, .inl (cI, 4, .inl kM)), (bZ, .inl (cZ, 4, .inl zM))] sz) [(y, .inr (2, [.int thr, .ref bH, .ref bS, .ref bL, .int mel, .ref bO, .ref bK, .ref bZ, .int sea, .int rnd, .int bas, .int lim, .ref bR, .ref bG, .ref bB, .ref bX])), (bO, .inl (cI, 4, .inl oM)), (bK, .inl (cI, 4, .inl kM)), (bZ, .inl (cZ, 4, .inl zM))]) (va_A [(y, .inr (2, [.int thr, .ref bH, .ref bS, .ref bL, .int mel, .ref bO, .ref bK, .ref bZ, .int sea, .int rnd, .int bas, .int lim, .ref bR, .ref bG, .ref bB, .ref bX])), (bO, .inl (cI, 4, .inl oM)), (bK, .inl (cI, 4, .inl kM)), (bZ, .inl (cZ, 4, .inl zM))] sz)) 0 0 (va_A [(y, .inr (2, [.int thr, .ref bH, .ref bS, .ref bL, .int mel, .ref bO, .ref bK, .ref bZ, .int sea, .int rnd, .int bas, .int lim, .ref bR, .ref bG, .ref bB, .ref bX])), (bO, .inl (cI, 4, .inl oM)), (bK, .inl (cI, 4, .inl kM)), (bZ, .inl (cZ, 4, .inl zM))] sz) := by
  refine Met.ofW (cc := cX2_told) (maxL := 3) (ret := (some .int)) (by decide) rfl ?_
  intro p e s m args below meth c s₁ B hml hv
  obtain ⟨rfl, hsz, hP, hK, hD0⟩ := hv
  have hx := B.exec
  have hb := B.bytes
  have hr := B.returns
  have hts := atoms_spec (ws := wsX2_told) B.pre
  have hown : s.vm.findClass RX2 = some m.cls := findClass_of_methodNamed B.named
  have hlocks := B.notSynchronized
  have hinX2 : ∀ w ∈ u_ws RX2 TX2 16, w ∈ wsX2_told := by decide +kernel
  subst hsz
  have hD := hD0.self (sz := s.heap.size)
  generalize hAe : va_A [(y, .inr (2, [.int thr, .ref bH, .ref bS, .ref bL, .int mel, .ref bO, .ref bK, .ref bZ, .int sea, .int rnd, .int bas, .int lim, .ref bR, .ref bG, .ref bB, .ref bX])), (bO, .inl (cI, 4, .inl oM)), (bK, .inl (cI, 4, .inl kM)), (bZ, .inl (cZ, 4, .inl zM))] s.heap.size = A at hD ⊢
  have hA : ∀ q : Nat, s.heap.size ≤ q → A q := fun q h => by rw [← hAe]; exact Or.inr h
  have hS : va_S A s.heap s.heap [] := va_S.rf
  have hl := lv_entry ([.ref y, .int p0, .int p1]) (n := 3) (Nat.le_of_ble_eq_true rfl)
  rw [lg_entry_eq]
  generalize (lg_sl ([.ref y, .int p0, .int p1]) ++ List.replicate (3 - (lg_sl ([.ref y, .int p0, .int p1])).length) Slot.unset).toArray = ls at hl ⊢
  have hl : lv_has ls 3 [(0, .ref y), (1, .int p0), (2, .int p1)] := hl
  refine (?_ : ∀ Q9 : State → Prop, MQ below _ _ s _ _ _ = Q9 → W p l e ({ frames := 0, cells := 0, slots := 0, locals := 0 } : Room) s m _ below meth c s.heap [] 0 0 Q9 (F0 m 0 ls [])) _ rfl
  intro Q9 hQ9
  have hw : ((p1 = 0 → (vp_in p0 4 ∧ (post (oM p0.toNatClampNeg)))) ∧ (¬ p1 = 0 → (((p1 = (1 : Int32) → (vp_in p0 4 ∧ (post (kM p0.toNatClampNeg)))) ∧ (¬ p1 = (1 : Int32) → (vp_in p0 4 ∧ ((((zM p0.toNatClampNeg) = 0 → (post (0 : Int32))) ∧ (¬ (zM p0.toNatClampNeg) = 0 → (post (1 : Int32))))))))))) := hw
  refine lv_iload_n hx hb dX2_told_0 rfl (lv_at hl 2 rfl) ?_
  refine lv_if_ne (tgt := 13) hx hb dX2_told_1 (by decide) (fun c1 => ?_) (fun c1 => ?_)
  · have hw := hw.2 c1
    refine lv_iload_n hx hb dX2_told_13 rfl (lv_at hl 2 rfl) ?_
    refine lv_iconst (v := 1) hx hb dX2_told_14 (by decide) ?_
    refine lv_icmp_ne (tgt := 27) hx hb dX2_told_15 (by decide) (fun c2 => ?_) (fun c2 => ?_)
    · have hw := hw.2 c2
      refine lv_aload_n hx hb dX2_told_27 rfl (lv_at hl 0 rfl) ?_
      refine va_get (D := (dC, dI)) (ci := 2) (v := .ref bZ) (C := RX2) (T := TX2) (N := 16) hx hb hts hinX2 hown hK hP 0 rfl rfl 7 (by decide) (hts (.fieldLink RX2 25 "TileHandModel" "areOpen" "[Z") (by decide +kernel)) (fun _ h9 => h9) rfl dX2_told_28 ?_
      refine lv_iload_n hx hb dX2_told_31 rfl (lv_at hl 1 rfl) ?_
      obtain ⟨h3, hw⟩ := hw
      refine va_zald hx hb hK hP 3 1 rfl rfl h3 dX2_told_32 ?_
      refine lv_if_eq (tgt := 40) hx hb dX2_told_33 (by decide) (fun c4 => ?_) (fun c4 => ?_)
      · have hw := hw.1 c4
        refine lv_iconst (v := 0) hx hb dX2_told_40 (by decide) ?_
        rw [← hQ9]
        exact W.iret (v := (0 : Int32)) hx hb hr (fun t ht hW => ⟨⟨(0 : Int32), (), rfl, hw, by rw [ht]; exact hP, va_K.moved hW.alike hK, hD⟩, hS.F ht⟩) hS.2.2 dX2_told_41
      · have hw := hw.2 c4
        refine lv_iconst (v := 1) hx hb dX2_told_36 (by decide) ?_
        refine lv_goto (tgt := 41) hx hb dX2_told_37 (by decide) ?_
        rw [← hQ9]
        exact W.iret (v := (1 : Int32)) hx hb hr (fun t ht hW => ⟨⟨(1 : Int32), (), rfl, hw, by rw [ht]; exact hP, va_K.moved hW.alike hK, hD⟩, hS.F ht⟩) hS.2.2 dX2_told_41
    · have hw := hw.1 c2
      refine lv_aload_n hx hb dX2_told_18 rfl (lv_at hl 0 rfl) ?_
      refine va_get (D := (dC, dI)) (ci := 2) (v := .ref bK) (C := RX2) (T := TX2) (N := 16) hx hb hts hinX2 hown hK hP 0 rfl rfl 6 (by decide) (hts (.fieldLink RX2 22 "TileHandModel" "kinds" "[I") (by decide +kernel)) (fun _ h9 => h9) rfl dX2_told_19 ?_
      refine lv_iload_n hx hb dX2_told_22 rfl (lv_at hl 1 rfl) ?_
      obtain ⟨h5, hw⟩ := hw
      refine va_iald hx hb hK hP 2 0 rfl rfl h5 dX2_told_23 ?_
      refine lv_goto (tgt := 41) hx hb dX2_told_24 (by decide) ?_
      rw [← hQ9]
      exact W.iret (v := kM p0.toNatClampNeg) hx hb hr (fun t ht hW => ⟨⟨kM p0.toNatClampNeg, (), rfl, hw, by rw [ht]; exact hP, va_K.moved hW.alike hK, hD⟩, hS.F ht⟩) hS.2.2 dX2_told_41
  · have hw := hw.1 c1
    refine lv_aload_n hx hb dX2_told_4 rfl (lv_at hl 0 rfl) ?_
    refine va_get (D := (dC, dI)) (ci := 2) (v := .ref bO) (C := RX2) (T := TX2) (N := 16) hx hb hts hinX2 hown hK hP 0 rfl rfl 5 (by decide) (hts (.fieldLink RX2 19 "TileHandModel" "sorts" "[I") (by decide +kernel)) (fun _ h9 => h9) rfl dX2_told_5 ?_
    refine lv_iload_n hx hb dX2_told_8 rfl (lv_at hl 1 rfl) ?_
    obtain ⟨h6, hw⟩ := hw
    refine va_iald hx hb hK hP 1 0 rfl rfl h6 dX2_told_9 ?_
    refine lv_goto (tgt := 41) hx hb dX2_told_10 (by decide) ?_
    rw [← hQ9]
    exact W.iret (v := oM p0.toNatClampNeg) hx hb hr (fun t ht hW => ⟨⟨oM p0.toNatClampNeg, (), rfl, hw, by rw [ht]; exact hP, va_K.moved hW.alike hK, hD⟩, hS.F ht⟩) hS.2.2 dX2_told_41

def w_X2_meldAt_b37 (post : Int32 → Int32 → Prop) (mel : Int32) (oM : (Nat → Int32)) (kM : (Nat → Int32)) (zM : (Nat → Int32)) (p0 : Int32) (p1 : Int32) (thr : Int32) : Prop := w_X2_fail thr (1 : Int32) (fun r3 thr_4 => (post r3 thr_4))

def w_X2_meldAt (thr : Int32) (mel : Int32) (oM : (Nat → Int32)) (kM : (Nat → Int32)) (zM : (Nat → Int32)) (p0 : Int32) (p1 : Int32) (post : Int32 → Int32 → Prop) : Prop := w_X2_isIn p0 (0 : Int32) (mel - (1 : Int32)) (fun r1 => (((r1 = 0 → (w_X2_meldAt_b37 post mel oM kM zM p0 p1 (0 : Int32))) ∧ (¬ r1 = 0 → (w_X2_isIn p1 (0 : Int32) (2 : Int32) (fun r5 => (((r5 = 0 → (w_X2_meldAt_b37 post mel oM kM zM p0 p1 (0 : Int32))) ∧ (¬ r5 = 0 → (w_X2_told oM kM zM p0 p1 (fun r7 => (post r7 (0 : Int32)))))))))))))

set_option maxHeartbeats 4000000 in
set_option maxRecDepth 100000 in
theorem c_X2_meldAt (l : Launch) (dC : Nat → ClassId) (dI : Nat → Nat → Nat) (cI cZ : ClassId) (y : Nat) (bH : Nat) (bS : Nat) (bL : Nat) (bO : Nat) (bK : Nat) (bZ : Nat) (bR : Nat) (bG : Nat) (bB : Nat) (bX : Nat) (sz : Nat) (thr : Int32) (mel : Int32) (sea : Int32) (rnd : Int32) (bas : Int32) (lim : Int32) (oM : (Nat → Int32)) (kM : (Nat → Int32)) (zM : (Nat → Int32)) (p0 : Int32) (p1 : Int32) (post : Int32 → Int32 → Prop) (hw : w_X2_meldAt thr mel oM kM zM p0 p1 post) : Met l yX2_meldAt wsX2_meldAt ({ frames := 2, cells := 0, slots := 0, locals := 40 } : Room) (va_Pc [.ref y, .int p0, .int p1] (fun U => U.heap.size = sz ∧ va_P (dC, dI) vwCl [(y, .inr (2, [.int thr, .ref bH, .ref bS, .ref bL, .int mel, .ref bO, .ref bK, .ref bZ, .int sea, .int rnd, .int bas, .int lim, .ref bR, .ref bG, .ref bB, .ref bX])), (bO, .inl (cI, 4, .inl oM)), (bK, .inl (cI, 4, .inl kM)), (bZ, .inl (cZ, 4, .inl zM))] U.heap ∧ va_K (dC, dI) vwCl [(cI, .int), (cZ, .boolean)] U ∧ va_D (fun _ => True) [(y, .inr (2, [.int thr, .ref bH, .ref bS, .ref bL, .int mel, .ref bO, .ref bK, .ref bZ, .int sea, .int rnd, .int bas, .int lim, .ref bR, .ref bG, .ref bB, .ref bX])), (bO, .inl (cI, 4, .inl oM)), (bK, .inl (cI, 4, .inl kM)), (bZ, .inl (cZ, 4, .inl zM))])) (va_Qi (fun (r9 : Int32) (u9 : Int32) => post r9 u9) (fun (u9 : Int32) (t9 : State) => va_P (dC, dI) vwCl [(y, .inr (2, [.int u9, .ref bH, .ref bS, .ref bL, .int mel, .ref bO, .ref bK, .ref bZ, .int sea, .int rnd, .int bas, .int lim, .ref bR, .ref bG, .ref bB, .ref bX])), (bO, .inl (cI, 4, .inl oM)), (bK, .inl (cI, 4, .inl kM)), (bZ, .inl (cZ, 4, .inl zM))] t9.heap ∧ va_K (dC, dI) vwCl [(cI, .int), (cZ, .boolean)] t9 ∧ va_D (va_A [(y, .inr (2, [.int thr, .ref bH, .ref bS, .ref bL, .int mel, .ref bO, .ref bK, .ref bZ, .int sea, .int rnd, .int bas, .int lim, .ref bR, .ref bG, .ref bB, .ref bX])), (bO, .inl (cI, 4, .inl oM)), (bK, .inl (cI, 4, .inl kM)), (bZ, .inl (cZ, 4, .inl zM))] sz) [(y, .inr (2, [.int u9, .ref bH, .ref bS, .ref bL, .int mel, .ref bO, .ref bK, .ref bZ, .int sea, .int rnd, .int bas, .int lim, .ref bR, .ref bG, .ref bB, .ref bX])), (bO, .inl (cI, 4, .inl oM)), (bK, .inl (cI, 4, .inl kM)), (bZ, .inl (cZ, 4, .inl zM))]) (va_A [(y, .inr (2, [.int thr, .ref bH, .ref bS, .ref bL, .int mel, .ref bO, .ref bK, .ref bZ, .int sea, .int rnd, .int bas, .int lim, .ref bR, .ref bG, .ref bB, .ref bX])), (bO, .inl (cI, 4, .inl oM)), (bK, .inl (cI, 4, .inl kM)), (bZ, .inl (cZ, 4, .inl zM))] sz)) 0 0 (va_A [(y, .inr (2, [.int thr, .ref bH, .ref bS, .ref bL, .int mel, .ref bO, .ref bK, .ref bZ, .int sea, .int rnd, .int bas, .int lim, .ref bR, .ref bG, .ref bB, .ref bX])), (bO, .inl (cI, 4, .inl oM)), (bK, .inl (cI, 4, .inl kM)), (bZ, .inl (cZ, 4, .inl zM))] sz) := by
  refine Met.ofW (cc := cX2_meldAt) (maxL := 3) (ret := (some .int)) (by decide) rfl ?_
  intro p e s m args below meth c s₁ B hml hv
  obtain ⟨rfl, hsz, hP, hK, hD0⟩ := hv
  have hx := B.exec
  have hb := B.bytes
  have hr := B.returns
  have hts := atoms_spec (ws := wsX2_meldAt) B.pre
  have hown : s.vm.findClass RX2 = some m.cls := findClass_of_methodNamed B.named
  have hlocks := B.notSynchronized
  have hinX2 : ∀ w ∈ u_ws RX2 TX2 16, w ∈ wsX2_meldAt := by decide +kernel
  subst hsz
  have hD := hD0.self (sz := s.heap.size)
  generalize hAe : va_A [(y, .inr (2, [.int thr, .ref bH, .ref bS, .ref bL, .int mel, .ref bO, .ref bK, .ref bZ, .int sea, .int rnd, .int bas, .int lim, .ref bR, .ref bG, .ref bB, .ref bX])), (bO, .inl (cI, 4, .inl oM)), (bK, .inl (cI, 4, .inl kM)), (bZ, .inl (cZ, 4, .inl zM))] s.heap.size = A at hD ⊢
  have hA : ∀ q : Nat, s.heap.size ≤ q → A q := fun q h => by rw [← hAe]; exact Or.inr h
  have hS : va_S A s.heap s.heap [] := va_S.rf
  have hl := lv_entry ([.ref y, .int p0, .int p1]) (n := 3) (Nat.le_of_ble_eq_true rfl)
  rw [lg_entry_eq]
  generalize (lg_sl ([.ref y, .int p0, .int p1]) ++ List.replicate (3 - (lg_sl ([.ref y, .int p0, .int p1])).length) Slot.unset).toArray = ls at hl ⊢
  have hl : lv_has ls 3 [(0, .ref y), (1, .int p0), (2, .int p1)] := hl
  refine (?_ : ∀ Q9 : State → Prop, MQ below _ _ s _ _ _ = Q9 → W p l e ({ frames := 2, cells := 0, slots := 0, locals := 40 } : Room) s m _ below meth c s.heap [] 0 0 Q9 (F0 m 0 ls [])) _ rfl
  intro Q9 hQ9
  have hw : w_X2_isIn p0 (0 : Int32) (mel - (1 : Int32)) (fun r1 => (((r1 = 0 → (w_X2_meldAt_b37 post mel oM kM zM p0 p1 (0 : Int32))) ∧ (¬ r1 = 0 → (w_X2_isIn p1 (0 : Int32) (2 : Int32) (fun r5 => (((r5 = 0 → (w_X2_meldAt_b37 post mel oM kM zM p0 p1 (0 : Int32))) ∧ (¬ r5 = 0 → (w_X2_told oM kM zM p0 p1 (fun r7 => (post r7 (0 : Int32))))))))))))) := hw
  have L37 : ∀ (thr : Int32) (H : Heap) (locs : List Loc) (ls : Array Slot), w_X2_meldAt_b37 post mel oM kM zM p0 p1 thr → va_P (dC, dI) vwCl [(y, .inr (2, [.int thr, .ref bH, .ref bS, .ref bL, .int mel, .ref bO, .ref bK, .ref bZ, .int sea, .int rnd, .int bas, .int lim, .ref bR, .ref bG, .ref bB, .ref bX])), (bO, .inl (cI, 4, .inl oM)), (bK, .inl (cI, 4, .inl kM)), (bZ, .inl (cZ, 4, .inl zM))] H → va_D A [(y, .inr (2, [.int thr, .ref bH, .ref bS, .ref bL, .int mel, .ref bO, .ref bK, .ref bZ, .int sea, .int rnd, .int bas, .int lim, .ref bR, .ref bG, .ref bB, .ref bX])), (bO, .inl (cI, 4, .inl oM)), (bK, .inl (cI, 4, .inl kM)), (bZ, .inl (cZ, 4, .inl zM))] → va_S A s.heap H locs → lv_has ls 3 [(0, .ref y)] → W p l e ({ frames := 2, cells := 0, slots := 0, locals := 40 } : Room) s m ([.ref y, .int p0, .int p1] : List Value).toArray below meth c H locs 0 0 Q9 (F0 m 37 ls []) := by
    intro thr H locs ls hw hP hD hS hl
    refine lv_aload_n hx hb dX2_meldAt_37 rfl (lv_at hl 0 rfl) ?_
    refine lv_iconst (v := 1) hx hb dX2_meldAt_38 (by decide) ?_
    have hPc := hP.sub (ws' := [(y, .inr (2, [.int thr, .ref bH, .ref bS, .ref bL, .int mel, .ref bO, .ref bK, .ref bZ, .int sea, .int rnd, .int bas, .int lim, .ref bR, .ref bG, .ref bB, .ref bX]))]) [0] rfl
    have hDc := hD.sub (ws' := [(y, .inr (2, [.int thr, .ref bH, .ref bS, .ref bL, .int mel, .ref bO, .ref bK, .ref bZ, .int sea, .int rnd, .int bas, .int lim, .ref bR, .ref bG, .ref bB, .ref bX]))]) [0] (by decide) rfl
    have hFc := va_free (wc := [(y, .inr (2, [.int thr, .ref bH, .ref bS, .ref bL, .int mel, .ref bO, .ref bK, .ref bZ, .int sea, .int rnd, .int bas, .int lim, .ref bR, .ref bG, .ref bB, .ref bX]))]) hD hS hA [0] rfl
    refine va_calli (va_runV (As := [.int (1 : Int32)]) (rest := []) ⟨hx, hb, hml, hown, hts⟩ (c_X2_fail l dC dI cI cZ y bH bS bL bO bK bZ bR bG bB bX H.size thr mel sea rnd bas lim (1 : Int32) _ hw) (cwV 1 hts gX2_meldAt_X2_fail rfl rfl rfl (by decide +kernel) ⟨Nat.le_of_ble_eq_true rfl, Nat.le_of_ble_eq_true rfl⟩) ⟨fun a U g mk q => by obtain ⟨q0, q1, qP, qK, qD⟩ := q; exact ⟨q0, q1, qP, va_K.moved (u := U) (U := U.calling g mk a) (Vm.Alike.refl U.vm) qK, qD⟩, va_recv hK hPc (ci := 2) (q0 := 0) rfl rfl, fun U hU hW => ⟨rfl, by rw [hU], by rw [hU]; exact hPc, va_K.moved hW.alike hK, hDc.weaken (fun _ _ _ _ => trivial)⟩⟩ rfl rfl hl.1 rfl (lv_room (Nat.le_of_ble_eq_true rfl)) dX2_meldAt_39 ⟨Nat.le_of_ble_eq_true rfl, Nat.le_of_ble_eq_true rfl⟩) hS (fun q _ h => hFc q h) hFc (fun r3 u t H1 locs ht hvm hw hB hz1 hk1 hS => ?_)
    obtain ⟨thr_4, rfl⟩ : ∃ z, z = u := ⟨_, rfl⟩
    obtain ⟨hP1, -, hD1⟩ := hB
    have hw := And.intro hw trivial
    try dsimp only at hw
    have hw := hw.1
    rw [ht] at hP1
    obtain ⟨hP, hD⟩ := va_join (wr := [(bO, .inl (cI, 4, .inl oM)), (bK, .inl (cI, 4, .inl kM)), (bZ, .inl (cZ, 4, .inl zM))]) (w1 := [(y, .inr (2, [.int thr_4, .ref bH, .ref bS, .ref bL, .int mel, .ref bO, .ref bK, .ref bZ, .int sea, .int rnd, .int bas, .int lim, .ref bR, .ref bG, .ref bB, .ref bX]))]) hP hD [0] [1, 2, 3] rfl rfl (by decide) (by decide) hk1 hFc hP1 hD1
    generalize H1 = H at hP hS ⊢
    have hP : va_P (dC, dI) vwCl [(bO, .inl (cI, 4, .inl oM)), (bK, .inl (cI, 4, .inl kM)), (bZ, .inl (cZ, 4, .inl zM)), (y, .inr (2, [.int thr_4, .ref bH, .ref bS, .ref bL, .int mel, .ref bO, .ref bK, .ref bZ, .int sea, .int rnd, .int bas, .int lim, .ref bR, .ref bG, .ref bB, .ref bX]))] H := hP
    have hD : va_D A [(bO, .inl (cI, 4, .inl oM)), (bK, .inl (cI, 4, .inl kM)), (bZ, .inl (cZ, 4, .inl zM)), (y, .inr (2, [.int thr_4, .ref bH, .ref bS, .ref bL, .int mel, .ref bO, .ref bK, .ref bZ, .int sea, .int rnd, .int bas, .int lim, .ref bR, .ref bG, .ref bB, .ref bX]))] := hD
    have hP9 := hP.sub (ws' := [(y, .inr (2, [.int thr_4, .ref bH, .ref bS, .ref bL, .int mel, .ref bO, .ref bK, .ref bZ, .int sea, .int rnd, .int bas, .int lim, .ref bR, .ref bG, .ref bB, .ref bX])), (bO, .inl (cI, 4, .inl oM)), (bK, .inl (cI, 4, .inl kM)), (bZ, .inl (cZ, 4, .inl zM))]) [3, 0, 1, 2] rfl
    have hD9 := hD.sub (ws' := [(y, .inr (2, [.int thr_4, .ref bH, .ref bS, .ref bL, .int mel, .ref bO, .ref bK, .ref bZ, .int sea, .int rnd, .int bas, .int lim, .ref bR, .ref bG, .ref bB, .ref bX])), (bO, .inl (cI, 4, .inl oM)), (bK, .inl (cI, 4, .inl kM)), (bZ, .inl (cZ, 4, .inl zM))]) [3, 0, 1, 2] (by decide) rfl
    rw [← hQ9]
    exact W.iret (v := r3) hx hb hr (fun t ht hW => ⟨⟨r3, (thr_4), rfl, hw, by rw [ht]; exact hP9, va_K.moved hW.alike hK, hD9⟩, hS.F ht⟩) hS.2.2 dX2_meldAt_42
  refine lv_aload_n hx hb dX2_meldAt_0 rfl (lv_at hl 0 rfl) ?_
  refine lv_iconst (v := 0) hx hb dX2_meldAt_1 (by decide) ?_
  refine va_put (D := (dC, dI)) (ci := 2) (v := .int (0 : Int32)) (ty := .int) (C := RX2) (T := TX2) (N := 16) hx hb hts hinX2 tyX2 tyX2_ok nmX2 hown hK hP hD hS 0 rfl rfl 0 (by decide) (hts (.fieldLink RX2 54 "TileHandModel" "thrown" "I") (by decide +kernel)) (fun _ h9 => h9) rfl (by decide +kernel) rfl rfl (Nat.le_of_ble_eq_true rfl) dX2_meldAt_2 (fun H locs hP hD hS => ?_)
  have hP : va_P (dC, dI) vwCl [(y, .inr (2, [.int (0 : Int32), .ref bH, .ref bS, .ref bL, .int mel, .ref bO, .ref bK, .ref bZ, .int sea, .int rnd, .int bas, .int lim, .ref bR, .ref bG, .ref bB, .ref bX])), (bO, .inl (cI, 4, .inl oM)), (bK, .inl (cI, 4, .inl kM)), (bZ, .inl (cZ, 4, .inl zM))] H := hP
  have hD : va_D A [(y, .inr (2, [.int (0 : Int32), .ref bH, .ref bS, .ref bL, .int mel, .ref bO, .ref bK, .ref bZ, .int sea, .int rnd, .int bas, .int lim, .ref bR, .ref bG, .ref bB, .ref bX])), (bO, .inl (cI, 4, .inl oM)), (bK, .inl (cI, 4, .inl kM)), (bZ, .inl (cZ, 4, .inl zM))] := hD
  refine lv_iload_n hx hb dX2_meldAt_5 rfl (lv_at hl 1 rfl) ?_
  refine lv_iconst (v := 0) hx hb dX2_meldAt_6 (by decide) ?_
  refine lv_aload_n hx hb dX2_meldAt_7 rfl (lv_at hl 0 rfl) ?_
  refine va_get (D := (dC, dI)) (ci := 2) (v := .int mel) (C := RX2) (T := TX2) (N := 16) hx hb hts hinX2 hown hK hP 0 rfl rfl 4 (by decide) (hts (.fieldLink RX2 69 "TileHandModel" "melds" "I") (by decide +kernel)) (fun _ h9 => h9) rfl dX2_meldAt_8 ?_
  refine lv_iconst (v := 1) hx hb dX2_meldAt_11 (by decide) ?_
  refine lv_isub hx hb dX2_meldAt_12 ?_
  have hPc := hP.sub (ws' := []) [] rfl
  have hDc := hD.sub (ws' := []) [] (by decide) rfl
  have hFc := va_free (wc := []) hD hS hA [] rfl
  refine va_calli (va_runS (As := [.int p0, .int (0 : Int32), .int (mel - (1 : Int32))]) (rest := []) ⟨hx, hb, hml, hown, hts⟩ (c_X2_isIn l dC dI cI cZ H.size p0 (0 : Int32) (mel - (1 : Int32)) _ hw) (va_cwS 3 hts gX2_meldAt_X2_isIn rfl rfl rfl (by decide +kernel) ⟨Nat.le_of_ble_eq_true rfl, Nat.le_of_ble_eq_true rfl⟩) ⟨fun a U g mk q => by obtain ⟨q0, q1, qP, qK, qD⟩ := q; exact ⟨q0, q1, qP, va_K.moved (u := U) (U := U.calling g mk a) (Vm.Alike.refl U.vm) qK, qD⟩, fun U hU hW => ⟨rfl, by rw [hU], by rw [hU]; exact hPc, va_K.moved hW.alike hK, hDc.weaken (fun _ _ _ _ => trivial)⟩⟩ rfl rfl hl.1 rfl (lv_room (Nat.le_of_ble_eq_true rfl)) dX2_meldAt_13 ⟨Nat.le_of_ble_eq_true rfl, Nat.le_of_ble_eq_true rfl⟩) hS (fun q _ h => hFc q h) hFc (fun r1 u t H1 locs ht hvm hw hB hz1 hk1 hS => ?_)
  obtain ⟨hP1, -, hD1⟩ := hB
  have hw := And.intro hw trivial
  try dsimp only at hw
  have hw := hw.1
  rw [ht] at hP1
  obtain ⟨hP, hD⟩ := va_join (wr := [(y, .inr (2, [.int (0 : Int32), .ref bH, .ref bS, .ref bL, .int mel, .ref bO, .ref bK, .ref bZ, .int sea, .int rnd, .int bas, .int lim, .ref bR, .ref bG, .ref bB, .ref bX])), (bO, .inl (cI, 4, .inl oM)), (bK, .inl (cI, 4, .inl kM)), (bZ, .inl (cZ, 4, .inl zM))]) (w1 := []) hP hD [] [0, 1, 2, 3] rfl rfl (by decide) (by decide) hk1 hFc hP1 hD1
  generalize H1 = H at hP hS ⊢
  have hP : va_P (dC, dI) vwCl [(y, .inr (2, [.int (0 : Int32), .ref bH, .ref bS, .ref bL, .int mel, .ref bO, .ref bK, .ref bZ, .int sea, .int rnd, .int bas, .int lim, .ref bR, .ref bG, .ref bB, .ref bX])), (bO, .inl (cI, 4, .inl oM)), (bK, .inl (cI, 4, .inl kM)), (bZ, .inl (cZ, 4, .inl zM))] H := hP
  have hD : va_D A [(y, .inr (2, [.int (0 : Int32), .ref bH, .ref bS, .ref bL, .int mel, .ref bO, .ref bK, .ref bZ, .int sea, .int rnd, .int bas, .int lim, .ref bR, .ref bG, .ref bB, .ref bX])), (bO, .inl (cI, 4, .inl oM)), (bK, .inl (cI, 4, .inl kM)), (bZ, .inl (cZ, 4, .inl zM))] := hD
  refine lv_if_eq (tgt := 37) hx hb dX2_meldAt_16 (by decide) (fun c2 => ?_) (fun c2 => ?_)
  · have hw := hw.1 c2
    exact L37 (0 : Int32) _ _ _ hw hP hD hS (lv_sub hl [0] rfl)
  · have hw := hw.2 c2
    refine lv_iload_n hx hb dX2_meldAt_19 rfl (lv_at hl 2 rfl) ?_
    refine lv_iconst (v := 0) hx hb dX2_meldAt_20 (by decide) ?_
    refine lv_iconst (v := 2) hx hb dX2_meldAt_21 (by decide) ?_
    have hPc := hP.sub (ws' := []) [] rfl
    have hDc := hD.sub (ws' := []) [] (by decide) rfl
    have hFc := va_free (wc := []) hD hS hA [] rfl
    refine va_calli (va_runS (As := [.int p1, .int (0 : Int32), .int (2 : Int32)]) (rest := []) ⟨hx, hb, hml, hown, hts⟩ (c_X2_isIn l dC dI cI cZ H.size p1 (0 : Int32) (2 : Int32) _ hw) (va_cwS 3 hts gX2_meldAt_X2_isIn rfl rfl rfl (by decide +kernel) ⟨Nat.le_of_ble_eq_true rfl, Nat.le_of_ble_eq_true rfl⟩) ⟨fun a U g mk q => by obtain ⟨q0, q1, qP, qK, qD⟩ := q; exact ⟨q0, q1, qP, va_K.moved (u := U) (U := U.calling g mk a) (Vm.Alike.refl U.vm) qK, qD⟩, fun U hU hW => ⟨rfl, by rw [hU], by rw [hU]; exact hPc, va_K.moved hW.alike hK, hDc.weaken (fun _ _ _ _ => trivial)⟩⟩ rfl rfl hl.1 rfl (lv_room (Nat.le_of_ble_eq_true rfl)) dX2_meldAt_22 ⟨Nat.le_of_ble_eq_true rfl, Nat.le_of_ble_eq_true rfl⟩) hS (fun q _ h => hFc q h) hFc (fun r5 u t H1 locs ht hvm hw hB hz1 hk1 hS => ?_)
    obtain ⟨hP1, -, hD1⟩ := hB
    have hw := And.intro hw trivial
    try dsimp only at hw
    have hw := hw.1
    rw [ht] at hP1
    obtain ⟨hP, hD⟩ := va_join (wr := [(y, .inr (2, [.int (0 : Int32), .ref bH, .ref bS, .ref bL, .int mel, .ref bO, .ref bK, .ref bZ, .int sea, .int rnd, .int bas, .int lim, .ref bR, .ref bG, .ref bB, .ref bX])), (bO, .inl (cI, 4, .inl oM)), (bK, .inl (cI, 4, .inl kM)), (bZ, .inl (cZ, 4, .inl zM))]) (w1 := []) hP hD [] [0, 1, 2, 3] rfl rfl (by decide) (by decide) hk1 hFc hP1 hD1
    generalize H1 = H at hP hS ⊢
    have hP : va_P (dC, dI) vwCl [(y, .inr (2, [.int (0 : Int32), .ref bH, .ref bS, .ref bL, .int mel, .ref bO, .ref bK, .ref bZ, .int sea, .int rnd, .int bas, .int lim, .ref bR, .ref bG, .ref bB, .ref bX])), (bO, .inl (cI, 4, .inl oM)), (bK, .inl (cI, 4, .inl kM)), (bZ, .inl (cZ, 4, .inl zM))] H := hP
    have hD : va_D A [(y, .inr (2, [.int (0 : Int32), .ref bH, .ref bS, .ref bL, .int mel, .ref bO, .ref bK, .ref bZ, .int sea, .int rnd, .int bas, .int lim, .ref bR, .ref bG, .ref bB, .ref bX])), (bO, .inl (cI, 4, .inl oM)), (bK, .inl (cI, 4, .inl kM)), (bZ, .inl (cZ, 4, .inl zM))] := hD
    refine lv_if_eq (tgt := 37) hx hb dX2_meldAt_25 (by decide) (fun c6 => ?_) (fun c6 => ?_)
    · have hw := hw.1 c6
      exact L37 (0 : Int32) _ _ _ hw hP hD hS (lv_sub hl [0] rfl)
    · have hw := hw.2 c6
      refine lv_aload_n hx hb dX2_meldAt_28 rfl (lv_at hl 0 rfl) ?_
      refine lv_iload_n hx hb dX2_meldAt_29 rfl (lv_at hl 1 rfl) ?_
      refine lv_iload_n hx hb dX2_meldAt_30 rfl (lv_at hl 2 rfl) ?_
      have hPc := hP.sub (ws' := [(y, .inr (2, [.int (0 : Int32), .ref bH, .ref bS, .ref bL, .int mel, .ref bO, .ref bK, .ref bZ, .int sea, .int rnd, .int bas, .int lim, .ref bR, .ref bG, .ref bB, .ref bX])), (bO, .inl (cI, 4, .inl oM)), (bK, .inl (cI, 4, .inl kM)), (bZ, .inl (cZ, 4, .inl zM))]) [0, 1, 2, 3] rfl
      have hDc := hD.sub (ws' := [(y, .inr (2, [.int (0 : Int32), .ref bH, .ref bS, .ref bL, .int mel, .ref bO, .ref bK, .ref bZ, .int sea, .int rnd, .int bas, .int lim, .ref bR, .ref bG, .ref bB, .ref bX])), (bO, .inl (cI, 4, .inl oM)), (bK, .inl (cI, 4, .inl kM)), (bZ, .inl (cZ, 4, .inl zM))]) [0, 1, 2, 3] (by decide) rfl
      have hFc := va_free (wc := [(y, .inr (2, [.int (0 : Int32), .ref bH, .ref bS, .ref bL, .int mel, .ref bO, .ref bK, .ref bZ, .int sea, .int rnd, .int bas, .int lim, .ref bR, .ref bG, .ref bB, .ref bX])), (bO, .inl (cI, 4, .inl oM)), (bK, .inl (cI, 4, .inl kM)), (bZ, .inl (cZ, 4, .inl zM))]) hD hS hA [0, 1, 2, 3] rfl
      refine va_calli (va_runV (As := [.int p0, .int p1]) (rest := []) ⟨hx, hb, hml, hown, hts⟩ (c_X2_told l dC dI cI cZ y bH bS bL bO bK bZ bR bG bB bX H.size (0 : Int32) mel sea rnd bas lim oM kM zM p0 p1 _ hw) (cwV 2 hts gX2_meldAt_X2_told rfl rfl rfl (by decide +kernel) ⟨Nat.le_of_ble_eq_true rfl, Nat.le_of_ble_eq_true rfl⟩) ⟨fun a U g mk q => by obtain ⟨q0, q1, qP, qK, qD⟩ := q; exact ⟨q0, q1, qP, va_K.moved (u := U) (U := U.calling g mk a) (Vm.Alike.refl U.vm) qK, qD⟩, va_recv hK hPc (ci := 2) (q0 := 0) rfl rfl, fun U hU hW => ⟨rfl, by rw [hU], by rw [hU]; exact hPc, va_K.moved hW.alike hK, hDc.weaken (fun _ _ _ _ => trivial)⟩⟩ rfl rfl hl.1 rfl (lv_room (Nat.le_of_ble_eq_true rfl)) dX2_meldAt_31 ⟨Nat.le_of_ble_eq_true rfl, Nat.le_of_ble_eq_true rfl⟩) hS (fun q _ h => hFc q h) hFc (fun r7 u t H1 locs ht hvm hw hB hz1 hk1 hS => ?_)
      obtain ⟨hP1, -, hD1⟩ := hB
      have hw := And.intro hw trivial
      try dsimp only at hw
      have hw := hw.1
      rw [ht] at hP1
      obtain ⟨hP, hD⟩ := va_join (wr := []) (w1 := [(y, .inr (2, [.int (0 : Int32), .ref bH, .ref bS, .ref bL, .int mel, .ref bO, .ref bK, .ref bZ, .int sea, .int rnd, .int bas, .int lim, .ref bR, .ref bG, .ref bB, .ref bX])), (bO, .inl (cI, 4, .inl oM)), (bK, .inl (cI, 4, .inl kM)), (bZ, .inl (cZ, 4, .inl zM))]) hP hD [0, 1, 2, 3] [] rfl rfl (by decide) (by decide) hk1 hFc hP1 hD1
      generalize H1 = H at hP hS ⊢
      have hP : va_P (dC, dI) vwCl [(y, .inr (2, [.int (0 : Int32), .ref bH, .ref bS, .ref bL, .int mel, .ref bO, .ref bK, .ref bZ, .int sea, .int rnd, .int bas, .int lim, .ref bR, .ref bG, .ref bB, .ref bX])), (bO, .inl (cI, 4, .inl oM)), (bK, .inl (cI, 4, .inl kM)), (bZ, .inl (cZ, 4, .inl zM))] H := hP
      have hD : va_D A [(y, .inr (2, [.int (0 : Int32), .ref bH, .ref bS, .ref bL, .int mel, .ref bO, .ref bK, .ref bZ, .int sea, .int rnd, .int bas, .int lim, .ref bR, .ref bG, .ref bB, .ref bX])), (bO, .inl (cI, 4, .inl oM)), (bK, .inl (cI, 4, .inl kM)), (bZ, .inl (cZ, 4, .inl zM))] := hD
      refine lv_goto (tgt := 42) hx hb dX2_meldAt_34 (by decide) ?_
      rw [← hQ9]
      exact W.iret (v := r7) hx hb hr (fun t ht hW => ⟨⟨r7, ((0 : Int32)), rfl, hw, by rw [ht]; exact hP, va_K.moved hW.alike hK, hD⟩, hS.F ht⟩) hS.2.2 dX2_meldAt_42

def w_X2_cut_b204 (post : Int32 → (Nat → Int32) → (Nat → Int32) → Prop) (mel : Int32) (hM : (Nat → Int32)) (p0 : Int32) (p1 : Int32) (v4 : Int32) (rM : (Nat → Int32)) (gM : (Nat → Int32)) : Prop := ((v4 = ((4 : Int32) - mel) → (post (1 : Int32) rM gM)) ∧ (¬ v4 = ((4 : Int32) - mel) → (post (0 : Int32) rM gM)))

def w_X2_cut_b197 (post : Int32 → (Nat → Int32) → (Nat → Int32) → Prop) (mel : Int32) (hM : (Nat → Int32)) (p0 : Int32) (p1 : Int32) (K30 : Int32 → Int32 → (Nat → Int32) → (Nat → Int32) → Prop) (v3 : Int32) (v4 : Int32) (s3 : Int32) (s2 : Int32) (rM : (Nat → Int32)) (gM : (Nat → Int32)) : Prop := vp_in s2 4 ∧ (K30 v3 (v4 + 1) rM (upd gM s2.toNatClampNeg s3))

def w_X2_cut_b178 (post : Int32 → (Nat → Int32) → (Nat → Int32) → Prop) (mel : Int32) (hM : (Nat → Int32)) (p0 : Int32) (p1 : Int32) (K30 : Int32 → Int32 → (Nat → Int32) → (Nat → Int32) → Prop) (v3 : Int32) (v4 : Int32) (v5 : Int32) (rM : (Nat → Int32)) (gM : (Nat → Int32)) : Prop := ((v5 = 0 → (w_X2_cut_b197 post mel hM p0 p1 K30 v3 v4 ((100 : Int32) + v3) v4 rM gM)) ∧ (¬ v5 = 0 → (w_X2_cut_b197 post mel hM p0 p1 K30 v3 v4 v3 v4 rM gM)))

def w_X2_cut_b147 (post : Int32 → (Nat → Int32) → (Nat → Int32) → Prop) (mel : Int32) (hM : (Nat → Int32)) (p0 : Int32) (p1 : Int32) (K30 : Int32 → Int32 → (Nat → Int32) → (Nat → Int32) → Prop) (v3 : Int32) (v4 : Int32) (v5 : Int32) (s4 : Int32) (s3 : Int32) (s2 : Int32) (rM : (Nat → Int32)) (gM : (Nat → Int32)) : Prop := vp_in s2 34 ∧ (((v5 = 0 → (w_X2_cut_b178 post mel hM p0 p1 K30 v3 v4 v5 (upd rM s2.toNatClampNeg (s3 - s4)) gM)) ∧ (¬ v5 = 0 → (vp_in (v3 + (1 : Int32)) 34 ∧ (vp_in (v3 + (1 : Int32)) 34 ∧ (vp_in (v3 + (2 : Int32)) 34 ∧ (vp_in (v3 + (2 : Int32)) 34 ∧ (w_X2_cut_b178 post mel hM p0 p1 K30 v3 v4 v5 (upd (upd (upd rM s2.toNatClampNeg (s3 - s4)) (v3 + (1 : Int32)).toNatClampNeg (((upd rM s2.toNatClampNeg (s3 - s4)) (v3 + (1 : Int32)).toNatClampNeg) - (1 : Int32))) (v3 + (2 : Int32)).toNatClampNeg (((upd (upd rM s2.toNatClampNeg (s3 - s4)) (v3 + (1 : Int32)).toNatClampNeg (((upd rM s2.toNatClampNeg (s3 - s4)) (v3 + (1 : Int32)).toNatClampNeg) - (1 : Int32))) (v3 + (2 : Int32)).toNatClampNeg) - (1 : Int32))) gM))))))))

def w_X2_cut_b130 (post : Int32 → (Nat → Int32) → (Nat → Int32) → Prop) (mel : Int32) (hM : (Nat → Int32)) (p0 : Int32) (p1 : Int32) (K30 : Int32 → Int32 → (Nat → Int32) → (Nat → Int32) → Prop) (v3 : Int32) (v4 : Int32) (v5 : Int32) (rM : (Nat → Int32)) (gM : (Nat → Int32)) : Prop := vp_in v3 34 ∧ (((v5 = 0 → (w_X2_cut_b147 post mel hM p0 p1 K30 v3 v4 v5 (3 : Int32) (rM v3.toNatClampNeg) v3 rM gM)) ∧ (¬ v5 = 0 → (w_X2_cut_b147 post mel hM p0 p1 K30 v3 v4 v5 (1 : Int32) (rM v3.toNatClampNeg) v3 rM gM))))

def w_X2_cut_b115 (post : Int32 → (Nat → Int32) → (Nat → Int32) → Prop) (mel : Int32) (hM : (Nat → Int32)) (p0 : Int32) (p1 : Int32) (rM : (Nat → Int32)) (gM : (Nat → Int32)) : Prop := post (0 : Int32) rM gM

def w_X2_cut_b79 (post : Int32 → (Nat → Int32) → (Nat → Int32) → Prop) (mel : Int32) (hM : (Nat → Int32)) (p0 : Int32) (p1 : Int32) (K30 : Int32 → Int32 → (Nat → Int32) → (Nat → Int32) → Prop) (v3 : Int32) (v4 : Int32) (s1 : Int32) (rM : (Nat → Int32)) (gM : (Nat → Int32)) : Prop := ((s1 = 0 → (vp_in v3 34 ∧ ((((3 : Int32) ≤ (rM v3.toNatClampNeg) → (w_X2_cut_b130 post mel hM p0 p1 K30 v3 v4 s1 rM gM)) ∧ (¬ (3 : Int32) ≤ (rM v3.toNatClampNeg) → (post (0 : Int32) rM gM)))))) ∧ (¬ s1 = 0 → (w_X2_beginsRow v3 (fun r22 => (((r22 = 0 → (post (0 : Int32) rM gM)) ∧ (¬ r22 = 0 → (vp_in (v3 + (1 : Int32)) 34 ∧ ((((rM (v3 + (1 : Int32)).toNatClampNeg) = 0 → (post (0 : Int32) rM gM)) ∧ (¬ (rM (v3 + (1 : Int32)).toNatClampNeg) = 0 → (vp_in (v3 + (2 : Int32)) 34 ∧ ((((rM (v3 + (2 : Int32)).toNatClampNeg) = 0 → (w_X2_cut_b115 post mel hM p0 p1 rM gM)) ∧ (¬ (rM (v3 + (2 : Int32)).toNatClampNeg) = 0 → (w_X2_cut_b130 post mel hM p0 p1 K30 v3 v4 s1 rM gM))))))))))))))))

def w_X2_cut_b30 (post : Int32 → (Nat → Int32) → (Nat → Int32) → Prop) (mel : Int32) (hM : (Nat → Int32)) (p0 : Int32) (p1 : Int32) : Nat → Int32 → Int32 → (Nat → Int32) → (Nat → Int32) → Prop
  | 0, _, _, _, _ => False
  | n + 1, v3, v4, rM, gM => (((34 : Int32) ≤ v3 → (w_X2_cut_b204 post mel hM p0 p1 v4 rM gM)) ∧ (¬ (34 : Int32) ≤ v3 → (vp_in v3 34 ∧ ((((rM v3.toNatClampNeg) = 0 → (w_X2_cut_b30 post mel hM p0 p1 n (v3 + 1) v4 rM gM)) ∧ (¬ (rM v3.toNatClampNeg) = 0 → (((v4 = ((4 : Int32) - mel) → (post (0 : Int32) rM gM)) ∧ (¬ v4 = ((4 : Int32) - mel) → (((((p1 >>> (v4 &&& 31)) &&& (1 : Int32)) = (1 : Int32) → (w_X2_cut_b79 post mel hM p0 p1 (w_X2_cut_b30 post mel hM p0 p1 n) v3 v4 (1 : Int32) rM gM)) ∧ (¬ ((p1 >>> (v4 &&& 31)) &&& (1 : Int32)) = (1 : Int32) → (w_X2_cut_b79 post mel hM p0 p1 (w_X2_cut_b30 post mel hM p0 p1 n) v3 v4 (0 : Int32) rM gM)))))))))))))

def w_X2_cut (mel : Int32) (hM : (Nat → Int32)) (rM : (Nat → Int32)) (gM : (Nat → Int32)) (p0 : Int32) (p1 : Int32) (post : Int32 → (Nat → Int32) → (Nat → Int32) → Prop) : Prop := vp_in p0 34 ∧ (vp_in p0 34 ∧ (∃ n9, w_X2_cut_b30 post mel hM p0 p1 n9 (0 : Int32) (0 : Int32) (upd (va_cpy hM rM ((0 : Int32)).toNatClampNeg ((0 : Int32)).toNatClampNeg ((34 : Int32)).toNatClampNeg) p0.toNatClampNeg (((va_cpy hM rM ((0 : Int32)).toNatClampNeg ((0 : Int32)).toNatClampNeg ((34 : Int32)).toNatClampNeg) p0.toNatClampNeg) - (2 : Int32))) gM))

set_option maxHeartbeats 4000000 in
set_option maxRecDepth 100000 in
theorem c_X2_cut (l : Launch) (dC : Nat → ClassId) (dI : Nat → Nat → Nat) (cI cZ : ClassId) (y : Nat) (bH : Nat) (bS : Nat) (bL : Nat) (bO : Nat) (bK : Nat) (bZ : Nat) (bR : Nat) (bG : Nat) (bB : Nat) (bX : Nat) (sz : Nat) (thr : Int32) (mel : Int32) (sea : Int32) (rnd : Int32) (bas : Int32) (lim : Int32) (hM : (Nat → Int32)) (rM : (Nat → Int32)) (gM : (Nat → Int32)) (p0 : Int32) (p1 : Int32) (post : Int32 → (Nat → Int32) → (Nat → Int32) → Prop) (hw : w_X2_cut mel hM rM gM p0 p1 post) : Met l yX2_cut wsX2_cut ({ frames := 2, cells := 0, slots := 0, locals := 40 } : Room) (va_Pc [.ref y, .int p0, .int p1] (fun U => U.heap.size = sz ∧ va_P (dC, dI) vwCl [(y, .inr (2, [.int thr, .ref bH, .ref bS, .ref bL, .int mel, .ref bO, .ref bK, .ref bZ, .int sea, .int rnd, .int bas, .int lim, .ref bR, .ref bG, .ref bB, .ref bX])), (bH, .inl (cI, 34, .inl hM)), (bR, .inl (cI, 34, .inl rM)), (bG, .inl (cI, 4, .inl gM))] U.heap ∧ va_K (dC, dI) vwCl [(cI, .int), (cZ, .boolean)] U ∧ va_D (fun _ => True) [(y, .inr (2, [.int thr, .ref bH, .ref bS, .ref bL, .int mel, .ref bO, .ref bK, .ref bZ, .int sea, .int rnd, .int bas, .int lim, .ref bR, .ref bG, .ref bB, .ref bX])), (bH, .inl (cI, 34, .inl hM)), (bR, .inl (cI, 34, .inl rM)), (bG, .inl (cI, 4, .inl gM))])) (va_Qi (fun (r9 : Int32) (u9 : (Nat → Int32) × (Nat → Int32)) => post r9 u9.1 u9.2) (fun (u9 : (Nat → Int32) × (Nat → Int32)) (t9 : State) => va_P (dC, dI) vwCl [(y, .inr (2, [.int thr, .ref bH, .ref bS, .ref bL, .int mel, .ref bO, .ref bK, .ref bZ, .int sea, .int rnd, .int bas, .int lim, .ref bR, .ref bG, .ref bB, .ref bX])), (bH, .inl (cI, 34, .inl hM)), (bR, .inl (cI, 34, .inl u9.1)), (bG, .inl (cI, 4, .inl u9.2))] t9.heap ∧ va_K (dC, dI) vwCl [(cI, .int), (cZ, .boolean)] t9 ∧ va_D (va_A [(y, .inr (2, [.int thr, .ref bH, .ref bS, .ref bL, .int mel, .ref bO, .ref bK, .ref bZ, .int sea, .int rnd, .int bas, .int lim, .ref bR, .ref bG, .ref bB, .ref bX])), (bH, .inl (cI, 34, .inl hM)), (bR, .inl (cI, 34, .inl rM)), (bG, .inl (cI, 4, .inl gM))] sz) [(y, .inr (2, [.int thr, .ref bH, .ref bS, .ref bL, .int mel, .ref bO, .ref bK, .ref bZ, .int sea, .int rnd, .int bas, .int lim, .ref bR, .ref bG, .ref bB, .ref bX])), (bH, .inl (cI, 34, .inl hM)), (bR, .inl (cI, 34, .inl u9.1)), (bG, .inl (cI, 4, .inl u9.2))]) (va_A [(y, .inr (2, [.int thr, .ref bH, .ref bS, .ref bL, .int mel, .ref bO, .ref bK, .ref bZ, .int sea, .int rnd, .int bas, .int lim, .ref bR, .ref bG, .ref bB, .ref bX])), (bH, .inl (cI, 34, .inl hM)), (bR, .inl (cI, 34, .inl rM)), (bG, .inl (cI, 4, .inl gM))] sz)) 0 0 (va_A [(y, .inr (2, [.int thr, .ref bH, .ref bS, .ref bL, .int mel, .ref bO, .ref bK, .ref bZ, .int sea, .int rnd, .int bas, .int lim, .ref bR, .ref bG, .ref bB, .ref bX])), (bH, .inl (cI, 34, .inl hM)), (bR, .inl (cI, 34, .inl rM)), (bG, .inl (cI, 4, .inl gM))] sz) := by
  refine Met.ofW (cc := cX2_cut) (maxL := 6) (ret := (some .boolean)) (by decide) rfl ?_
  intro p e s m args below meth c s₁ B hml hv
  obtain ⟨rfl, hsz, hP, hK, hD0⟩ := hv
  have hx := B.exec
  have hb := B.bytes
  have hr := B.returns
  have hts := atoms_spec (ws := wsX2_cut) B.pre
  have hown : s.vm.findClass RX2 = some m.cls := findClass_of_methodNamed B.named
  have hlocks := B.notSynchronized
  have hinX2 : ∀ w ∈ u_ws RX2 TX2 16, w ∈ wsX2_cut := by decide +kernel
  subst hsz
  have hD := hD0.self (sz := s.heap.size)
  generalize hAe : va_A [(y, .inr (2, [.int thr, .ref bH, .ref bS, .ref bL, .int mel, .ref bO, .ref bK, .ref bZ, .int sea, .int rnd, .int bas, .int lim, .ref bR, .ref bG, .ref bB, .ref bX])), (bH, .inl (cI, 34, .inl hM)), (bR, .inl (cI, 34, .inl rM)), (bG, .inl (cI, 4, .inl gM))] s.heap.size = A at hD ⊢
  have hA : ∀ q : Nat, s.heap.size ≤ q → A q := fun q h => by rw [← hAe]; exact Or.inr h
  have hS : va_S A s.heap s.heap [] := va_S.rf
  have hl := lv_entry ([.ref y, .int p0, .int p1]) (n := 6) (Nat.le_of_ble_eq_true rfl)
  rw [lg_entry_eq]
  generalize (lg_sl ([.ref y, .int p0, .int p1]) ++ List.replicate (6 - (lg_sl ([.ref y, .int p0, .int p1])).length) Slot.unset).toArray = ls at hl ⊢
  have hl : lv_has ls 6 [(0, .ref y), (1, .int p0), (2, .int p1)] := hl
  refine (?_ : ∀ Q9 : State → Prop, MQ below _ _ s _ _ _ = Q9 → W p l e ({ frames := 2, cells := 0, slots := 0, locals := 40 } : Room) s m _ below meth c s.heap [] 0 0 Q9 (F0 m 0 ls [])) _ rfl
  intro Q9 hQ9
  have hw : vp_in p0 34 ∧ (vp_in p0 34 ∧ (∃ n9, w_X2_cut_b30 post mel hM p0 p1 n9 (0 : Int32) (0 : Int32) (upd (va_cpy hM rM ((0 : Int32)).toNatClampNeg ((0 : Int32)).toNatClampNeg ((34 : Int32)).toNatClampNeg) p0.toNatClampNeg (((va_cpy hM rM ((0 : Int32)).toNatClampNeg ((0 : Int32)).toNatClampNeg ((34 : Int32)).toNatClampNeg) p0.toNatClampNeg) - (2 : Int32))) gM)) := hw
  have L204 : ∀ (v4 : Int32) (rM : (Nat → Int32)) (gM : (Nat → Int32)) (H : Heap) (locs : List Loc) (ls : Array Slot), w_X2_cut_b204 post mel hM p0 p1 v4 rM gM → va_P (dC, dI) vwCl [(y, .inr (2, [.int thr, .ref bH, .ref bS, .ref bL, .int mel, .ref bO, .ref bK, .ref bZ, .int sea, .int rnd, .int bas, .int lim, .ref bR, .ref bG, .ref bB, .ref bX])), (bH, .inl (cI, 34, .inl hM)), (bR, .inl (cI, 34, .inl rM)), (bG, .inl (cI, 4, .inl gM))] H → va_D A [(y, .inr (2, [.int thr, .ref bH, .ref bS, .ref bL, .int mel, .ref bO, .ref bK, .ref bZ, .int sea, .int rnd, .int bas, .int lim, .ref bR, .ref bG, .ref bB, .ref bX])), (bH, .inl (cI, 34, .inl hM)), (bR, .inl (cI, 34, .inl rM)), (bG, .inl (cI, 4, .inl gM))] → va_S A s.heap H locs → lv_has ls 6 [(0, .ref y), (4, .int v4)] → W p l e ({ frames := 2, cells := 0, slots := 0, locals := 40 } : Room) s m ([.ref y, .int p0, .int p1] : List Value).toArray below meth c H locs 0 0 Q9 (F0 m 204 ls []) := by
    intro v4 rM gM H locs ls hw hP hD hS hl
    refine lv_iload hx hb dX2_cut_204 (lv_at hl 1 rfl) ?_
    refine lv_iconst (v := 4) hx hb dX2_cut_206 (by decide) ?_
    refine lv_aload_n hx hb dX2_cut_207 rfl (lv_at hl 0 rfl) ?_
    refine va_get (D := (dC, dI)) (ci := 2) (v := .int mel) (C := RX2) (T := TX2) (N := 16) hx hb hts hinX2 hown hK hP 0 rfl rfl 4 (by decide) (hts (.fieldLink RX2 69 "TileHandModel" "melds" "I") (by decide +kernel)) (fun _ h9 => h9) rfl dX2_cut_208 ?_
    refine lv_isub hx hb dX2_cut_211 ?_
    refine lv_icmp_ne (tgt := 219) hx hb dX2_cut_212 (by decide) (fun c4 => ?_) (fun c4 => ?_)
    · have hw := hw.2 c4
      refine lv_iconst (v := 0) hx hb dX2_cut_219 (by decide) ?_
      rw [← hQ9]
      exact W.zret (v := (0 : Int32)) hx hb hr rfl (fun t ht hW => ⟨⟨(0 : Int32), (rM, gM), rfl, hw, by rw [ht]; exact hP, va_K.moved hW.alike hK, hD⟩, hS.F ht⟩) hS.2.2 dX2_cut_220
    · have hw := hw.1 c4
      refine lv_iconst (v := 1) hx hb dX2_cut_215 (by decide) ?_
      refine lv_goto (tgt := 220) hx hb dX2_cut_216 (by decide) ?_
      rw [← hQ9]
      exact W.zret (v := (1 : Int32)) hx hb hr rfl (fun t ht hW => ⟨⟨(1 : Int32), (rM, gM), rfl, hw, by rw [ht]; exact hP, va_K.moved hW.alike hK, hD⟩, hS.F ht⟩) hS.2.2 dX2_cut_220
  have L197 : ∀ (K30 : Int32 → Int32 → (Nat → Int32) → (Nat → Int32) → Prop) (hK30 : ∀ (v3 : Int32) (v4 : Int32) (rM : (Nat → Int32)) (gM : (Nat → Int32)) (H : Heap) (locs : List Loc) (ls : Array Slot), K30 v3 v4 rM gM → va_P (dC, dI) vwCl [(y, .inr (2, [.int thr, .ref bH, .ref bS, .ref bL, .int mel, .ref bO, .ref bK, .ref bZ, .int sea, .int rnd, .int bas, .int lim, .ref bR, .ref bG, .ref bB, .ref bX])), (bH, .inl (cI, 34, .inl hM)), (bR, .inl (cI, 34, .inl rM)), (bG, .inl (cI, 4, .inl gM))] H → va_D A [(y, .inr (2, [.int thr, .ref bH, .ref bS, .ref bL, .int mel, .ref bO, .ref bK, .ref bZ, .int sea, .int rnd, .int bas, .int lim, .ref bR, .ref bG, .ref bB, .ref bX])), (bH, .inl (cI, 34, .inl hM)), (bR, .inl (cI, 34, .inl rM)), (bG, .inl (cI, 4, .inl gM))] → va_S A s.heap H locs → lv_has ls 6 [(0, .ref y), (2, .int p1), (3, .int v3), (4, .int v4)] → W p l e ({ frames := 2, cells := 0, slots := 0, locals := 40 } : Room) s m ([.ref y, .int p0, .int p1] : List Value).toArray below meth c H locs 0 0 Q9 (F0 m 30 ls [])), ∀ (v3 : Int32) (v4 : Int32) (s3 : Int32) (s2 : Int32) (rM : (Nat → Int32)) (gM : (Nat → Int32)) (H : Heap) (locs : List Loc) (ls : Array Slot), w_X2_cut_b197 post mel hM p0 p1 K30 v3 v4 s3 s2 rM gM → va_P (dC, dI) vwCl [(y, .inr (2, [.int thr, .ref bH, .ref bS, .ref bL, .int mel, .ref bO, .ref bK, .ref bZ, .int sea, .int rnd, .int bas, .int lim, .ref bR, .ref bG, .ref bB, .ref bX])), (bH, .inl (cI, 34, .inl hM)), (bR, .inl (cI, 34, .inl rM)), (bG, .inl (cI, 4, .inl gM))] H → va_D A [(y, .inr (2, [.int thr, .ref bH, .ref bS, .ref bL, .int mel, .ref bO, .ref bK, .ref bZ, .int sea, .int rnd, .int bas, .int lim, .ref bR, .ref bG, .ref bB, .ref bX])), (bH, .inl (cI, 34, .inl hM)), (bR, .inl (cI, 34, .inl rM)), (bG, .inl (cI, 4, .inl gM))] → va_S A s.heap H locs → lv_has ls 6 [(0, .ref y), (2, .int p1), (3, .int v3), (4, .int v4)] → W p l e ({ frames := 2, cells := 0, slots := 0, locals := 40 } : Room) s m ([.ref y, .int p0, .int p1] : List Value).toArray below meth c H locs 0 0 Q9 (F0 m 197 ls [.int s3, .int s2, .ref bG]) := by
    intro K30 hK30 v3 v4 s3 s2 rM gM H locs ls hw hP hD hS hl
    obtain ⟨h17, hw⟩ := hw
    refine va_iast hx hb hK hP hD hS 3 0 rfl rfl h17 dX2_cut_197 (fun H locs hP hD hS => ?_)
    have hP : va_P (dC, dI) vwCl [(y, .inr (2, [.int thr, .ref bH, .ref bS, .ref bL, .int mel, .ref bO, .ref bK, .ref bZ, .int sea, .int rnd, .int bas, .int lim, .ref bR, .ref bG, .ref bB, .ref bX])), (bH, .inl (cI, 34, .inl hM)), (bR, .inl (cI, 34, .inl rM)), (bG, .inl (cI, 4, .inl (upd gM s2.toNatClampNeg s3)))] H := hP
    have hD : va_D A [(y, .inr (2, [.int thr, .ref bH, .ref bS, .ref bL, .int mel, .ref bO, .ref bK, .ref bZ, .int sea, .int rnd, .int bas, .int lim, .ref bR, .ref bG, .ref bB, .ref bX])), (bH, .inl (cI, 34, .inl hM)), (bR, .inl (cI, 34, .inl rM)), (bG, .inl (cI, 4, .inl (upd gM s2.toNatClampNeg s3)))] := hD
    refine lv_iinc (v := v4 + 1) (lv' := [(4, .int (v4 + 1)), (0, .ref y), (2, .int p1), (3, .int v3)]) hx hb dX2_cut_198 hl (k := 3) rfl rfl (by decide) rfl (fun ls hl => ?_)
    refine lv_goto (tgt := 30) hx hb dX2_cut_201 (by decide) ?_
    exact hK30 v3 (v4 + 1) rM (upd gM s2.toNatClampNeg s3) _ _ _ hw hP hD hS (lv_sub hl [1, 2, 3, 0] rfl)
  have L178 : ∀ (K30 : Int32 → Int32 → (Nat → Int32) → (Nat → Int32) → Prop) (hK30 : ∀ (v3 : Int32) (v4 : Int32) (rM : (Nat → Int32)) (gM : (Nat → Int32)) (H : Heap) (locs : List Loc) (ls : Array Slot), K30 v3 v4 rM gM → va_P (dC, dI) vwCl [(y, .inr (2, [.int thr, .ref bH, .ref bS, .ref bL, .int mel, .ref bO, .ref bK, .ref bZ, .int sea, .int rnd, .int bas, .int lim, .ref bR, .ref bG, .ref bB, .ref bX])), (bH, .inl (cI, 34, .inl hM)), (bR, .inl (cI, 34, .inl rM)), (bG, .inl (cI, 4, .inl gM))] H → va_D A [(y, .inr (2, [.int thr, .ref bH, .ref bS, .ref bL, .int mel, .ref bO, .ref bK, .ref bZ, .int sea, .int rnd, .int bas, .int lim, .ref bR, .ref bG, .ref bB, .ref bX])), (bH, .inl (cI, 34, .inl hM)), (bR, .inl (cI, 34, .inl rM)), (bG, .inl (cI, 4, .inl gM))] → va_S A s.heap H locs → lv_has ls 6 [(0, .ref y), (2, .int p1), (3, .int v3), (4, .int v4)] → W p l e ({ frames := 2, cells := 0, slots := 0, locals := 40 } : Room) s m ([.ref y, .int p0, .int p1] : List Value).toArray below meth c H locs 0 0 Q9 (F0 m 30 ls [])), ∀ (v3 : Int32) (v4 : Int32) (v5 : Int32) (rM : (Nat → Int32)) (gM : (Nat → Int32)) (H : Heap) (locs : List Loc) (ls : Array Slot), w_X2_cut_b178 post mel hM p0 p1 K30 v3 v4 v5 rM gM → va_P (dC, dI) vwCl [(y, .inr (2, [.int thr, .ref bH, .ref bS, .ref bL, .int mel, .ref bO, .ref bK, .ref bZ, .int sea, .int rnd, .int bas, .int lim, .ref bR, .ref bG, .ref bB, .ref bX])), (bH, .inl (cI, 34, .inl hM)), (bR, .inl (cI, 34, .inl rM)), (bG, .inl (cI, 4, .inl gM))] H → va_D A [(y, .inr (2, [.int thr, .ref bH, .ref bS, .ref bL, .int mel, .ref bO, .ref bK, .ref bZ, .int sea, .int rnd, .int bas, .int lim, .ref bR, .ref bG, .ref bB, .ref bX])), (bH, .inl (cI, 34, .inl hM)), (bR, .inl (cI, 34, .inl rM)), (bG, .inl (cI, 4, .inl gM))] → va_S A s.heap H locs → lv_has ls 6 [(0, .ref y), (2, .int p1), (3, .int v3), (4, .int v4), (5, .int v5)] → W p l e ({ frames := 2, cells := 0, slots := 0, locals := 40 } : Room) s m ([.ref y, .int p0, .int p1] : List Value).toArray below meth c H locs 0 0 Q9 (F0 m 178 ls []) := by
    intro K30 hK30 v3 v4 v5 rM gM H locs ls hw hP hD hS hl
    refine lv_aload_n hx hb dX2_cut_178 rfl (lv_at hl 0 rfl) ?_
    refine va_get (D := (dC, dI)) (ci := 2) (v := .ref bG) (C := RX2) (T := TX2) (N := 16) hx hb hts hinX2 hown hK hP 0 rfl rfl 13 (by decide) (hts (.fieldLink RX2 45 "TileHandModel" "groups" "[I") (by decide +kernel)) (fun _ h9 => h9) rfl dX2_cut_179 ?_
    refine lv_iload hx hb dX2_cut_182 (lv_at hl 3 rfl) ?_
    refine lv_iload hx hb dX2_cut_184 (lv_at hl 4 rfl) ?_
    refine lv_if_eq (tgt := 193) hx hb dX2_cut_186 (by decide) (fun c16 => ?_) (fun c16 => ?_)
    · have hw := hw.1 c16
      refine lv_bipush (v := 100) hx hb dX2_cut_193 (by decide) ?_
      refine lv_iload_n hx hb dX2_cut_195 rfl (lv_at hl 2 rfl) ?_
      refine lv_iadd hx hb dX2_cut_196 ?_
      exact L197 K30 hK30 v3 v4 ((100 : Int32) + v3) v4 rM gM _ _ _ hw hP hD hS (lv_sub hl [0, 1, 2, 3] rfl)
    · have hw := hw.2 c16
      refine lv_iload_n hx hb dX2_cut_189 rfl (lv_at hl 2 rfl) ?_
      refine lv_goto (tgt := 197) hx hb dX2_cut_190 (by decide) ?_
      exact L197 K30 hK30 v3 v4 v3 v4 rM gM _ _ _ hw hP hD hS (lv_sub hl [0, 1, 2, 3] rfl)
  have L147 : ∀ (K30 : Int32 → Int32 → (Nat → Int32) → (Nat → Int32) → Prop) (hK30 : ∀ (v3 : Int32) (v4 : Int32) (rM : (Nat → Int32)) (gM : (Nat → Int32)) (H : Heap) (locs : List Loc) (ls : Array Slot), K30 v3 v4 rM gM → va_P (dC, dI) vwCl [(y, .inr (2, [.int thr, .ref bH, .ref bS, .ref bL, .int mel, .ref bO, .ref bK, .ref bZ, .int sea, .int rnd, .int bas, .int lim, .ref bR, .ref bG, .ref bB, .ref bX])), (bH, .inl (cI, 34, .inl hM)), (bR, .inl (cI, 34, .inl rM)), (bG, .inl (cI, 4, .inl gM))] H → va_D A [(y, .inr (2, [.int thr, .ref bH, .ref bS, .ref bL, .int mel, .ref bO, .ref bK, .ref bZ, .int sea, .int rnd, .int bas, .int lim, .ref bR, .ref bG, .ref bB, .ref bX])), (bH, .inl (cI, 34, .inl hM)), (bR, .inl (cI, 34, .inl rM)), (bG, .inl (cI, 4, .inl gM))] → va_S A s.heap H locs → lv_has ls 6 [(0, .ref y), (2, .int p1), (3, .int v3), (4, .int v4)] → W p l e ({ frames := 2, cells := 0, slots := 0, locals := 40 } : Room) s m ([.ref y, .int p0, .int p1] : List Value).toArray below meth c H locs 0 0 Q9 (F0 m 30 ls [])), ∀ (v3 : Int32) (v4 : Int32) (v5 : Int32) (s4 : Int32) (s3 : Int32) (s2 : Int32) (rM : (Nat → Int32)) (gM : (Nat → Int32)) (H : Heap) (locs : List Loc) (ls : Array Slot), w_X2_cut_b147 post mel hM p0 p1 K30 v3 v4 v5 s4 s3 s2 rM gM → va_P (dC, dI) vwCl [(y, .inr (2, [.int thr, .ref bH, .ref bS, .ref bL, .int mel, .ref bO, .ref bK, .ref bZ, .int sea, .int rnd, .int bas, .int lim, .ref bR, .ref bG, .ref bB, .ref bX])), (bH, .inl (cI, 34, .inl hM)), (bR, .inl (cI, 34, .inl rM)), (bG, .inl (cI, 4, .inl gM))] H → va_D A [(y, .inr (2, [.int thr, .ref bH, .ref bS, .ref bL, .int mel, .ref bO, .ref bK, .ref bZ, .int sea, .int rnd, .int bas, .int lim, .ref bR, .ref bG, .ref bB, .ref bX])), (bH, .inl (cI, 34, .inl hM)), (bR, .inl (cI, 34, .inl rM)), (bG, .inl (cI, 4, .inl gM))] → va_S A s.heap H locs → lv_has ls 6 [(0, .ref y), (2, .int p1), (3, .int v3), (4, .int v4), (5, .int v5)] → W p l e ({ frames := 2, cells := 0, slots := 0, locals := 40 } : Room) s m ([.ref y, .int p0, .int p1] : List Value).toArray below meth c H locs 0 0 Q9 (F0 m 147 ls [.int s4, .int s3, .int s2, .ref bR]) := by
    intro K30 hK30 v3 v4 v5 s4 s3 s2 rM gM H locs ls hw hP hD hS hl
    refine lv_isub hx hb dX2_cut_147 ?_
    obtain ⟨h14, hw⟩ := hw
    refine va_iast hx hb hK hP hD hS 2 0 rfl rfl h14 dX2_cut_148 (fun H locs hP hD hS => ?_)
    have hP : va_P (dC, dI) vwCl [(y, .inr (2, [.int thr, .ref bH, .ref bS, .ref bL, .int mel, .ref bO, .ref bK, .ref bZ, .int sea, .int rnd, .int bas, .int lim, .ref bR, .ref bG, .ref bB, .ref bX])), (bH, .inl (cI, 34, .inl hM)), (bR, .inl (cI, 34, .inl (upd rM s2.toNatClampNeg (s3 - s4)))), (bG, .inl (cI, 4, .inl gM))] H := hP
    have hD : va_D A [(y, .inr (2, [.int thr, .ref bH, .ref bS, .ref bL, .int mel, .ref bO, .ref bK, .ref bZ, .int sea, .int rnd, .int bas, .int lim, .ref bR, .ref bG, .ref bB, .ref bX])), (bH, .inl (cI, 34, .inl hM)), (bR, .inl (cI, 34, .inl (upd rM s2.toNatClampNeg (s3 - s4)))), (bG, .inl (cI, 4, .inl gM))] := hD
    refine lv_iload hx hb dX2_cut_149 (lv_at hl 4 rfl) ?_
    refine lv_if_eq (tgt := 178) hx hb dX2_cut_151 (by decide) (fun c15 => ?_) (fun c15 => ?_)
    · have hw := hw.1 c15
      exact L178 K30 hK30 v3 v4 v5 (upd rM s2.toNatClampNeg (s3 - s4)) gM _ _ _ hw hP hD hS (lv_sub hl [0, 1, 2, 3, 4] rfl)
    · have hw := hw.2 c15
      refine lv_aload_n hx hb dX2_cut_154 rfl (lv_at hl 0 rfl) ?_
      refine va_get (D := (dC, dI)) (ci := 2) (v := .ref bR) (C := RX2) (T := TX2) (N := 16) hx hb hts hinX2 hown hK hP 0 rfl rfl 12 (by decide) (hts (.fieldLink RX2 42 "TileHandModel" "rest" "[I") (by decide +kernel)) (fun _ h9 => h9) rfl dX2_cut_155 ?_
      refine lv_iload_n hx hb dX2_cut_158 rfl (lv_at hl 2 rfl) ?_
      refine lv_iconst (v := 1) hx hb dX2_cut_159 (by decide) ?_
      refine lv_iadd hx hb dX2_cut_160 ?_
      refine lv_dup2_11 hx hb dX2_cut_161 rfl rfl ?_
      obtain ⟨h18, hw⟩ := hw
      refine va_iald hx hb hK hP 2 0 rfl rfl h18 dX2_cut_162 ?_
      refine lv_iconst (v := 1) hx hb dX2_cut_163 (by decide) ?_
      refine lv_isub hx hb dX2_cut_164 ?_
      obtain ⟨h19, hw⟩ := hw
      refine va_iast hx hb hK hP hD hS 2 0 rfl rfl h19 dX2_cut_165 (fun H locs hP hD hS => ?_)
      have hP : va_P (dC, dI) vwCl [(y, .inr (2, [.int thr, .ref bH, .ref bS, .ref bL, .int mel, .ref bO, .ref bK, .ref bZ, .int sea, .int rnd, .int bas, .int lim, .ref bR, .ref bG, .ref bB, .ref bX])), (bH, .inl (cI, 34, .inl hM)), (bR, .inl (cI, 34, .inl (upd (upd rM s2.toNatClampNeg (s3 - s4)) (v3 + (1 : Int32)).toNatClampNeg (((upd rM s2.toNatClampNeg (s3 - s4)) (v3 + (1 : Int32)).toNatClampNeg) - (1 : Int32))))), (bG, .inl (cI, 4, .inl gM))] H := hP
      have hD : va_D A [(y, .inr (2, [.int thr, .ref bH, .ref bS, .ref bL, .int mel, .ref bO, .ref bK, .ref bZ, .int sea, .int rnd, .int bas, .int lim, .ref bR, .ref bG, .ref bB, .ref bX])), (bH, .inl (cI, 34, .inl hM)), (bR, .inl (cI, 34, .inl (upd (upd rM s2.toNatClampNeg (s3 - s4)) (v3 + (1 : Int32)).toNatClampNeg (((upd rM s2.toNatClampNeg (s3 - s4)) (v3 + (1 : Int32)).toNatClampNeg) - (1 : Int32))))), (bG, .inl (cI, 4, .inl gM))] := hD
      refine lv_aload_n hx hb dX2_cut_166 rfl (lv_at hl 0 rfl) ?_
      refine va_get (D := (dC, dI)) (ci := 2) (v := .ref bR) (C := RX2) (T := TX2) (N := 16) hx hb hts hinX2 hown hK hP 0 rfl rfl 12 (by decide) (hts (.fieldLink RX2 42 "TileHandModel" "rest" "[I") (by decide +kernel)) (fun _ h9 => h9) rfl dX2_cut_167 ?_
      refine lv_iload_n hx hb dX2_cut_170 rfl (lv_at hl 2 rfl) ?_
      refine lv_iconst (v := 2) hx hb dX2_cut_171 (by decide) ?_
      refine lv_iadd hx hb dX2_cut_172 ?_
      refine lv_dup2_11 hx hb dX2_cut_173 rfl rfl ?_
      obtain ⟨h20, hw⟩ := hw
      refine va_iald hx hb hK hP 2 0 rfl rfl h20 dX2_cut_174 ?_
      refine lv_iconst (v := 1) hx hb dX2_cut_175 (by decide) ?_
      refine lv_isub hx hb dX2_cut_176 ?_
      obtain ⟨h21, hw⟩ := hw
      refine va_iast hx hb hK hP hD hS 2 0 rfl rfl h21 dX2_cut_177 (fun H locs hP hD hS => ?_)
      have hP : va_P (dC, dI) vwCl [(y, .inr (2, [.int thr, .ref bH, .ref bS, .ref bL, .int mel, .ref bO, .ref bK, .ref bZ, .int sea, .int rnd, .int bas, .int lim, .ref bR, .ref bG, .ref bB, .ref bX])), (bH, .inl (cI, 34, .inl hM)), (bR, .inl (cI, 34, .inl (upd (upd (upd rM s2.toNatClampNeg (s3 - s4)) (v3 + (1 : Int32)).toNatClampNeg (((upd rM s2.toNatClampNeg (s3 - s4)) (v3 + (1 : Int32)).toNatClampNeg) - (1 : Int32))) (v3 + (2 : Int32)).toNatClampNeg (((upd (upd rM s2.toNatClampNeg (s3 - s4)) (v3 + (1 : Int32)).toNatClampNeg (((upd rM s2.toNatClampNeg (s3 - s4)) (v3 + (1 : Int32)).toNatClampNeg) - (1 : Int32))) (v3 + (2 : Int32)).toNatClampNeg) - (1 : Int32))))), (bG, .inl (cI, 4, .inl gM))] H := hP
      have hD : va_D A [(y, .inr (2, [.int thr, .ref bH, .ref bS, .ref bL, .int mel, .ref bO, .ref bK, .ref bZ, .int sea, .int rnd, .int bas, .int lim, .ref bR, .ref bG, .ref bB, .ref bX])), (bH, .inl (cI, 34, .inl hM)), (bR, .inl (cI, 34, .inl (upd (upd (upd rM s2.toNatClampNeg (s3 - s4)) (v3 + (1 : Int32)).toNatClampNeg (((upd rM s2.toNatClampNeg (s3 - s4)) (v3 + (1 : Int32)).toNatClampNeg) - (1 : Int32))) (v3 + (2 : Int32)).toNatClampNeg (((upd (upd rM s2.toNatClampNeg (s3 - s4)) (v3 + (1 : Int32)).toNatClampNeg (((upd rM s2.toNatClampNeg (s3 - s4)) (v3 + (1 : Int32)).toNatClampNeg) - (1 : Int32))) (v3 + (2 : Int32)).toNatClampNeg) - (1 : Int32))))), (bG, .inl (cI, 4, .inl gM))] := hD
      exact L178 K30 hK30 v3 v4 v5 (upd (upd (upd rM s2.toNatClampNeg (s3 - s4)) (v3 + (1 : Int32)).toNatClampNeg (((upd rM s2.toNatClampNeg (s3 - s4)) (v3 + (1 : Int32)).toNatClampNeg) - (1 : Int32))) (v3 + (2 : Int32)).toNatClampNeg (((upd (upd rM s2.toNatClampNeg (s3 - s4)) (v3 + (1 : Int32)).toNatClampNeg (((upd rM s2.toNatClampNeg (s3 - s4)) (v3 + (1 : Int32)).toNatClampNeg) - (1 : Int32))) (v3 + (2 : Int32)).toNatClampNeg) - (1 : Int32))) gM _ _ _ hw hP hD hS (lv_sub hl [0, 1, 2, 3, 4] rfl)
  have L130 : ∀ (K30 : Int32 → Int32 → (Nat → Int32) → (Nat → Int32) → Prop) (hK30 : ∀ (v3 : Int32) (v4 : Int32) (rM : (Nat → Int32)) (gM : (Nat → Int32)) (H : Heap) (locs : List Loc) (ls : Array Slot), K30 v3 v4 rM gM → va_P (dC, dI) vwCl [(y, .inr (2, [.int thr, .ref bH, .ref bS, .ref bL, .int mel, .ref bO, .ref bK, .ref bZ, .int sea, .int rnd, .int bas, .int lim, .ref bR, .ref bG, .ref bB, .ref bX])), (bH, .inl (cI, 34, .inl hM)), (bR, .inl (cI, 34, .inl rM)), (bG, .inl (cI, 4, .inl gM))] H → va_D A [(y, .inr (2, [.int thr, .ref bH, .ref bS, .ref bL, .int mel, .ref bO, .ref bK, .ref bZ, .int sea, .int rnd, .int bas, .int lim, .ref bR, .ref bG, .ref bB, .ref bX])), (bH, .inl (cI, 34, .inl hM)), (bR, .inl (cI, 34, .inl rM)), (bG, .inl (cI, 4, .inl gM))] → va_S A s.heap H locs → lv_has ls 6 [(0, .ref y), (2, .int p1), (3, .int v3), (4, .int v4)] → W p l e ({ frames := 2, cells := 0, slots := 0, locals := 40 } : Room) s m ([.ref y, .int p0, .int p1] : List Value).toArray below meth c H locs 0 0 Q9 (F0 m 30 ls [])), ∀ (v3 : Int32) (v4 : Int32) (v5 : Int32) (rM : (Nat → Int32)) (gM : (Nat → Int32)) (H : Heap) (locs : List Loc) (ls : Array Slot), w_X2_cut_b130 post mel hM p0 p1 K30 v3 v4 v5 rM gM → va_P (dC, dI) vwCl [(y, .inr (2, [.int thr, .ref bH, .ref bS, .ref bL, .int mel, .ref bO, .ref bK, .ref bZ, .int sea, .int rnd, .int bas, .int lim, .ref bR, .ref bG, .ref bB, .ref bX])), (bH, .inl (cI, 34, .inl hM)), (bR, .inl (cI, 34, .inl rM)), (bG, .inl (cI, 4, .inl gM))] H → va_D A [(y, .inr (2, [.int thr, .ref bH, .ref bS, .ref bL, .int mel, .ref bO, .ref bK, .ref bZ, .int sea, .int rnd, .int bas, .int lim, .ref bR, .ref bG, .ref bB, .ref bX])), (bH, .inl (cI, 34, .inl hM)), (bR, .inl (cI, 34, .inl rM)), (bG, .inl (cI, 4, .inl gM))] → va_S A s.heap H locs → lv_has ls 6 [(0, .ref y), (2, .int p1), (3, .int v3), (4, .int v4), (5, .int v5)] → W p l e ({ frames := 2, cells := 0, slots := 0, locals := 40 } : Room) s m ([.ref y, .int p0, .int p1] : List Value).toArray below meth c H locs 0 0 Q9 (F0 m 130 ls []) := by
    intro K30 hK30 v3 v4 v5 rM gM H locs ls hw hP hD hS hl
    refine lv_aload_n hx hb dX2_cut_130 rfl (lv_at hl 0 rfl) ?_
    refine va_get (D := (dC, dI)) (ci := 2) (v := .ref bR) (C := RX2) (T := TX2) (N := 16) hx hb hts hinX2 hown hK hP 0 rfl rfl 12 (by decide) (hts (.fieldLink RX2 42 "TileHandModel" "rest" "[I") (by decide +kernel)) (fun _ h9 => h9) rfl dX2_cut_131 ?_
    refine lv_iload_n hx hb dX2_cut_134 rfl (lv_at hl 2 rfl) ?_
    refine lv_dup2_11 hx hb dX2_cut_135 rfl rfl ?_
    obtain ⟨h12, hw⟩ := hw
    refine va_iald hx hb hK hP 2 0 rfl rfl h12 dX2_cut_136 ?_
    refine lv_iload hx hb dX2_cut_137 (lv_at hl 4 rfl) ?_
    refine lv_if_eq (tgt := 146) hx hb dX2_cut_139 (by decide) (fun c13 => ?_) (fun c13 => ?_)
    · have hw := hw.1 c13
      refine lv_iconst (v := 3) hx hb dX2_cut_146 (by decide) ?_
      exact L147 K30 hK30 v3 v4 v5 (3 : Int32) (rM v3.toNatClampNeg) v3 rM gM _ _ _ hw hP hD hS (lv_sub hl [0, 1, 2, 3, 4] rfl)
    · have hw := hw.2 c13
      refine lv_iconst (v := 1) hx hb dX2_cut_142 (by decide) ?_
      refine lv_goto (tgt := 147) hx hb dX2_cut_143 (by decide) ?_
      exact L147 K30 hK30 v3 v4 v5 (1 : Int32) (rM v3.toNatClampNeg) v3 rM gM _ _ _ hw hP hD hS (lv_sub hl [0, 1, 2, 3, 4] rfl)
  have L115 : ∀ (rM : (Nat → Int32)) (gM : (Nat → Int32)) (H : Heap) (locs : List Loc) (ls : Array Slot), w_X2_cut_b115 post mel hM p0 p1 rM gM → va_P (dC, dI) vwCl [(y, .inr (2, [.int thr, .ref bH, .ref bS, .ref bL, .int mel, .ref bO, .ref bK, .ref bZ, .int sea, .int rnd, .int bas, .int lim, .ref bR, .ref bG, .ref bB, .ref bX])), (bH, .inl (cI, 34, .inl hM)), (bR, .inl (cI, 34, .inl rM)), (bG, .inl (cI, 4, .inl gM))] H → va_D A [(y, .inr (2, [.int thr, .ref bH, .ref bS, .ref bL, .int mel, .ref bO, .ref bK, .ref bZ, .int sea, .int rnd, .int bas, .int lim, .ref bR, .ref bG, .ref bB, .ref bX])), (bH, .inl (cI, 34, .inl hM)), (bR, .inl (cI, 34, .inl rM)), (bG, .inl (cI, 4, .inl gM))] → va_S A s.heap H locs → lv_has ls 6 [(0, .ref y)] → W p l e ({ frames := 2, cells := 0, slots := 0, locals := 40 } : Room) s m ([.ref y, .int p0, .int p1] : List Value).toArray below meth c H locs 0 0 Q9 (F0 m 115 ls []) := by
    intro rM gM H locs ls hw hP hD hS hl
    refine lv_goto (tgt := 128) hx hb dX2_cut_115 (by decide) ?_
    refine lv_iconst (v := 0) hx hb dX2_cut_128 (by decide) ?_
    rw [← hQ9]
    exact W.zret (v := (0 : Int32)) hx hb hr rfl (fun t ht hW => ⟨⟨(0 : Int32), (rM, gM), rfl, hw, by rw [ht]; exact hP, va_K.moved hW.alike hK, hD⟩, hS.F ht⟩) hS.2.2 dX2_cut_129
  have L79 : ∀ (K30 : Int32 → Int32 → (Nat → Int32) → (Nat → Int32) → Prop) (hK30 : ∀ (v3 : Int32) (v4 : Int32) (rM : (Nat → Int32)) (gM : (Nat → Int32)) (H : Heap) (locs : List Loc) (ls : Array Slot), K30 v3 v4 rM gM → va_P (dC, dI) vwCl [(y, .inr (2, [.int thr, .ref bH, .ref bS, .ref bL, .int mel, .ref bO, .ref bK, .ref bZ, .int sea, .int rnd, .int bas, .int lim, .ref bR, .ref bG, .ref bB, .ref bX])), (bH, .inl (cI, 34, .inl hM)), (bR, .inl (cI, 34, .inl rM)), (bG, .inl (cI, 4, .inl gM))] H → va_D A [(y, .inr (2, [.int thr, .ref bH, .ref bS, .ref bL, .int mel, .ref bO, .ref bK, .ref bZ, .int sea, .int rnd, .int bas, .int lim, .ref bR, .ref bG, .ref bB, .ref bX])), (bH, .inl (cI, 34, .inl hM)), (bR, .inl (cI, 34, .inl rM)), (bG, .inl (cI, 4, .inl gM))] → va_S A s.heap H locs → lv_has ls 6 [(0, .ref y), (2, .int p1), (3, .int v3), (4, .int v4)] → W p l e ({ frames := 2, cells := 0, slots := 0, locals := 40 } : Room) s m ([.ref y, .int p0, .int p1] : List Value).toArray below meth c H locs 0 0 Q9 (F0 m 30 ls [])), ∀ (v3 : Int32) (v4 : Int32) (s1 : Int32) (rM : (Nat → Int32)) (gM : (Nat → Int32)) (H : Heap) (locs : List Loc) (ls : Array Slot), w_X2_cut_b79 post mel hM p0 p1 K30 v3 v4 s1 rM gM → va_P (dC, dI) vwCl [(y, .inr (2, [.int thr, .ref bH, .ref bS, .ref bL, .int mel, .ref bO, .ref bK, .ref bZ, .int sea, .int rnd, .int bas, .int lim, .ref bR, .ref bG, .ref bB, .ref bX])), (bH, .inl (cI, 34, .inl hM)), (bR, .inl (cI, 34, .inl rM)), (bG, .inl (cI, 4, .inl gM))] H → va_D A [(y, .inr (2, [.int thr, .ref bH, .ref bS, .ref bL, .int mel, .ref bO, .ref bK, .ref bZ, .int sea, .int rnd, .int bas, .int lim, .ref bR, .ref bG, .ref bB, .ref bX])), (bH, .inl (cI, 34, .inl hM)), (bR, .inl (cI, 34, .inl rM)), (bG, .inl (cI, 4, .inl gM))] → va_S A s.heap H locs → lv_has ls 6 [(0, .ref y), (2, .int p1), (3, .int v3), (4, .int v4)] → W p l e ({ frames := 2, cells := 0, slots := 0, locals := 40 } : Room) s m ([.ref y, .int p0, .int p1] : List Value).toArray below meth c H locs 0 0 Q9 (F0 m 79 ls [.int s1]) := by
    intro K30 hK30 v3 v4 s1 rM gM H locs ls hw hP hD hS hl
    refine lv_istore (lv' := [(5, .int s1), (0, .ref y), (2, .int p1), (3, .int v3), (4, .int v4)]) hx hb dX2_cut_79 hl (by decide) rfl (fun ls hl => ?_)
    refine lv_iload hx hb dX2_cut_81 (lv_at hl 0 rfl) ?_
    refine lv_if_eq (tgt := 118) hx hb dX2_cut_83 (by decide) (fun c9 => ?_) (fun c9 => ?_)
    · have hw := hw.1 c9
      refine lv_aload_n hx hb dX2_cut_118 rfl (lv_at hl 1 rfl) ?_
      refine va_get (D := (dC, dI)) (ci := 2) (v := .ref bR) (C := RX2) (T := TX2) (N := 16) hx hb hts hinX2 hown hK hP 0 rfl rfl 12 (by decide) (hts (.fieldLink RX2 42 "TileHandModel" "rest" "[I") (by decide +kernel)) (fun _ h9 => h9) rfl dX2_cut_119 ?_
      refine lv_iload_n hx hb dX2_cut_122 rfl (lv_at hl 3 rfl) ?_
      obtain ⟨h10, hw⟩ := hw
      refine va_iald hx hb hK hP 2 0 rfl rfl h10 dX2_cut_123 ?_
      refine lv_iconst (v := 3) hx hb dX2_cut_124 (by decide) ?_
      refine lv_icmp_ge (tgt := 130) hx hb dX2_cut_125 (by decide) (fun c11 => ?_) (fun c11 => ?_)
      · have hw := hw.1 c11
        exact L130 K30 hK30 v3 v4 s1 rM gM _ _ _ hw hP hD hS (lv_sub hl [1, 2, 3, 4, 0] rfl)
      · have hw := hw.2 c11
        refine lv_iconst (v := 0) hx hb dX2_cut_128 (by decide) ?_
        rw [← hQ9]
        exact W.zret (v := (0 : Int32)) hx hb hr rfl (fun t ht hW => ⟨⟨(0 : Int32), (rM, gM), rfl, hw, by rw [ht]; exact hP, va_K.moved hW.alike hK, hD⟩, hS.F ht⟩) hS.2.2 dX2_cut_129
    · have hw := hw.2 c9
      refine lv_iload_n hx hb dX2_cut_86 rfl (lv_at hl 3 rfl) ?_
      have hPc := hP.sub (ws' := []) [] rfl
      have hDc := hD.sub (ws' := []) [] (by decide) rfl
      have hFc := va_free (wc := []) hD hS hA [] rfl
      refine va_calli (va_runS (As := [.int v3]) (rest := []) ⟨hx, hb, hml, hown, hts⟩ (c_X2_beginsRow l dC dI cI cZ H.size v3 _ hw) (va_cwS 1 hts gX2_cut_X2_beginsRow rfl rfl rfl (by decide +kernel) ⟨Nat.le_of_ble_eq_true rfl, Nat.le_of_ble_eq_true rfl⟩) ⟨fun a U g mk q => by obtain ⟨q0, q1, qP, qK, qD⟩ := q; exact ⟨q0, q1, qP, va_K.moved (u := U) (U := U.calling g mk a) (Vm.Alike.refl U.vm) qK, qD⟩, fun U hU hW => ⟨rfl, by rw [hU], by rw [hU]; exact hPc, va_K.moved hW.alike hK, hDc.weaken (fun _ _ _ _ => trivial)⟩⟩ rfl rfl hl.1 rfl (lv_room (Nat.le_of_ble_eq_true rfl)) dX2_cut_87 ⟨Nat.le_of_ble_eq_true rfl, Nat.le_of_ble_eq_true rfl⟩) hS (fun q _ h => hFc q h) hFc (fun r22 u t H1 locs ht hvm hw hB hz1 hk1 hS => ?_)
      obtain ⟨hP1, -, hD1⟩ := hB
      have hw := And.intro hw trivial
      try dsimp only at hw
      have hw := hw.1
      rw [ht] at hP1
      obtain ⟨hP, hD⟩ := va_join (wr := [(y, .inr (2, [.int thr, .ref bH, .ref bS, .ref bL, .int mel, .ref bO, .ref bK, .ref bZ, .int sea, .int rnd, .int bas, .int lim, .ref bR, .ref bG, .ref bB, .ref bX])), (bH, .inl (cI, 34, .inl hM)), (bR, .inl (cI, 34, .inl rM)), (bG, .inl (cI, 4, .inl gM))]) (w1 := []) hP hD [] [0, 1, 2, 3] rfl rfl (by decide) (by decide) hk1 hFc hP1 hD1
      generalize H1 = H at hP hS ⊢
      have hP : va_P (dC, dI) vwCl [(y, .inr (2, [.int thr, .ref bH, .ref bS, .ref bL, .int mel, .ref bO, .ref bK, .ref bZ, .int sea, .int rnd, .int bas, .int lim, .ref bR, .ref bG, .ref bB, .ref bX])), (bH, .inl (cI, 34, .inl hM)), (bR, .inl (cI, 34, .inl rM)), (bG, .inl (cI, 4, .inl gM))] H := hP
      have hD : va_D A [(y, .inr (2, [.int thr, .ref bH, .ref bS, .ref bL, .int mel, .ref bO, .ref bK, .ref bZ, .int sea, .int rnd, .int bas, .int lim, .ref bR, .ref bG, .ref bB, .ref bX])), (bH, .inl (cI, 34, .inl hM)), (bR, .inl (cI, 34, .inl rM)), (bG, .inl (cI, 4, .inl gM))] := hD
      refine lv_if_eq (tgt := 128) hx hb dX2_cut_90 (by decide) (fun c23 => ?_) (fun c23 => ?_)
      · have hw := hw.1 c23
        refine lv_iconst (v := 0) hx hb dX2_cut_128 (by decide) ?_
        rw [← hQ9]
        exact W.zret (v := (0 : Int32)) hx hb hr rfl (fun t ht hW => ⟨⟨(0 : Int32), (rM, gM), rfl, hw, by rw [ht]; exact hP, va_K.moved hW.alike hK, hD⟩, hS.F ht⟩) hS.2.2 dX2_cut_129
      · have hw := hw.2 c23
        refine lv_aload_n hx hb dX2_cut_93 rfl (lv_at hl 1 rfl) ?_
        refine va_get (D := (dC, dI)) (ci := 2) (v := .ref bR) (C := RX2) (T := TX2) (N := 16) hx hb hts hinX2 hown hK hP 0 rfl rfl 12 (by decide) (hts (.fieldLink RX2 42 "TileHandModel" "rest" "[I") (by decide +kernel)) (fun _ h9 => h9) rfl dX2_cut_94 ?_
        refine lv_iload_n hx hb dX2_cut_97 rfl (lv_at hl 3 rfl) ?_
        refine lv_iconst (v := 1) hx hb dX2_cut_98 (by decide) ?_
        refine lv_iadd hx hb dX2_cut_99 ?_
        obtain ⟨h24, hw⟩ := hw
        refine va_iald hx hb hK hP 2 0 rfl rfl h24 dX2_cut_100 ?_
        refine lv_if_eq (tgt := 128) hx hb dX2_cut_101 (by decide) (fun c25 => ?_) (fun c25 => ?_)
        · have hw := hw.1 c25
          refine lv_iconst (v := 0) hx hb dX2_cut_128 (by decide) ?_
          rw [← hQ9]
          exact W.zret (v := (0 : Int32)) hx hb hr rfl (fun t ht hW => ⟨⟨(0 : Int32), (rM, gM), rfl, hw, by rw [ht]; exact hP, va_K.moved hW.alike hK, hD⟩, hS.F ht⟩) hS.2.2 dX2_cut_129
        · have hw := hw.2 c25
          refine lv_aload_n hx hb dX2_cut_104 rfl (lv_at hl 1 rfl) ?_
          refine va_get (D := (dC, dI)) (ci := 2) (v := .ref bR) (C := RX2) (T := TX2) (N := 16) hx hb hts hinX2 hown hK hP 0 rfl rfl 12 (by decide) (hts (.fieldLink RX2 42 "TileHandModel" "rest" "[I") (by decide +kernel)) (fun _ h9 => h9) rfl dX2_cut_105 ?_
          refine lv_iload_n hx hb dX2_cut_108 rfl (lv_at hl 3 rfl) ?_
          refine lv_iconst (v := 2) hx hb dX2_cut_109 (by decide) ?_
          refine lv_iadd hx hb dX2_cut_110 ?_
          obtain ⟨h26, hw⟩ := hw
          refine va_iald hx hb hK hP 2 0 rfl rfl h26 dX2_cut_111 ?_
          refine lv_if_ne (tgt := 130) hx hb dX2_cut_112 (by decide) (fun c27 => ?_) (fun c27 => ?_)
          · have hw := hw.2 c27
            exact L130 K30 hK30 v3 v4 s1 rM gM _ _ _ hw hP hD hS (lv_sub hl [1, 2, 3, 4, 0] rfl)
          · have hw := hw.1 c27
            exact L115 rM gM _ _ _ hw hP hD hS (lv_sub hl [1] rfl)
  have L30 : ∀ (n : Nat), ∀ (v3 : Int32) (v4 : Int32) (rM : (Nat → Int32)) (gM : (Nat → Int32)) (H : Heap) (locs : List Loc) (ls : Array Slot), w_X2_cut_b30 post mel hM p0 p1 n v3 v4 rM gM → va_P (dC, dI) vwCl [(y, .inr (2, [.int thr, .ref bH, .ref bS, .ref bL, .int mel, .ref bO, .ref bK, .ref bZ, .int sea, .int rnd, .int bas, .int lim, .ref bR, .ref bG, .ref bB, .ref bX])), (bH, .inl (cI, 34, .inl hM)), (bR, .inl (cI, 34, .inl rM)), (bG, .inl (cI, 4, .inl gM))] H → va_D A [(y, .inr (2, [.int thr, .ref bH, .ref bS, .ref bL, .int mel, .ref bO, .ref bK, .ref bZ, .int sea, .int rnd, .int bas, .int lim, .ref bR, .ref bG, .ref bB, .ref bX])), (bH, .inl (cI, 34, .inl hM)), (bR, .inl (cI, 34, .inl rM)), (bG, .inl (cI, 4, .inl gM))] → va_S A s.heap H locs → lv_has ls 6 [(0, .ref y), (2, .int p1), (3, .int v3), (4, .int v4)] → W p l e ({ frames := 2, cells := 0, slots := 0, locals := 40 } : Room) s m ([.ref y, .int p0, .int p1] : List Value).toArray below meth c H locs 0 0 Q9 (F0 m 30 ls []) := by
    intro n
    induction n with
    | zero => intro v3 v4 rM gM H locs ls hw _ _ _ _; exact False.elim hw
    | succ n ih =>
      intro v3 v4 rM gM H locs ls hw hP hD hS hl
      refine lv_iload_n hx hb dX2_cut_30 rfl (lv_at hl 2 rfl) ?_
      refine lv_bipush (v := 34) hx hb dX2_cut_31 (by decide) ?_
      refine lv_icmp_ge (tgt := 204) hx hb dX2_cut_33 (by decide) (fun c3 => ?_) (fun c3 => ?_)
      · have hw := hw.1 c3
        exact L204 v4 rM gM _ _ _ hw hP hD hS (lv_sub hl [0, 3] rfl)
      · have hw := hw.2 c3
        refine lv_aload_n hx hb dX2_cut_36 rfl (lv_at hl 0 rfl) ?_
        refine va_get (D := (dC, dI)) (ci := 2) (v := .ref bR) (C := RX2) (T := TX2) (N := 16) hx hb hts hinX2 hown hK hP 0 rfl rfl 12 (by decide) (hts (.fieldLink RX2 42 "TileHandModel" "rest" "[I") (by decide +kernel)) (fun _ h9 => h9) rfl dX2_cut_37 ?_
        refine lv_iload_n hx hb dX2_cut_40 rfl (lv_at hl 2 rfl) ?_
        obtain ⟨h5, hw⟩ := hw
        refine va_iald hx hb hK hP 2 0 rfl rfl h5 dX2_cut_41 ?_
        refine lv_if_ne (tgt := 51) hx hb dX2_cut_42 (by decide) (fun c6 => ?_) (fun c6 => ?_)
        · have hw := hw.2 c6
          refine lv_iload hx hb dX2_cut_51 (lv_at hl 3 rfl) ?_
          refine lv_iconst (v := 4) hx hb dX2_cut_53 (by decide) ?_
          refine lv_aload_n hx hb dX2_cut_54 rfl (lv_at hl 0 rfl) ?_
          refine va_get (D := (dC, dI)) (ci := 2) (v := .int mel) (C := RX2) (T := TX2) (N := 16) hx hb hts hinX2 hown hK hP 0 rfl rfl 4 (by decide) (hts (.fieldLink RX2 69 "TileHandModel" "melds" "I") (by decide +kernel)) (fun _ h9 => h9) rfl dX2_cut_55 ?_
          refine lv_isub hx hb dX2_cut_58 ?_
          refine lv_icmp_ne (tgt := 64) hx hb dX2_cut_59 (by decide) (fun c7 => ?_) (fun c7 => ?_)
          · have hw := hw.2 c7
            refine lv_iload_n hx hb dX2_cut_64 rfl (lv_at hl 1 rfl) ?_
            refine lv_iload hx hb dX2_cut_65 (lv_at hl 3 rfl) ?_
            refine lv_ishr hx hb dX2_cut_67 ?_
            refine lv_iconst (v := 1) hx hb dX2_cut_68 (by decide) ?_
            refine lv_iand hx hb dX2_cut_69 ?_
            refine lv_iconst (v := 1) hx hb dX2_cut_70 (by decide) ?_
            refine lv_icmp_ne (tgt := 78) hx hb dX2_cut_71 (by decide) (fun c8 => ?_) (fun c8 => ?_)
            · have hw := hw.2 c8
              refine lv_iconst (v := 0) hx hb dX2_cut_78 (by decide) ?_
              exact L79 (w_X2_cut_b30 post mel hM p0 p1 n) ih v3 v4 (0 : Int32) rM gM _ _ _ hw hP hD hS (lv_sub hl [0, 1, 2, 3] rfl)
            · have hw := hw.1 c8
              refine lv_iconst (v := 1) hx hb dX2_cut_74 (by decide) ?_
              refine lv_goto (tgt := 79) hx hb dX2_cut_75 (by decide) ?_
              exact L79 (w_X2_cut_b30 post mel hM p0 p1 n) ih v3 v4 (1 : Int32) rM gM _ _ _ hw hP hD hS (lv_sub hl [0, 1, 2, 3] rfl)
          · have hw := hw.1 c7
            refine lv_iconst (v := 0) hx hb dX2_cut_62 (by decide) ?_
            rw [← hQ9]
            exact W.zret (v := (0 : Int32)) hx hb hr rfl (fun t ht hW => ⟨⟨(0 : Int32), (rM, gM), rfl, hw, by rw [ht]; exact hP, va_K.moved hW.alike hK, hD⟩, hS.F ht⟩) hS.2.2 dX2_cut_63
        · have hw := hw.1 c6
          refine lv_iinc (v := v3 + 1) (lv' := [(3, .int (v3 + 1)), (0, .ref y), (2, .int p1), (4, .int v4)]) hx hb dX2_cut_45 hl (k := 2) rfl rfl (by decide) rfl (fun ls hl => ?_)
          refine lv_goto (tgt := 30) hx hb dX2_cut_48 (by decide) ?_
          exact ih (v3 + 1) v4 rM gM _ _ _ hw hP hD hS (lv_sub hl [1, 2, 0, 3] rfl)
  refine lv_aload_n hx hb dX2_cut_0 rfl (lv_at hl 0 rfl) ?_
  refine va_get (D := (dC, dI)) (ci := 2) (v := .ref bH) (C := RX2) (T := TX2) (N := 16) hx hb hts hinX2 hown hK hP 0 rfl rfl 1 (by decide) (hts (.fieldLink RX2 9 "TileHandModel" "hand" "[I") (by decide +kernel)) (fun _ h9 => h9) rfl dX2_cut_1 ?_
  refine lv_iconst (v := 0) hx hb dX2_cut_4 (by decide) ?_
  refine lv_aload_n hx hb dX2_cut_5 rfl (lv_at hl 0 rfl) ?_
  refine va_get (D := (dC, dI)) (ci := 2) (v := .ref bR) (C := RX2) (T := TX2) (N := 16) hx hb hts hinX2 hown hK hP 0 rfl rfl 12 (by decide) (hts (.fieldLink RX2 42 "TileHandModel" "rest" "[I") (by decide +kernel)) (fun _ h9 => h9) rfl dX2_cut_6 ?_
  refine lv_iconst (v := 0) hx hb dX2_cut_9 (by decide) ?_
  refine lv_bipush (v := 34) hx hb dX2_cut_10 (by decide) ?_
  refine va_copyi (ty := .int) (sp := (0 : Int32)) (dp := (0 : Int32)) (n := (34 : Int32)) hx hb (hml.trans hl.1.symm) hown (hts (.methodLink RX2 96 arraycopyName) (by decide +kernel)) (hts (.native arraycopyName) (by decide +kernel)) (hts (.static arraycopyName) (by decide +kernel)) (hts (.initialized "java/lang/System") (by decide +kernel)) hK hP hD hS 1 2 0 0 rfl rfl rfl rfl rfl (by decide) (by decide) (by decide) (by decide) (by decide) (fun _ _ => rfl) (Nat.le_of_ble_eq_true rfl) (Nat.le_of_ble_eq_true rfl) dX2_cut_12 (fun H locs hP hD hS => ?_)
  have hP : va_P (dC, dI) vwCl [(y, .inr (2, [.int thr, .ref bH, .ref bS, .ref bL, .int mel, .ref bO, .ref bK, .ref bZ, .int sea, .int rnd, .int bas, .int lim, .ref bR, .ref bG, .ref bB, .ref bX])), (bH, .inl (cI, 34, .inl hM)), (bR, .inl (cI, 34, .inl (va_cpy hM rM ((0 : Int32)).toNatClampNeg ((0 : Int32)).toNatClampNeg ((34 : Int32)).toNatClampNeg))), (bG, .inl (cI, 4, .inl gM))] H := hP
  have hD : va_D A [(y, .inr (2, [.int thr, .ref bH, .ref bS, .ref bL, .int mel, .ref bO, .ref bK, .ref bZ, .int sea, .int rnd, .int bas, .int lim, .ref bR, .ref bG, .ref bB, .ref bX])), (bH, .inl (cI, 34, .inl hM)), (bR, .inl (cI, 34, .inl (va_cpy hM rM ((0 : Int32)).toNatClampNeg ((0 : Int32)).toNatClampNeg ((34 : Int32)).toNatClampNeg))), (bG, .inl (cI, 4, .inl gM))] := hD
  refine lv_aload_n hx hb dX2_cut_15 rfl (lv_at hl 0 rfl) ?_
  refine va_get (D := (dC, dI)) (ci := 2) (v := .ref bR) (C := RX2) (T := TX2) (N := 16) hx hb hts hinX2 hown hK hP 0 rfl rfl 12 (by decide) (hts (.fieldLink RX2 42 "TileHandModel" "rest" "[I") (by decide +kernel)) (fun _ h9 => h9) rfl dX2_cut_16 ?_
  refine lv_iload_n hx hb dX2_cut_19 rfl (lv_at hl 1 rfl) ?_
  refine lv_dup2_11 hx hb dX2_cut_20 rfl rfl ?_
  obtain ⟨h1, hw⟩ := hw
  refine va_iald hx hb hK hP 2 0 rfl rfl h1 dX2_cut_21 ?_
  refine lv_iconst (v := 2) hx hb dX2_cut_22 (by decide) ?_
  refine lv_isub hx hb dX2_cut_23 ?_
  obtain ⟨h2, hw⟩ := hw
  refine va_iast hx hb hK hP hD hS 2 0 rfl rfl h2 dX2_cut_24 (fun H locs hP hD hS => ?_)
  have hP : va_P (dC, dI) vwCl [(y, .inr (2, [.int thr, .ref bH, .ref bS, .ref bL, .int mel, .ref bO, .ref bK, .ref bZ, .int sea, .int rnd, .int bas, .int lim, .ref bR, .ref bG, .ref bB, .ref bX])), (bH, .inl (cI, 34, .inl hM)), (bR, .inl (cI, 34, .inl (upd (va_cpy hM rM ((0 : Int32)).toNatClampNeg ((0 : Int32)).toNatClampNeg ((34 : Int32)).toNatClampNeg) p0.toNatClampNeg (((va_cpy hM rM ((0 : Int32)).toNatClampNeg ((0 : Int32)).toNatClampNeg ((34 : Int32)).toNatClampNeg) p0.toNatClampNeg) - (2 : Int32))))), (bG, .inl (cI, 4, .inl gM))] H := hP
  have hD : va_D A [(y, .inr (2, [.int thr, .ref bH, .ref bS, .ref bL, .int mel, .ref bO, .ref bK, .ref bZ, .int sea, .int rnd, .int bas, .int lim, .ref bR, .ref bG, .ref bB, .ref bX])), (bH, .inl (cI, 34, .inl hM)), (bR, .inl (cI, 34, .inl (upd (va_cpy hM rM ((0 : Int32)).toNatClampNeg ((0 : Int32)).toNatClampNeg ((34 : Int32)).toNatClampNeg) p0.toNatClampNeg (((va_cpy hM rM ((0 : Int32)).toNatClampNeg ((0 : Int32)).toNatClampNeg ((34 : Int32)).toNatClampNeg) p0.toNatClampNeg) - (2 : Int32))))), (bG, .inl (cI, 4, .inl gM))] := hD
  refine lv_iconst (v := 0) hx hb dX2_cut_25 (by decide) ?_
  refine lv_istore_n (lv' := [(3, .int (0 : Int32)), (0, .ref y), (1, .int p0), (2, .int p1)]) hx hb dX2_cut_26 rfl hl (by decide) rfl (fun ls hl => ?_)
  refine lv_iconst (v := 0) hx hb dX2_cut_27 (by decide) ?_
  refine lv_istore (lv' := [(4, .int (0 : Int32)), (3, .int (0 : Int32)), (0, .ref y), (1, .int p0), (2, .int p1)]) hx hb dX2_cut_28 hl (by decide) rfl (fun ls hl => ?_)
  obtain ⟨n9, hw⟩ := hw
  exact L30 n9 (0 : Int32) (0 : Int32) (upd (va_cpy hM rM ((0 : Int32)).toNatClampNeg ((0 : Int32)).toNatClampNeg ((34 : Int32)).toNatClampNeg) p0.toNatClampNeg (((va_cpy hM rM ((0 : Int32)).toNatClampNeg ((0 : Int32)).toNatClampNeg ((34 : Int32)).toNatClampNeg) p0.toNatClampNeg) - (2 : Int32))) gM _ _ _ hw hP hD hS (lv_sub hl [2, 4, 1, 0] rfl)
