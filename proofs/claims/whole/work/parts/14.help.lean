/-- which exception is none of another class -/
def nck (U : State) : Prop := va_Nc "java/lang/IndexOutOfBoundsException" "java/lang/IllegalArgumentException" U ∧ va_Nc "java/lang/IndexOutOfBoundsException" "java/lang/IllegalStateException" U ∧ va_Nc "java/lang/IllegalArgumentException" "java/lang/IndexOutOfBoundsException" U ∧ va_Nc "java/lang/IllegalArgumentException" "java/lang/IllegalStateException" U ∧ va_Nc "java/lang/IllegalStateException" "java/lang/IndexOutOfBoundsException" U ∧ va_Nc "java/lang/IllegalStateException" "java/lang/IllegalArgumentException" U
theorem nck_01 {U : State} (h : nck U) : va_Nc "java/lang/IndexOutOfBoundsException" "java/lang/IllegalArgumentException" U := h.1
theorem nck_02 {U : State} (h : nck U) : va_Nc "java/lang/IndexOutOfBoundsException" "java/lang/IllegalStateException" U := h.2.1
theorem nck_10 {U : State} (h : nck U) : va_Nc "java/lang/IllegalArgumentException" "java/lang/IndexOutOfBoundsException" U := h.2.2.1
theorem nck_12 {U : State} (h : nck U) : va_Nc "java/lang/IllegalArgumentException" "java/lang/IllegalStateException" U := h.2.2.2.1
theorem nck_20 {U : State} (h : nck U) : va_Nc "java/lang/IllegalStateException" "java/lang/IndexOutOfBoundsException" U := h.2.2.2.2.1
theorem nck_21 {U : State} (h : nck U) : va_Nc "java/lang/IllegalStateException" "java/lang/IllegalArgumentException" U := h.2.2.2.2.2
theorem nck_moved {u U : State} (hvm : u.vm.Alike U.vm) (h : nck u) : nck U := ⟨(nck_01 h).moved hvm, (nck_02 h).moved hvm, (nck_10 h).moved hvm, (nck_12 h).moved hvm, (nck_20 h).moved hvm, (nck_21 h).moved hvm⟩
def w_L_draw (tcn : Int32) (mcn : Int32) (hd : (Nat → Int32)) (la : (Nat → Int32)) (se : (Nat → Int32)) (ou : (Nat → Int64)) (p0 : Int32) (post : Int32 → Int32 → (Nat → Int32) → (Nat → Int64) → Prop) : Prop := ((w_X1_draw tcn mcn hd la se p0 (fun r1 tcn_2 hd_3 => (vp_in (0 : Int32) 1 ∧ (post (0 : Int32) tcn_2 hd_3 (vp_updL ou (0 : Int32).toNatClampNeg r1.toInt64))))) ∨ (w_X1_draw_x tcn mcn hd la se p0 (fun E5 tcn_2 hd_3 => ((E5 = "java/lang/IndexOutOfBoundsException" ∧ (post (1 : Int32) tcn_2 hd_3 ou)) ∨ (E5 = "java/lang/IllegalStateException" ∧ (post (2 : Int32) tcn_2 hd_3 ou))))))

set_option maxHeartbeats 4000000 in
set_option maxRecDepth 100000 in
theorem c_L_draw (l : Launch) (hl9 : l.stackTraces = false) (dC : Nat → ClassId) (dI : Nat → Nat → Nat) (cI cZ cJ : ClassId) (x : Nat) (aH : Nat) (aL : Nat) (aS : Nat) (aO : Nat) (aK : Nat) (aZ : Nat) (cv : Nat) (aQ : Nat) (sz : Nat) (tcn : Int32) (mcn : Int32) (swd : Int32) (rwd : Int32) (bpt : Int32) (flm : Int32) (hd : (Nat → Int32)) (la : (Nat → Int32)) (se : (Nat → Int32)) (ou : (Nat → Int64)) (p0 : Int32) (post : Int32 → Int32 → (Nat → Int32) → (Nat → Int64) → Prop) (hw : w_L_draw tcn mcn hd la se ou p0 post) : Met l yL_draw wsL_draw ({ frames := 8, cells := 1, slots := 6, locals := 152 } : Room) (va_Pc [.ref x, .int p0, .ref aQ] (fun U => U.heap.size = sz ∧ va_P (dC, dI) vwCl [(x, .inr (1, [.ref aH, .ref aL, .ref aS, .ref aO, .ref aK, .ref aZ, .ref cv, .int tcn, .int mcn, .int swd, .int rwd, .int bpt, .int flm])), (aH, .inl (cI, 34, .inl hd)), (aL, .inl (cI, 34, .inl la)), (aS, .inl (cI, 34, .inl se)), (aQ, .inl (cJ, 1, .inr (.inl ou)))] U.heap ∧ va_K (dC, dI) vwCl [(cI, .int), (cZ, .boolean), (cJ, .long)] U ∧ va_D (fun _ => True) [(x, .inr (1, [.ref aH, .ref aL, .ref aS, .ref aO, .ref aK, .ref aZ, .ref cv, .int tcn, .int mcn, .int swd, .int rwd, .int bpt, .int flm])), (aH, .inl (cI, 34, .inl hd)), (aL, .inl (cI, 34, .inl la)), (aS, .inl (cI, 34, .inl se)), (aQ, .inl (cJ, 1, .inr (.inl ou)))] ∧ nck U ∧ xk (va_A [(x, .inr (1, [.ref aH, .ref aL, .ref aS, .ref aO, .ref aK, .ref aZ, .ref cv, .int tcn, .int mcn, .int swd, .int rwd, .int bpt, .int flm])), (aH, .inl (cI, 34, .inl hd)), (aL, .inl (cI, 34, .inl la)), (aS, .inl (cI, 34, .inl se)), (aQ, .inl (cJ, 1, .inr (.inl ou)))] sz) U)) (va_Qi (fun (r9 : Int32) (u9 : Int32 × (Nat → Int32) × (Nat → Int64)) => post r9 u9.1 u9.2.1 u9.2.2) (fun (u9 : Int32 × (Nat → Int32) × (Nat → Int64)) (t9 : State) => va_P (dC, dI) vwCl [(x, .inr (1, [.ref aH, .ref aL, .ref aS, .ref aO, .ref aK, .ref aZ, .ref cv, .int u9.1, .int mcn, .int swd, .int rwd, .int bpt, .int flm])), (aH, .inl (cI, 34, .inl u9.2.1)), (aL, .inl (cI, 34, .inl la)), (aS, .inl (cI, 34, .inl se)), (aQ, .inl (cJ, 1, .inr (.inl u9.2.2)))] t9.heap ∧ va_K (dC, dI) vwCl [(cI, .int), (cZ, .boolean), (cJ, .long)] t9 ∧ va_D (va_A [(x, .inr (1, [.ref aH, .ref aL, .ref aS, .ref aO, .ref aK, .ref aZ, .ref cv, .int tcn, .int mcn, .int swd, .int rwd, .int bpt, .int flm])), (aH, .inl (cI, 34, .inl hd)), (aL, .inl (cI, 34, .inl la)), (aS, .inl (cI, 34, .inl se)), (aQ, .inl (cJ, 1, .inr (.inl ou)))] sz) [(x, .inr (1, [.ref aH, .ref aL, .ref aS, .ref aO, .ref aK, .ref aZ, .ref cv, .int u9.1, .int mcn, .int swd, .int rwd, .int bpt, .int flm])), (aH, .inl (cI, 34, .inl u9.2.1)), (aL, .inl (cI, 34, .inl la)), (aS, .inl (cI, 34, .inl se)), (aQ, .inl (cJ, 1, .inr (.inl u9.2.2)))]) (va_A [(x, .inr (1, [.ref aH, .ref aL, .ref aS, .ref aO, .ref aK, .ref aZ, .ref cv, .int tcn, .int mcn, .int swd, .int rwd, .int bpt, .int flm])), (aH, .inl (cI, 34, .inl hd)), (aL, .inl (cI, 34, .inl la)), (aS, .inl (cI, 34, .inl se)), (aQ, .inl (cJ, 1, .inr (.inl ou)))] sz)) 1 6 (va_A [(x, .inr (1, [.ref aH, .ref aL, .ref aS, .ref aO, .ref aK, .ref aZ, .ref cv, .int tcn, .int mcn, .int swd, .int rwd, .int bpt, .int flm])), (aH, .inl (cI, 34, .inl hd)), (aL, .inl (cI, 34, .inl la)), (aS, .inl (cI, 34, .inl se)), (aQ, .inl (cJ, 1, .inr (.inl ou)))] sz) := by
  refine va_MetW (cc := cL_draw) (maxL := 4) (ret := (some .int)) (by decide) rfl ?_
  intro p e s m args below meth c s₁ B hml hv
  obtain ⟨rfl, hsz, hP, hK, hD0, hnc, hxk⟩ := hv
  have hx := B.exec
  have hb := B.bytes
  have hr := B.returns
  have hts := atoms_spec (ws := wsL_draw) B.pre
  have hown : s.vm.findClass RL = some m.cls := findClass_of_methodNamed B.named
  have hlocks := B.notSynchronized
  have hinX1 : ∀ w ∈ u_ws RX1 TX1 13, w ∈ wsL_draw := by decide +kernel
  have hTab := vx_table (x := yL_draw) B (hts (.codeWith yL_draw cL_draw 4 (some .int) [(0, 9, 12, 13), (0, 9, 15, 15)]) (by decide +kernel))
  have hK2 := hK.sub (tys' := [(cI, .int), (cZ, .boolean)]) [0, 1] rfl
  subst hsz
  have hD := hD0.self (sz := s.heap.size)
  generalize hAe : va_A [(x, .inr (1, [.ref aH, .ref aL, .ref aS, .ref aO, .ref aK, .ref aZ, .ref cv, .int tcn, .int mcn, .int swd, .int rwd, .int bpt, .int flm])), (aH, .inl (cI, 34, .inl hd)), (aL, .inl (cI, 34, .inl la)), (aS, .inl (cI, 34, .inl se)), (aQ, .inl (cJ, 1, .inr (.inl ou)))] s.heap.size = A at hD hxk ⊢
  have hA : ∀ q : Nat, s.heap.size ≤ q → A q := fun q h => by rw [← hAe]; exact Or.inr h
  have hS : va_S A s.heap s.heap [] := va_S.rf
  have hl := lv_entry ([.ref x, .int p0, .ref aQ]) (n := 4) (Nat.le_of_ble_eq_true rfl)
  rw [lg_entry_eq]
  generalize (lg_sl ([.ref x, .int p0, .ref aQ]) ++ List.replicate (4 - (lg_sl ([.ref x, .int p0, .ref aQ])).length) Slot.unset).toArray = ls at hl ⊢
  have hl : lv_has ls 4 [(0, .ref x), (1, .int p0), (2, .ref aQ)] := hl
  refine (?_ : ∀ Q9 : State → Prop, MQ below _ _ s _ _ _ = Q9 → W p l e ({ frames := 8, cells := 1, slots := 6, locals := 152 } : Room) s m _ below meth c s.heap [] 0 0 Q9 (F0 m 0 ls [])) _ rfl
  intro Q9 hQ9
  have hw : ((w_X1_draw tcn mcn hd la se p0 (fun r1 tcn_2 hd_3 => (vp_in (0 : Int32) 1 ∧ (post (0 : Int32) tcn_2 hd_3 (vp_updL ou (0 : Int32).toNatClampNeg r1.toInt64))))) ∨ (w_X1_draw_x tcn mcn hd la se p0 (fun E5 tcn_2 hd_3 => ((E5 = "java/lang/IndexOutOfBoundsException" ∧ (post (1 : Int32) tcn_2 hd_3 ou)) ∨ (E5 = "java/lang/IllegalStateException" ∧ (post (2 : Int32) tcn_2 hd_3 ou)))))) := hw
  refine lv_aload_n hx hb dL_draw_0 rfl (lv_at hl 2 rfl) ?_
  refine lv_iconst (v := 0) hx hb dL_draw_1 (by decide) ?_
  refine lv_aload_n hx hb dL_draw_2 rfl (lv_at hl 0 rfl) ?_
  refine lv_iload_n hx hb dL_draw_3 rfl (lv_at hl 1 rfl) ?_
  have hPc := hP.sub (ws' := [(x, .inr (1, [.ref aH, .ref aL, .ref aS, .ref aO, .ref aK, .ref aZ, .ref cv, .int tcn, .int mcn, .int swd, .int rwd, .int bpt, .int flm])), (aH, .inl (cI, 34, .inl hd)), (aL, .inl (cI, 34, .inl la)), (aS, .inl (cI, 34, .inl se))]) [0, 1, 2, 3] rfl
  have hDc := hD.sub (ws' := [(x, .inr (1, [.ref aH, .ref aL, .ref aS, .ref aO, .ref aK, .ref aZ, .ref cv, .int tcn, .int mcn, .int swd, .int rwd, .int bpt, .int flm])), (aH, .inl (cI, 34, .inl hd)), (aL, .inl (cI, 34, .inl la)), (aS, .inl (cI, 34, .inl se))]) [0, 1, 2, 3] (by decide) rfl
  have hFc := va_free (wc := [(x, .inr (1, [.ref aH, .ref aL, .ref aS, .ref aO, .ref aK, .ref aZ, .ref cv, .int tcn, .int mcn, .int swd, .int rwd, .int bpt, .int flm])), (aH, .inl (cI, 34, .inl hd)), (aL, .inl (cI, 34, .inl la)), (aS, .inl (cI, 34, .inl se))]) hD hS hA [0, 1, 2, 3] rfl
  rcases hw with hw | hw
  · refine va_calli (va_runV (As := [.int p0]) (rest := [.int (0 : Int32), .ref aQ]) ⟨hx, hb, hml, hown, hts⟩ (c_X1_draw l dC dI cI cZ x aH aL aS aO aK aZ cv s.heap.size tcn mcn swd rwd bpt flm hd la se p0 _ hw) (cwV 1 hts gL_draw_X1_draw rfl rfl rfl (by decide +kernel) ⟨Nat.le_of_ble_eq_true rfl, Nat.le_of_ble_eq_true rfl⟩) ⟨fun a U g mk q => by obtain ⟨q0, q1, qP, qK, qD⟩ := q; exact ⟨q0, q1, qP, va_K.moved (u := U) (U := U.calling g mk a) (Vm.Alike.refl U.vm) qK, qD⟩, va_recv hK2 hPc (ci := 1) (q0 := 0) rfl rfl, fun U hU hW => ⟨rfl, by rw [hU], by rw [hU]; exact hPc, va_K.moved hW.alike hK2, hDc.weaken (fun _ _ _ _ => trivial)⟩⟩ rfl rfl hl.1 rfl (lv_room (Nat.le_of_ble_eq_true rfl)) dL_draw_4 ⟨Nat.le_of_ble_eq_true rfl, Nat.le_of_ble_eq_true rfl⟩) hS (fun q _ h => hFc q h) hFc (fun r1 u t H1 locs ht hvm hw hB hz1 hk1 hS => ?_)
    obtain ⟨tcn_2, hd_3⟩ := u
    obtain ⟨hP1, -, hD1⟩ := hB
    have hw := And.intro hw trivial
    try dsimp only at hw
    have hw := hw.1
    rw [ht] at hP1
    obtain ⟨hP, hD⟩ := va_join (wr := [(aQ, .inl (cJ, 1, .inr (.inl ou)))]) (w1 := [(x, .inr (1, [.ref aH, .ref aL, .ref aS, .ref aO, .ref aK, .ref aZ, .ref cv, .int tcn_2, .int mcn, .int swd, .int rwd, .int bpt, .int flm])), (aH, .inl (cI, 34, .inl hd_3)), (aL, .inl (cI, 34, .inl la)), (aS, .inl (cI, 34, .inl se))]) hP hD [0, 1, 2, 3] [4] rfl rfl (by decide) (by decide) hk1 hFc hP1 hD1
    generalize H1 = H at hP hS ⊢
    have hP : va_P (dC, dI) vwCl [(aQ, .inl (cJ, 1, .inr (.inl ou))), (x, .inr (1, [.ref aH, .ref aL, .ref aS, .ref aO, .ref aK, .ref aZ, .ref cv, .int tcn_2, .int mcn, .int swd, .int rwd, .int bpt, .int flm])), (aH, .inl (cI, 34, .inl hd_3)), (aL, .inl (cI, 34, .inl la)), (aS, .inl (cI, 34, .inl se))] H := hP
    have hD : va_D A [(aQ, .inl (cJ, 1, .inr (.inl ou))), (x, .inr (1, [.ref aH, .ref aL, .ref aS, .ref aO, .ref aK, .ref aZ, .ref cv, .int tcn_2, .int mcn, .int swd, .int rwd, .int bpt, .int flm])), (aH, .inl (cI, 34, .inl hd_3)), (aL, .inl (cI, 34, .inl la)), (aS, .inl (cI, 34, .inl se))] := hD
    refine lv_i2l (v := r1.toInt64) hx hb dL_draw_7 rfl ?_
    obtain ⟨h4, hw⟩ := hw
    refine va_last hx hb hK hP hD hS 0 2 rfl rfl h4 dL_draw_8 (fun H locs hP hD hS => ?_)
    have hP : va_P (dC, dI) vwCl [(aQ, .inl (cJ, 1, .inr (.inl (vp_updL ou (0 : Int32).toNatClampNeg r1.toInt64)))), (x, .inr (1, [.ref aH, .ref aL, .ref aS, .ref aO, .ref aK, .ref aZ, .ref cv, .int tcn_2, .int mcn, .int swd, .int rwd, .int bpt, .int flm])), (aH, .inl (cI, 34, .inl hd_3)), (aL, .inl (cI, 34, .inl la)), (aS, .inl (cI, 34, .inl se))] H := hP
    have hD : va_D A [(aQ, .inl (cJ, 1, .inr (.inl (vp_updL ou (0 : Int32).toNatClampNeg r1.toInt64)))), (x, .inr (1, [.ref aH, .ref aL, .ref aS, .ref aO, .ref aK, .ref aZ, .ref cv, .int tcn_2, .int mcn, .int swd, .int rwd, .int bpt, .int flm])), (aH, .inl (cI, 34, .inl hd_3)), (aL, .inl (cI, 34, .inl la)), (aS, .inl (cI, 34, .inl se))] := hD
    refine lv_goto (tgt := 18) hx hb dL_draw_9 (by decide) ?_
    refine lv_iconst (v := 0) hx hb dL_draw_18 (by decide) ?_
    have hP9 := hP.sub (ws' := [(x, .inr (1, [.ref aH, .ref aL, .ref aS, .ref aO, .ref aK, .ref aZ, .ref cv, .int tcn_2, .int mcn, .int swd, .int rwd, .int bpt, .int flm])), (aH, .inl (cI, 34, .inl hd_3)), (aL, .inl (cI, 34, .inl la)), (aS, .inl (cI, 34, .inl se)), (aQ, .inl (cJ, 1, .inr (.inl (vp_updL ou (0 : Int32).toNatClampNeg r1.toInt64))))]) [1, 2, 3, 4, 0] rfl
    have hD9 := hD.sub (ws' := [(x, .inr (1, [.ref aH, .ref aL, .ref aS, .ref aO, .ref aK, .ref aZ, .ref cv, .int tcn_2, .int mcn, .int swd, .int rwd, .int bpt, .int flm])), (aH, .inl (cI, 34, .inl hd_3)), (aL, .inl (cI, 34, .inl la)), (aS, .inl (cI, 34, .inl se)), (aQ, .inl (cJ, 1, .inr (.inl (vp_updL ou (0 : Int32).toNatClampNeg r1.toInt64))))]) [1, 2, 3, 4, 0] (by decide) rfl
    refine W.widen (k := 1) (n := 6) (by omega) (by omega) ?_
    rw [← hQ9]
    exact W.iret (v := (0 : Int32)) hx hb hr (fun t ht hW => ⟨⟨(0 : Int32), (tcn_2, hd_3, vp_updL ou (0 : Int32).toNatClampNeg r1.toInt64), rfl, hw, by rw [ht]; exact hP9, va_K.moved hW.alike hK, hD9⟩, hS.F ht⟩) hS.2.2 dL_draw_19
  · refine vx_calli (vx_runV (As := [.int p0]) (rest := [.int (0 : Int32), .ref aQ]) ⟨hx, hb, hml, hown, hts⟩ (c_X1_draw_x l hl9 dC dI cI cZ x aH aL aS aO aK aZ cv s.heap.size tcn mcn swd rwd bpt flm hd la se p0 _ hw) (cwV 1 hts gL_draw_X1_draw rfl rfl rfl (by decide +kernel) ⟨Nat.le_of_ble_eq_true rfl, Nat.le_of_ble_eq_true rfl⟩) ⟨fun a U g mk q => by obtain ⟨q0, q1, qP, qK, qD, qX⟩ := q; exact ⟨q0, q1, qP, va_K.moved (u := U) (U := U.calling g mk a) (Vm.Alike.refl U.vm) qK, qD, xk_same rfl rfl qX⟩, va_recv hK2 hPc (ci := 1) (q0 := 0) rfl rfl, fun U hU hW => ⟨rfl, by rw [hU], by rw [hU]; exact hPc, va_K.moved hW.alike hK2, hDc.weaken (fun _ _ _ _ => trivial), xk_call hS hU hW (fun q h => hFc q h) hxk⟩⟩ rfl rfl hl.1 rfl (lv_room (Nat.le_of_ble_eq_true rfl)) dL_draw_4 ⟨Nat.le_of_ble_eq_true rfl, Nat.le_of_ble_eq_true rfl⟩) hS (fun q _ h => hFc q h) hFc (fun q _ h => hFc q h) (fun E ce qe9 u t H1 locs ht hvm hw hB hz1 hk1 hS hce hcv hcl => ?_) (fun r1 u t H1 locs ht hvm hw hB hz1 hk1 hS => False.elim hw)
    obtain ⟨E5, tcn_2, hd_3⟩ := u
    obtain ⟨hE9, hP1, -, hD1⟩ := hB
    try dsimp only at hw
    rw [ht] at hP1
    obtain ⟨hP, hD⟩ := va_join (wr := [(aQ, .inl (cJ, 1, .inr (.inl ou)))]) (w1 := [(x, .inr (1, [.ref aH, .ref aL, .ref aS, .ref aO, .ref aK, .ref aZ, .ref cv, .int tcn_2, .int mcn, .int swd, .int rwd, .int bpt, .int flm])), (aH, .inl (cI, 34, .inl hd_3)), (aL, .inl (cI, 34, .inl la)), (aS, .inl (cI, 34, .inl se))]) hP hD [0, 1, 2, 3] [4] rfl rfl (by decide) (by decide) hk1 hFc hP1 hD1
    generalize H1 = H at hP hS hce ⊢
    have hP : va_P (dC, dI) vwCl [(aQ, .inl (cJ, 1, .inr (.inl ou))), (x, .inr (1, [.ref aH, .ref aL, .ref aS, .ref aO, .ref aK, .ref aZ, .ref cv, .int tcn_2, .int mcn, .int swd, .int rwd, .int bpt, .int flm])), (aH, .inl (cI, 34, .inl hd_3)), (aL, .inl (cI, 34, .inl la)), (aS, .inl (cI, 34, .inl se))] H := hP
    have hD : va_D A [(aQ, .inl (cJ, 1, .inr (.inl ou))), (x, .inr (1, [.ref aH, .ref aL, .ref aS, .ref aO, .ref aK, .ref aZ, .ref cv, .int tcn_2, .int mcn, .int swd, .int rwd, .int bpt, .int flm])), (aH, .inl (cI, 34, .inl hd_3)), (aL, .inl (cI, 34, .inl la)), (aS, .inl (cI, 34, .inl se))] := hD
    rcases hw with ⟨hq, hw⟩ | ⟨hq, hw⟩
    · have hE := hE9.trans hq
      try dsimp only at hE
      subst hE
      refine vx_catch (own := RL) (name := "java/lang/IndexOutOfBoundsException") (E := "java/lang/IndexOutOfBoundsException") hown [] ⟨0, 9, 12, 13⟩ [⟨0, 9, 15, 15⟩] (by rw [hTab]; rfl) (fun z hz => nomatch hz) (by decide) (by decide) (hts (.classLink RL 13 "java/lang/IndexOutOfBoundsException") (by decide +kernel)) (va_Nw.use rfl (xk_c1 hxk)) hce hcv hcl ?_
      refine lv_astore_n (lv' := [(3, .ref qe9), (0, .ref x), (1, .int p0), (2, .ref aQ)]) hx hb dL_draw_12 rfl hl (by decide) rfl (fun ls hl => ?_)
      refine lv_iconst (v := 1) hx hb dL_draw_13 (by decide) ?_
      have hP9 := hP.sub (ws' := [(x, .inr (1, [.ref aH, .ref aL, .ref aS, .ref aO, .ref aK, .ref aZ, .ref cv, .int tcn_2, .int mcn, .int swd, .int rwd, .int bpt, .int flm])), (aH, .inl (cI, 34, .inl hd_3)), (aL, .inl (cI, 34, .inl la)), (aS, .inl (cI, 34, .inl se)), (aQ, .inl (cJ, 1, .inr (.inl ou)))]) [1, 2, 3, 4, 0] rfl
      have hD9 := hD.sub (ws' := [(x, .inr (1, [.ref aH, .ref aL, .ref aS, .ref aO, .ref aK, .ref aZ, .ref cv, .int tcn_2, .int mcn, .int swd, .int rwd, .int bpt, .int flm])), (aH, .inl (cI, 34, .inl hd_3)), (aL, .inl (cI, 34, .inl la)), (aS, .inl (cI, 34, .inl se)), (aQ, .inl (cJ, 1, .inr (.inl ou)))]) [1, 2, 3, 4, 0] (by decide) rfl
      rw [← hQ9]
      exact W.iret (v := (1 : Int32)) hx hb hr (fun t ht hW => ⟨⟨(1 : Int32), (tcn_2, hd_3, ou), rfl, hw, by rw [ht]; exact hP9, va_K.moved hW.alike hK, hD9⟩, hS.F ht⟩) hS.2.2 dL_draw_14
    · have hE := hE9.trans hq
      try dsimp only at hE
      subst hE
      refine vx_catch (own := RL) (name := "java/lang/IllegalStateException") (E := "java/lang/IllegalStateException") hown [⟨0, 9, 12, 13⟩] ⟨0, 9, 15, 15⟩ [] (by rw [hTab]; rfl) (by
          intro z hz
          rcases List.mem_cons.mp hz with rfl | hz
          · exact Or.inr ⟨by decide, "java/lang/IndexOutOfBoundsException", hts (.classLink RL 13 "java/lang/IndexOutOfBoundsException") (by decide +kernel), nck_20 hnc⟩
          cases hz) (by decide) (by decide) (hts (.classLink RL 15 "java/lang/IllegalStateException") (by decide +kernel)) (va_Nw.use rfl (xk_c3 hxk)) hce hcv hcl ?_
      refine lv_astore_n (lv' := [(3, .ref qe9), (0, .ref x), (1, .int p0), (2, .ref aQ)]) hx hb dL_draw_15 rfl hl (by decide) rfl (fun ls hl => ?_)
      refine lv_iconst (v := 2) hx hb dL_draw_16 (by decide) ?_
      have hP9 := hP.sub (ws' := [(x, .inr (1, [.ref aH, .ref aL, .ref aS, .ref aO, .ref aK, .ref aZ, .ref cv, .int tcn_2, .int mcn, .int swd, .int rwd, .int bpt, .int flm])), (aH, .inl (cI, 34, .inl hd_3)), (aL, .inl (cI, 34, .inl la)), (aS, .inl (cI, 34, .inl se)), (aQ, .inl (cJ, 1, .inr (.inl ou)))]) [1, 2, 3, 4, 0] rfl
      have hD9 := hD.sub (ws' := [(x, .inr (1, [.ref aH, .ref aL, .ref aS, .ref aO, .ref aK, .ref aZ, .ref cv, .int tcn_2, .int mcn, .int swd, .int rwd, .int bpt, .int flm])), (aH, .inl (cI, 34, .inl hd_3)), (aL, .inl (cI, 34, .inl la)), (aS, .inl (cI, 34, .inl se)), (aQ, .inl (cJ, 1, .inr (.inl ou)))]) [1, 2, 3, 4, 0] (by decide) rfl
      rw [← hQ9]
      exact W.iret (v := (2 : Int32)) hx hb hr (fun t ht hW => ⟨⟨(2 : Int32), (tcn_2, hd_3, ou), rfl, hw, by rw [ht]; exact hP9, va_K.moved hW.alike hK, hD9⟩, hS.F ht⟩) hS.2.2 dL_draw_17

def w_L_drop (tcn : Int32) (mcn : Int32) (hd : (Nat → Int32)) (se : (Nat → Int32)) (ou : (Nat → Int64)) (p0 : Int32) (post : Int32 → Int32 → (Nat → Int32) → (Nat → Int32) → (Nat → Int64) → Prop) : Prop := ((w_X1_drop tcn mcn hd se p0 (fun r1 tcn_2 hd_3 se_4 => (vp_in (0 : Int32) 1 ∧ (post (0 : Int32) tcn_2 hd_3 se_4 (vp_updL ou (0 : Int32).toNatClampNeg r1.toInt64))))) ∨ (w_X1_drop_x tcn mcn hd se p0 (fun E6 tcn_2 hd_3 se_4 => ((E6 = "java/lang/IndexOutOfBoundsException" ∧ (post (1 : Int32) tcn_2 hd_3 se_4 ou)) ∨ (E6 = "java/lang/IllegalStateException" ∧ (post (2 : Int32) tcn_2 hd_3 se_4 ou))))))

set_option maxHeartbeats 4000000 in
set_option maxRecDepth 100000 in
theorem c_L_drop (l : Launch) (hl9 : l.stackTraces = false) (dC : Nat → ClassId) (dI : Nat → Nat → Nat) (cI cZ cJ : ClassId) (x : Nat) (aH : Nat) (aL : Nat) (aS : Nat) (aO : Nat) (aK : Nat) (aZ : Nat) (cv : Nat) (aQ : Nat) (sz : Nat) (tcn : Int32) (mcn : Int32) (swd : Int32) (rwd : Int32) (bpt : Int32) (flm : Int32) (hd : (Nat → Int32)) (se : (Nat → Int32)) (ou : (Nat → Int64)) (p0 : Int32) (post : Int32 → Int32 → (Nat → Int32) → (Nat → Int32) → (Nat → Int64) → Prop) (hw : w_L_drop tcn mcn hd se ou p0 post) : Met l yL_drop wsL_drop ({ frames := 8, cells := 1, slots := 6, locals := 153 } : Room) (va_Pc [.ref x, .int p0, .ref aQ] (fun U => U.heap.size = sz ∧ va_P (dC, dI) vwCl [(x, .inr (1, [.ref aH, .ref aL, .ref aS, .ref aO, .ref aK, .ref aZ, .ref cv, .int tcn, .int mcn, .int swd, .int rwd, .int bpt, .int flm])), (aH, .inl (cI, 34, .inl hd)), (aS, .inl (cI, 34, .inl se)), (aQ, .inl (cJ, 1, .inr (.inl ou)))] U.heap ∧ va_K (dC, dI) vwCl [(cI, .int), (cZ, .boolean), (cJ, .long)] U ∧ va_D (fun _ => True) [(x, .inr (1, [.ref aH, .ref aL, .ref aS, .ref aO, .ref aK, .ref aZ, .ref cv, .int tcn, .int mcn, .int swd, .int rwd, .int bpt, .int flm])), (aH, .inl (cI, 34, .inl hd)), (aS, .inl (cI, 34, .inl se)), (aQ, .inl (cJ, 1, .inr (.inl ou)))] ∧ nck U ∧ xk (va_A [(x, .inr (1, [.ref aH, .ref aL, .ref aS, .ref aO, .ref aK, .ref aZ, .ref cv, .int tcn, .int mcn, .int swd, .int rwd, .int bpt, .int flm])), (aH, .inl (cI, 34, .inl hd)), (aS, .inl (cI, 34, .inl se)), (aQ, .inl (cJ, 1, .inr (.inl ou)))] sz) U)) (va_Qi (fun (r9 : Int32) (u9 : Int32 × (Nat → Int32) × (Nat → Int32) × (Nat → Int64)) => post r9 u9.1 u9.2.1 u9.2.2.1 u9.2.2.2) (fun (u9 : Int32 × (Nat → Int32) × (Nat → Int32) × (Nat → Int64)) (t9 : State) => va_P (dC, dI) vwCl [(x, .inr (1, [.ref aH, .ref aL, .ref aS, .ref aO, .ref aK, .ref aZ, .ref cv, .int u9.1, .int mcn, .int swd, .int rwd, .int bpt, .int flm])), (aH, .inl (cI, 34, .inl u9.2.1)), (aS, .inl (cI, 34, .inl u9.2.2.1)), (aQ, .inl (cJ, 1, .inr (.inl u9.2.2.2)))] t9.heap ∧ va_K (dC, dI) vwCl [(cI, .int), (cZ, .boolean), (cJ, .long)] t9 ∧ va_D (va_A [(x, .inr (1, [.ref aH, .ref aL, .ref aS, .ref aO, .ref aK, .ref aZ, .ref cv, .int tcn, .int mcn, .int swd, .int rwd, .int bpt, .int flm])), (aH, .inl (cI, 34, .inl hd)), (aS, .inl (cI, 34, .inl se)), (aQ, .inl (cJ, 1, .inr (.inl ou)))] sz) [(x, .inr (1, [.ref aH, .ref aL, .ref aS, .ref aO, .ref aK, .ref aZ, .ref cv, .int u9.1, .int mcn, .int swd, .int rwd, .int bpt, .int flm])), (aH, .inl (cI, 34, .inl u9.2.1)), (aS, .inl (cI, 34, .inl u9.2.2.1)), (aQ, .inl (cJ, 1, .inr (.inl u9.2.2.2)))]) (va_A [(x, .inr (1, [.ref aH, .ref aL, .ref aS, .ref aO, .ref aK, .ref aZ, .ref cv, .int tcn, .int mcn, .int swd, .int rwd, .int bpt, .int flm])), (aH, .inl (cI, 34, .inl hd)), (aS, .inl (cI, 34, .inl se)), (aQ, .inl (cJ, 1, .inr (.inl ou)))] sz)) 1 6 (va_A [(x, .inr (1, [.ref aH, .ref aL, .ref aS, .ref aO, .ref aK, .ref aZ, .ref cv, .int tcn, .int mcn, .int swd, .int rwd, .int bpt, .int flm])), (aH, .inl (cI, 34, .inl hd)), (aS, .inl (cI, 34, .inl se)), (aQ, .inl (cJ, 1, .inr (.inl ou)))] sz) := by
  refine va_MetW (cc := cL_drop) (maxL := 4) (ret := (some .int)) (by decide) rfl ?_
  intro p e s m args below meth c s₁ B hml hv
  obtain ⟨rfl, hsz, hP, hK, hD0, hnc, hxk⟩ := hv
  have hx := B.exec
  have hb := B.bytes
  have hr := B.returns
  have hts := atoms_spec (ws := wsL_drop) B.pre
  have hown : s.vm.findClass RL = some m.cls := findClass_of_methodNamed B.named
  have hlocks := B.notSynchronized
  have hinX1 : ∀ w ∈ u_ws RX1 TX1 13, w ∈ wsL_drop := by decide +kernel
  have hTab := vx_table (x := yL_drop) B (hts (.codeWith yL_drop cL_drop 4 (some .int) [(0, 9, 12, 13), (0, 9, 15, 15)]) (by decide +kernel))
  have hK2 := hK.sub (tys' := [(cI, .int), (cZ, .boolean)]) [0, 1] rfl
  subst hsz
  have hD := hD0.self (sz := s.heap.size)
  generalize hAe : va_A [(x, .inr (1, [.ref aH, .ref aL, .ref aS, .ref aO, .ref aK, .ref aZ, .ref cv, .int tcn, .int mcn, .int swd, .int rwd, .int bpt, .int flm])), (aH, .inl (cI, 34, .inl hd)), (aS, .inl (cI, 34, .inl se)), (aQ, .inl (cJ, 1, .inr (.inl ou)))] s.heap.size = A at hD hxk ⊢
  have hA : ∀ q : Nat, s.heap.size ≤ q → A q := fun q h => by rw [← hAe]; exact Or.inr h
  have hS : va_S A s.heap s.heap [] := va_S.rf
  have hl := lv_entry ([.ref x, .int p0, .ref aQ]) (n := 4) (Nat.le_of_ble_eq_true rfl)
  rw [lg_entry_eq]
  generalize (lg_sl ([.ref x, .int p0, .ref aQ]) ++ List.replicate (4 - (lg_sl ([.ref x, .int p0, .ref aQ])).length) Slot.unset).toArray = ls at hl ⊢
  have hl : lv_has ls 4 [(0, .ref x), (1, .int p0), (2, .ref aQ)] := hl
  refine (?_ : ∀ Q9 : State → Prop, MQ below _ _ s _ _ _ = Q9 → W p l e ({ frames := 8, cells := 1, slots := 6, locals := 153 } : Room) s m _ below meth c s.heap [] 0 0 Q9 (F0 m 0 ls [])) _ rfl
  intro Q9 hQ9
  have hw : ((w_X1_drop tcn mcn hd se p0 (fun r1 tcn_2 hd_3 se_4 => (vp_in (0 : Int32) 1 ∧ (post (0 : Int32) tcn_2 hd_3 se_4 (vp_updL ou (0 : Int32).toNatClampNeg r1.toInt64))))) ∨ (w_X1_drop_x tcn mcn hd se p0 (fun E6 tcn_2 hd_3 se_4 => ((E6 = "java/lang/IndexOutOfBoundsException" ∧ (post (1 : Int32) tcn_2 hd_3 se_4 ou)) ∨ (E6 = "java/lang/IllegalStateException" ∧ (post (2 : Int32) tcn_2 hd_3 se_4 ou)))))) := hw
  refine lv_aload_n hx hb dL_drop_0 rfl (lv_at hl 2 rfl) ?_
  refine lv_iconst (v := 0) hx hb dL_drop_1 (by decide) ?_
  refine lv_aload_n hx hb dL_drop_2 rfl (lv_at hl 0 rfl) ?_
  refine lv_iload_n hx hb dL_drop_3 rfl (lv_at hl 1 rfl) ?_
  have hPc := hP.sub (ws' := [(x, .inr (1, [.ref aH, .ref aL, .ref aS, .ref aO, .ref aK, .ref aZ, .ref cv, .int tcn, .int mcn, .int swd, .int rwd, .int bpt, .int flm])), (aH, .inl (cI, 34, .inl hd)), (aS, .inl (cI, 34, .inl se))]) [0, 1, 2] rfl
  have hDc := hD.sub (ws' := [(x, .inr (1, [.ref aH, .ref aL, .ref aS, .ref aO, .ref aK, .ref aZ, .ref cv, .int tcn, .int mcn, .int swd, .int rwd, .int bpt, .int flm])), (aH, .inl (cI, 34, .inl hd)), (aS, .inl (cI, 34, .inl se))]) [0, 1, 2] (by decide) rfl
  have hFc := va_free (wc := [(x, .inr (1, [.ref aH, .ref aL, .ref aS, .ref aO, .ref aK, .ref aZ, .ref cv, .int tcn, .int mcn, .int swd, .int rwd, .int bpt, .int flm])), (aH, .inl (cI, 34, .inl hd)), (aS, .inl (cI, 34, .inl se))]) hD hS hA [0, 1, 2] rfl
  rcases hw with hw | hw
  · refine va_calli (va_runV (As := [.int p0]) (rest := [.int (0 : Int32), .ref aQ]) ⟨hx, hb, hml, hown, hts⟩ (c_X1_drop l dC dI cI cZ x aH aL aS aO aK aZ cv s.heap.size tcn mcn swd rwd bpt flm hd se p0 _ hw) (cwV 1 hts gL_drop_X1_drop rfl rfl rfl (by decide +kernel) ⟨Nat.le_of_ble_eq_true rfl, Nat.le_of_ble_eq_true rfl⟩) ⟨fun a U g mk q => by obtain ⟨q0, q1, qP, qK, qD⟩ := q; exact ⟨q0, q1, qP, va_K.moved (u := U) (U := U.calling g mk a) (Vm.Alike.refl U.vm) qK, qD⟩, va_recv hK2 hPc (ci := 1) (q0 := 0) rfl rfl, fun U hU hW => ⟨rfl, by rw [hU], by rw [hU]; exact hPc, va_K.moved hW.alike hK2, hDc.weaken (fun _ _ _ _ => trivial)⟩⟩ rfl rfl hl.1 rfl (lv_room (Nat.le_of_ble_eq_true rfl)) dL_drop_4 ⟨Nat.le_of_ble_eq_true rfl, Nat.le_of_ble_eq_true rfl⟩) hS (fun q _ h => hFc q h) hFc (fun r1 u t H1 locs ht hvm hw hB hz1 hk1 hS => ?_)
    obtain ⟨tcn_2, hd_3, se_4⟩ := u
    obtain ⟨hP1, -, hD1⟩ := hB
    have hw := And.intro hw trivial
    try dsimp only at hw
    have hw := hw.1
    rw [ht] at hP1
    obtain ⟨hP, hD⟩ := va_join (wr := [(aQ, .inl (cJ, 1, .inr (.inl ou)))]) (w1 := [(x, .inr (1, [.ref aH, .ref aL, .ref aS, .ref aO, .ref aK, .ref aZ, .ref cv, .int tcn_2, .int mcn, .int swd, .int rwd, .int bpt, .int flm])), (aH, .inl (cI, 34, .inl hd_3)), (aS, .inl (cI, 34, .inl se_4))]) hP hD [0, 1, 2] [3] rfl rfl (by decide) (by decide) hk1 hFc hP1 hD1
    generalize H1 = H at hP hS ⊢
    have hP : va_P (dC, dI) vwCl [(aQ, .inl (cJ, 1, .inr (.inl ou))), (x, .inr (1, [.ref aH, .ref aL, .ref aS, .ref aO, .ref aK, .ref aZ, .ref cv, .int tcn_2, .int mcn, .int swd, .int rwd, .int bpt, .int flm])), (aH, .inl (cI, 34, .inl hd_3)), (aS, .inl (cI, 34, .inl se_4))] H := hP
    have hD : va_D A [(aQ, .inl (cJ, 1, .inr (.inl ou))), (x, .inr (1, [.ref aH, .ref aL, .ref aS, .ref aO, .ref aK, .ref aZ, .ref cv, .int tcn_2, .int mcn, .int swd, .int rwd, .int bpt, .int flm])), (aH, .inl (cI, 34, .inl hd_3)), (aS, .inl (cI, 34, .inl se_4))] := hD
    refine lv_i2l (v := r1.toInt64) hx hb dL_drop_7 rfl ?_
    obtain ⟨h5, hw⟩ := hw
    refine va_last hx hb hK hP hD hS 0 2 rfl rfl h5 dL_drop_8 (fun H locs hP hD hS => ?_)
    have hP : va_P (dC, dI) vwCl [(aQ, .inl (cJ, 1, .inr (.inl (vp_updL ou (0 : Int32).toNatClampNeg r1.toInt64)))), (x, .inr (1, [.ref aH, .ref aL, .ref aS, .ref aO, .ref aK, .ref aZ, .ref cv, .int tcn_2, .int mcn, .int swd, .int rwd, .int bpt, .int flm])), (aH, .inl (cI, 34, .inl hd_3)), (aS, .inl (cI, 34, .inl se_4))] H := hP
    have hD : va_D A [(aQ, .inl (cJ, 1, .inr (.inl (vp_updL ou (0 : Int32).toNatClampNeg r1.toInt64)))), (x, .inr (1, [.ref aH, .ref aL, .ref aS, .ref aO, .ref aK, .ref aZ, .ref cv, .int tcn_2, .int mcn, .int swd, .int rwd, .int bpt, .int flm])), (aH, .inl (cI, 34, .inl hd_3)), (aS, .inl (cI, 34, .inl se_4))] := hD
    refine lv_goto (tgt := 18) hx hb dL_drop_9 (by decide) ?_
    refine lv_iconst (v := 0) hx hb dL_drop_18 (by decide) ?_
    have hP9 := hP.sub (ws' := [(x, .inr (1, [.ref aH, .ref aL, .ref aS, .ref aO, .ref aK, .ref aZ, .ref cv, .int tcn_2, .int mcn, .int swd, .int rwd, .int bpt, .int flm])), (aH, .inl (cI, 34, .inl hd_3)), (aS, .inl (cI, 34, .inl se_4)), (aQ, .inl (cJ, 1, .inr (.inl (vp_updL ou (0 : Int32).toNatClampNeg r1.toInt64))))]) [1, 2, 3, 0] rfl
    have hD9 := hD.sub (ws' := [(x, .inr (1, [.ref aH, .ref aL, .ref aS, .ref aO, .ref aK, .ref aZ, .ref cv, .int tcn_2, .int mcn, .int swd, .int rwd, .int bpt, .int flm])), (aH, .inl (cI, 34, .inl hd_3)), (aS, .inl (cI, 34, .inl se_4)), (aQ, .inl (cJ, 1, .inr (.inl (vp_updL ou (0 : Int32).toNatClampNeg r1.toInt64))))]) [1, 2, 3, 0] (by decide) rfl
    refine W.widen (k := 1) (n := 6) (by omega) (by omega) ?_
    rw [← hQ9]
    exact W.iret (v := (0 : Int32)) hx hb hr (fun t ht hW => ⟨⟨(0 : Int32), (tcn_2, hd_3, se_4, vp_updL ou (0 : Int32).toNatClampNeg r1.toInt64), rfl, hw, by rw [ht]; exact hP9, va_K.moved hW.alike hK, hD9⟩, hS.F ht⟩) hS.2.2 dL_drop_19
  · refine vx_calli (vx_runV (As := [.int p0]) (rest := [.int (0 : Int32), .ref aQ]) ⟨hx, hb, hml, hown, hts⟩ (c_X1_drop_x l hl9 dC dI cI cZ x aH aL aS aO aK aZ cv s.heap.size tcn mcn swd rwd bpt flm hd se p0 _ hw) (cwV 1 hts gL_drop_X1_drop rfl rfl rfl (by decide +kernel) ⟨Nat.le_of_ble_eq_true rfl, Nat.le_of_ble_eq_true rfl⟩) ⟨fun a U g mk q => by obtain ⟨q0, q1, qP, qK, qD, qX⟩ := q; exact ⟨q0, q1, qP, va_K.moved (u := U) (U := U.calling g mk a) (Vm.Alike.refl U.vm) qK, qD, xk_same rfl rfl qX⟩, va_recv hK2 hPc (ci := 1) (q0 := 0) rfl rfl, fun U hU hW => ⟨rfl, by rw [hU], by rw [hU]; exact hPc, va_K.moved hW.alike hK2, hDc.weaken (fun _ _ _ _ => trivial), xk_call hS hU hW (fun q h => hFc q h) hxk⟩⟩ rfl rfl hl.1 rfl (lv_room (Nat.le_of_ble_eq_true rfl)) dL_drop_4 ⟨Nat.le_of_ble_eq_true rfl, Nat.le_of_ble_eq_true rfl⟩) hS (fun q _ h => hFc q h) hFc (fun q _ h => hFc q h) (fun E ce qe9 u t H1 locs ht hvm hw hB hz1 hk1 hS hce hcv hcl => ?_) (fun r1 u t H1 locs ht hvm hw hB hz1 hk1 hS => False.elim hw)
    obtain ⟨E6, tcn_2, hd_3, se_4⟩ := u
    obtain ⟨hE9, hP1, -, hD1⟩ := hB
    try dsimp only at hw
    rw [ht] at hP1
    obtain ⟨hP, hD⟩ := va_join (wr := [(aQ, .inl (cJ, 1, .inr (.inl ou)))]) (w1 := [(x, .inr (1, [.ref aH, .ref aL, .ref aS, .ref aO, .ref aK, .ref aZ, .ref cv, .int tcn_2, .int mcn, .int swd, .int rwd, .int bpt, .int flm])), (aH, .inl (cI, 34, .inl hd_3)), (aS, .inl (cI, 34, .inl se_4))]) hP hD [0, 1, 2] [3] rfl rfl (by decide) (by decide) hk1 hFc hP1 hD1
    generalize H1 = H at hP hS hce ⊢
    have hP : va_P (dC, dI) vwCl [(aQ, .inl (cJ, 1, .inr (.inl ou))), (x, .inr (1, [.ref aH, .ref aL, .ref aS, .ref aO, .ref aK, .ref aZ, .ref cv, .int tcn_2, .int mcn, .int swd, .int rwd, .int bpt, .int flm])), (aH, .inl (cI, 34, .inl hd_3)), (aS, .inl (cI, 34, .inl se_4))] H := hP
    have hD : va_D A [(aQ, .inl (cJ, 1, .inr (.inl ou))), (x, .inr (1, [.ref aH, .ref aL, .ref aS, .ref aO, .ref aK, .ref aZ, .ref cv, .int tcn_2, .int mcn, .int swd, .int rwd, .int bpt, .int flm])), (aH, .inl (cI, 34, .inl hd_3)), (aS, .inl (cI, 34, .inl se_4))] := hD
    rcases hw with ⟨hq, hw⟩ | ⟨hq, hw⟩
    · have hE := hE9.trans hq
      try dsimp only at hE
      subst hE
      refine vx_catch (own := RL) (name := "java/lang/IndexOutOfBoundsException") (E := "java/lang/IndexOutOfBoundsException") hown [] ⟨0, 9, 12, 13⟩ [⟨0, 9, 15, 15⟩] (by rw [hTab]; rfl) (fun z hz => nomatch hz) (by decide) (by decide) (hts (.classLink RL 13 "java/lang/IndexOutOfBoundsException") (by decide +kernel)) (va_Nw.use rfl (xk_c1 hxk)) hce hcv hcl ?_
      refine lv_astore_n (lv' := [(3, .ref qe9), (0, .ref x), (1, .int p0), (2, .ref aQ)]) hx hb dL_drop_12 rfl hl (by decide) rfl (fun ls hl => ?_)
      refine lv_iconst (v := 1) hx hb dL_drop_13 (by decide) ?_
      have hP9 := hP.sub (ws' := [(x, .inr (1, [.ref aH, .ref aL, .ref aS, .ref aO, .ref aK, .ref aZ, .ref cv, .int tcn_2, .int mcn, .int swd, .int rwd, .int bpt, .int flm])), (aH, .inl (cI, 34, .inl hd_3)), (aS, .inl (cI, 34, .inl se_4)), (aQ, .inl (cJ, 1, .inr (.inl ou)))]) [1, 2, 3, 0] rfl
      have hD9 := hD.sub (ws' := [(x, .inr (1, [.ref aH, .ref aL, .ref aS, .ref aO, .ref aK, .ref aZ, .ref cv, .int tcn_2, .int mcn, .int swd, .int rwd, .int bpt, .int flm])), (aH, .inl (cI, 34, .inl hd_3)), (aS, .inl (cI, 34, .inl se_4)), (aQ, .inl (cJ, 1, .inr (.inl ou)))]) [1, 2, 3, 0] (by decide) rfl
      rw [← hQ9]
      exact W.iret (v := (1 : Int32)) hx hb hr (fun t ht hW => ⟨⟨(1 : Int32), (tcn_2, hd_3, se_4, ou), rfl, hw, by rw [ht]; exact hP9, va_K.moved hW.alike hK, hD9⟩, hS.F ht⟩) hS.2.2 dL_drop_14
    · have hE := hE9.trans hq
      try dsimp only at hE
      subst hE
      refine vx_catch (own := RL) (name := "java/lang/IllegalStateException") (E := "java/lang/IllegalStateException") hown [⟨0, 9, 12, 13⟩] ⟨0, 9, 15, 15⟩ [] (by rw [hTab]; rfl) (by
          intro z hz
          rcases List.mem_cons.mp hz with rfl | hz
          · exact Or.inr ⟨by decide, "java/lang/IndexOutOfBoundsException", hts (.classLink RL 13 "java/lang/IndexOutOfBoundsException") (by decide +kernel), nck_20 hnc⟩
          cases hz) (by decide) (by decide) (hts (.classLink RL 15 "java/lang/IllegalStateException") (by decide +kernel)) (va_Nw.use rfl (xk_c3 hxk)) hce hcv hcl ?_
      refine lv_astore_n (lv' := [(3, .ref qe9), (0, .ref x), (1, .int p0), (2, .ref aQ)]) hx hb dL_drop_15 rfl hl (by decide) rfl (fun ls hl => ?_)
      refine lv_iconst (v := 2) hx hb dL_drop_16 (by decide) ?_
      have hP9 := hP.sub (ws' := [(x, .inr (1, [.ref aH, .ref aL, .ref aS, .ref aO, .ref aK, .ref aZ, .ref cv, .int tcn_2, .int mcn, .int swd, .int rwd, .int bpt, .int flm])), (aH, .inl (cI, 34, .inl hd_3)), (aS, .inl (cI, 34, .inl se_4)), (aQ, .inl (cJ, 1, .inr (.inl ou)))]) [1, 2, 3, 0] rfl
      have hD9 := hD.sub (ws' := [(x, .inr (1, [.ref aH, .ref aL, .ref aS, .ref aO, .ref aK, .ref aZ, .ref cv, .int tcn_2, .int mcn, .int swd, .int rwd, .int bpt, .int flm])), (aH, .inl (cI, 34, .inl hd_3)), (aS, .inl (cI, 34, .inl se_4)), (aQ, .inl (cJ, 1, .inr (.inl ou)))]) [1, 2, 3, 0] (by decide) rfl
      rw [← hQ9]
      exact W.iret (v := (2 : Int32)) hx hb hr (fun t ht hW => ⟨⟨(2 : Int32), (tcn_2, hd_3, se_4, ou), rfl, hw, by rw [ht]; exact hP9, va_K.moved hW.alike hK, hD9⟩, hS.F ht⟩) hS.2.2 dL_drop_17

def w_L_see (hd : (Nat → Int32)) (la : (Nat → Int32)) (se : (Nat → Int32)) (ou : (Nat → Int64)) (p0 : Int32) (post : Int32 → (Nat → Int32) → (Nat → Int64) → Prop) : Prop := ((w_X1_see hd la se p0 (fun r1 se_2 => (vp_in (0 : Int32) 1 ∧ (post (0 : Int32) se_2 (vp_updL ou (0 : Int32).toNatClampNeg r1.toInt64))))) ∨ (w_X1_see_x hd la se p0 (fun E4 se_2 => ((E4 = "java/lang/IndexOutOfBoundsException" ∧ (post (1 : Int32) se_2 ou)) ∨ (E4 = "java/lang/IllegalStateException" ∧ (post (2 : Int32) se_2 ou))))))

set_option maxHeartbeats 4000000 in
set_option maxRecDepth 100000 in
theorem c_L_see (l : Launch) (hl9 : l.stackTraces = false) (dC : Nat → ClassId) (dI : Nat → Nat → Nat) (cI cZ cJ : ClassId) (x : Nat) (aH : Nat) (aL : Nat) (aS : Nat) (aO : Nat) (aK : Nat) (aZ : Nat) (cv : Nat) (aQ : Nat) (sz : Nat) (tcn : Int32) (mcn : Int32) (swd : Int32) (rwd : Int32) (bpt : Int32) (flm : Int32) (hd : (Nat → Int32)) (la : (Nat → Int32)) (se : (Nat → Int32)) (ou : (Nat → Int64)) (p0 : Int32) (post : Int32 → (Nat → Int32) → (Nat → Int64) → Prop) (hw : w_L_see hd la se ou p0 post) : Met l yL_see wsL_see ({ frames := 8, cells := 1, slots := 6, locals := 152 } : Room) (va_Pc [.ref x, .int p0, .ref aQ] (fun U => U.heap.size = sz ∧ va_P (dC, dI) vwCl [(x, .inr (1, [.ref aH, .ref aL, .ref aS, .ref aO, .ref aK, .ref aZ, .ref cv, .int tcn, .int mcn, .int swd, .int rwd, .int bpt, .int flm])), (aH, .inl (cI, 34, .inl hd)), (aL, .inl (cI, 34, .inl la)), (aS, .inl (cI, 34, .inl se)), (aQ, .inl (cJ, 1, .inr (.inl ou)))] U.heap ∧ va_K (dC, dI) vwCl [(cI, .int), (cZ, .boolean), (cJ, .long)] U ∧ va_D (fun _ => True) [(x, .inr (1, [.ref aH, .ref aL, .ref aS, .ref aO, .ref aK, .ref aZ, .ref cv, .int tcn, .int mcn, .int swd, .int rwd, .int bpt, .int flm])), (aH, .inl (cI, 34, .inl hd)), (aL, .inl (cI, 34, .inl la)), (aS, .inl (cI, 34, .inl se)), (aQ, .inl (cJ, 1, .inr (.inl ou)))] ∧ nck U ∧ xk (va_A [(x, .inr (1, [.ref aH, .ref aL, .ref aS, .ref aO, .ref aK, .ref aZ, .ref cv, .int tcn, .int mcn, .int swd, .int rwd, .int bpt, .int flm])), (aH, .inl (cI, 34, .inl hd)), (aL, .inl (cI, 34, .inl la)), (aS, .inl (cI, 34, .inl se)), (aQ, .inl (cJ, 1, .inr (.inl ou)))] sz) U)) (va_Qi (fun (r9 : Int32) (u9 : (Nat → Int32) × (Nat → Int64)) => post r9 u9.1 u9.2) (fun (u9 : (Nat → Int32) × (Nat → Int64)) (t9 : State) => va_P (dC, dI) vwCl [(x, .inr (1, [.ref aH, .ref aL, .ref aS, .ref aO, .ref aK, .ref aZ, .ref cv, .int tcn, .int mcn, .int swd, .int rwd, .int bpt, .int flm])), (aH, .inl (cI, 34, .inl hd)), (aL, .inl (cI, 34, .inl la)), (aS, .inl (cI, 34, .inl u9.1)), (aQ, .inl (cJ, 1, .inr (.inl u9.2)))] t9.heap ∧ va_K (dC, dI) vwCl [(cI, .int), (cZ, .boolean), (cJ, .long)] t9 ∧ va_D (va_A [(x, .inr (1, [.ref aH, .ref aL, .ref aS, .ref aO, .ref aK, .ref aZ, .ref cv, .int tcn, .int mcn, .int swd, .int rwd, .int bpt, .int flm])), (aH, .inl (cI, 34, .inl hd)), (aL, .inl (cI, 34, .inl la)), (aS, .inl (cI, 34, .inl se)), (aQ, .inl (cJ, 1, .inr (.inl ou)))] sz) [(x, .inr (1, [.ref aH, .ref aL, .ref aS, .ref aO, .ref aK, .ref aZ, .ref cv, .int tcn, .int mcn, .int swd, .int rwd, .int bpt, .int flm])), (aH, .inl (cI, 34, .inl hd)), (aL, .inl (cI, 34, .inl la)), (aS, .inl (cI, 34, .inl u9.1)), (aQ, .inl (cJ, 1, .inr (.inl u9.2)))]) (va_A [(x, .inr (1, [.ref aH, .ref aL, .ref aS, .ref aO, .ref aK, .ref aZ, .ref cv, .int tcn, .int mcn, .int swd, .int rwd, .int bpt, .int flm])), (aH, .inl (cI, 34, .inl hd)), (aL, .inl (cI, 34, .inl la)), (aS, .inl (cI, 34, .inl se)), (aQ, .inl (cJ, 1, .inr (.inl ou)))] sz)) 1 6 (va_A [(x, .inr (1, [.ref aH, .ref aL, .ref aS, .ref aO, .ref aK, .ref aZ, .ref cv, .int tcn, .int mcn, .int swd, .int rwd, .int bpt, .int flm])), (aH, .inl (cI, 34, .inl hd)), (aL, .inl (cI, 34, .inl la)), (aS, .inl (cI, 34, .inl se)), (aQ, .inl (cJ, 1, .inr (.inl ou)))] sz) := by
  refine va_MetW (cc := cL_see) (maxL := 4) (ret := (some .int)) (by decide) rfl ?_
  intro p e s m args below meth c s₁ B hml hv
  obtain ⟨rfl, hsz, hP, hK, hD0, hnc, hxk⟩ := hv
  have hx := B.exec
  have hb := B.bytes
  have hr := B.returns
  have hts := atoms_spec (ws := wsL_see) B.pre
  have hown : s.vm.findClass RL = some m.cls := findClass_of_methodNamed B.named
  have hlocks := B.notSynchronized
  have hinX1 : ∀ w ∈ u_ws RX1 TX1 13, w ∈ wsL_see := by decide +kernel
  have hTab := vx_table (x := yL_see) B (hts (.codeWith yL_see cL_see 4 (some .int) [(0, 9, 12, 13), (0, 9, 15, 15)]) (by decide +kernel))
  have hK2 := hK.sub (tys' := [(cI, .int), (cZ, .boolean)]) [0, 1] rfl
  subst hsz
  have hD := hD0.self (sz := s.heap.size)
  generalize hAe : va_A [(x, .inr (1, [.ref aH, .ref aL, .ref aS, .ref aO, .ref aK, .ref aZ, .ref cv, .int tcn, .int mcn, .int swd, .int rwd, .int bpt, .int flm])), (aH, .inl (cI, 34, .inl hd)), (aL, .inl (cI, 34, .inl la)), (aS, .inl (cI, 34, .inl se)), (aQ, .inl (cJ, 1, .inr (.inl ou)))] s.heap.size = A at hD hxk ⊢
  have hA : ∀ q : Nat, s.heap.size ≤ q → A q := fun q h => by rw [← hAe]; exact Or.inr h
  have hS : va_S A s.heap s.heap [] := va_S.rf
  have hl := lv_entry ([.ref x, .int p0, .ref aQ]) (n := 4) (Nat.le_of_ble_eq_true rfl)
  rw [lg_entry_eq]
  generalize (lg_sl ([.ref x, .int p0, .ref aQ]) ++ List.replicate (4 - (lg_sl ([.ref x, .int p0, .ref aQ])).length) Slot.unset).toArray = ls at hl ⊢
  have hl : lv_has ls 4 [(0, .ref x), (1, .int p0), (2, .ref aQ)] := hl
  refine (?_ : ∀ Q9 : State → Prop, MQ below _ _ s _ _ _ = Q9 → W p l e ({ frames := 8, cells := 1, slots := 6, locals := 152 } : Room) s m _ below meth c s.heap [] 0 0 Q9 (F0 m 0 ls [])) _ rfl
  intro Q9 hQ9
  have hw : ((w_X1_see hd la se p0 (fun r1 se_2 => (vp_in (0 : Int32) 1 ∧ (post (0 : Int32) se_2 (vp_updL ou (0 : Int32).toNatClampNeg r1.toInt64))))) ∨ (w_X1_see_x hd la se p0 (fun E4 se_2 => ((E4 = "java/lang/IndexOutOfBoundsException" ∧ (post (1 : Int32) se_2 ou)) ∨ (E4 = "java/lang/IllegalStateException" ∧ (post (2 : Int32) se_2 ou)))))) := hw
  refine lv_aload_n hx hb dL_see_0 rfl (lv_at hl 2 rfl) ?_
  refine lv_iconst (v := 0) hx hb dL_see_1 (by decide) ?_
  refine lv_aload_n hx hb dL_see_2 rfl (lv_at hl 0 rfl) ?_
  refine lv_iload_n hx hb dL_see_3 rfl (lv_at hl 1 rfl) ?_
  have hPc := hP.sub (ws' := [(x, .inr (1, [.ref aH, .ref aL, .ref aS, .ref aO, .ref aK, .ref aZ, .ref cv, .int tcn, .int mcn, .int swd, .int rwd, .int bpt, .int flm])), (aH, .inl (cI, 34, .inl hd)), (aL, .inl (cI, 34, .inl la)), (aS, .inl (cI, 34, .inl se))]) [0, 1, 2, 3] rfl
  have hDc := hD.sub (ws' := [(x, .inr (1, [.ref aH, .ref aL, .ref aS, .ref aO, .ref aK, .ref aZ, .ref cv, .int tcn, .int mcn, .int swd, .int rwd, .int bpt, .int flm])), (aH, .inl (cI, 34, .inl hd)), (aL, .inl (cI, 34, .inl la)), (aS, .inl (cI, 34, .inl se))]) [0, 1, 2, 3] (by decide) rfl
  have hFc := va_free (wc := [(x, .inr (1, [.ref aH, .ref aL, .ref aS, .ref aO, .ref aK, .ref aZ, .ref cv, .int tcn, .int mcn, .int swd, .int rwd, .int bpt, .int flm])), (aH, .inl (cI, 34, .inl hd)), (aL, .inl (cI, 34, .inl la)), (aS, .inl (cI, 34, .inl se))]) hD hS hA [0, 1, 2, 3] rfl
  rcases hw with hw | hw
  · refine va_calli (va_runV (As := [.int p0]) (rest := [.int (0 : Int32), .ref aQ]) ⟨hx, hb, hml, hown, hts⟩ (c_X1_see l dC dI cI cZ x aH aL aS aO aK aZ cv s.heap.size tcn mcn swd rwd bpt flm hd la se p0 _ hw) (cwV 1 hts gL_see_X1_see rfl rfl rfl (by decide +kernel) ⟨Nat.le_of_ble_eq_true rfl, Nat.le_of_ble_eq_true rfl⟩) ⟨fun a U g mk q => by obtain ⟨q0, q1, qP, qK, qD⟩ := q; exact ⟨q0, q1, qP, va_K.moved (u := U) (U := U.calling g mk a) (Vm.Alike.refl U.vm) qK, qD⟩, va_recv hK2 hPc (ci := 1) (q0 := 0) rfl rfl, fun U hU hW => ⟨rfl, by rw [hU], by rw [hU]; exact hPc, va_K.moved hW.alike hK2, hDc.weaken (fun _ _ _ _ => trivial)⟩⟩ rfl rfl hl.1 rfl (lv_room (Nat.le_of_ble_eq_true rfl)) dL_see_4 ⟨Nat.le_of_ble_eq_true rfl, Nat.le_of_ble_eq_true rfl⟩) hS (fun q _ h => hFc q h) hFc (fun r1 u t H1 locs ht hvm hw hB hz1 hk1 hS => ?_)
    obtain ⟨se_2, rfl⟩ : ∃ z, z = u := ⟨_, rfl⟩
    obtain ⟨hP1, -, hD1⟩ := hB
    have hw := And.intro hw trivial
    try dsimp only at hw
    have hw := hw.1
    rw [ht] at hP1
    obtain ⟨hP, hD⟩ := va_join (wr := [(aQ, .inl (cJ, 1, .inr (.inl ou)))]) (w1 := [(x, .inr (1, [.ref aH, .ref aL, .ref aS, .ref aO, .ref aK, .ref aZ, .ref cv, .int tcn, .int mcn, .int swd, .int rwd, .int bpt, .int flm])), (aH, .inl (cI, 34, .inl hd)), (aL, .inl (cI, 34, .inl la)), (aS, .inl (cI, 34, .inl se_2))]) hP hD [0, 1, 2, 3] [4] rfl rfl (by decide) (by decide) hk1 hFc hP1 hD1
    generalize H1 = H at hP hS ⊢
    have hP : va_P (dC, dI) vwCl [(aQ, .inl (cJ, 1, .inr (.inl ou))), (x, .inr (1, [.ref aH, .ref aL, .ref aS, .ref aO, .ref aK, .ref aZ, .ref cv, .int tcn, .int mcn, .int swd, .int rwd, .int bpt, .int flm])), (aH, .inl (cI, 34, .inl hd)), (aL, .inl (cI, 34, .inl la)), (aS, .inl (cI, 34, .inl se_2))] H := hP
    have hD : va_D A [(aQ, .inl (cJ, 1, .inr (.inl ou))), (x, .inr (1, [.ref aH, .ref aL, .ref aS, .ref aO, .ref aK, .ref aZ, .ref cv, .int tcn, .int mcn, .int swd, .int rwd, .int bpt, .int flm])), (aH, .inl (cI, 34, .inl hd)), (aL, .inl (cI, 34, .inl la)), (aS, .inl (cI, 34, .inl se_2))] := hD
    refine lv_i2l (v := r1.toInt64) hx hb dL_see_7 rfl ?_
    obtain ⟨h3, hw⟩ := hw
    refine va_last hx hb hK hP hD hS 0 2 rfl rfl h3 dL_see_8 (fun H locs hP hD hS => ?_)
    have hP : va_P (dC, dI) vwCl [(aQ, .inl (cJ, 1, .inr (.inl (vp_updL ou (0 : Int32).toNatClampNeg r1.toInt64)))), (x, .inr (1, [.ref aH, .ref aL, .ref aS, .ref aO, .ref aK, .ref aZ, .ref cv, .int tcn, .int mcn, .int swd, .int rwd, .int bpt, .int flm])), (aH, .inl (cI, 34, .inl hd)), (aL, .inl (cI, 34, .inl la)), (aS, .inl (cI, 34, .inl se_2))] H := hP
    have hD : va_D A [(aQ, .inl (cJ, 1, .inr (.inl (vp_updL ou (0 : Int32).toNatClampNeg r1.toInt64)))), (x, .inr (1, [.ref aH, .ref aL, .ref aS, .ref aO, .ref aK, .ref aZ, .ref cv, .int tcn, .int mcn, .int swd, .int rwd, .int bpt, .int flm])), (aH, .inl (cI, 34, .inl hd)), (aL, .inl (cI, 34, .inl la)), (aS, .inl (cI, 34, .inl se_2))] := hD
    refine lv_goto (tgt := 18) hx hb dL_see_9 (by decide) ?_
    refine lv_iconst (v := 0) hx hb dL_see_18 (by decide) ?_
    have hP9 := hP.sub (ws' := [(x, .inr (1, [.ref aH, .ref aL, .ref aS, .ref aO, .ref aK, .ref aZ, .ref cv, .int tcn, .int mcn, .int swd, .int rwd, .int bpt, .int flm])), (aH, .inl (cI, 34, .inl hd)), (aL, .inl (cI, 34, .inl la)), (aS, .inl (cI, 34, .inl se_2)), (aQ, .inl (cJ, 1, .inr (.inl (vp_updL ou (0 : Int32).toNatClampNeg r1.toInt64))))]) [1, 2, 3, 4, 0] rfl
    have hD9 := hD.sub (ws' := [(x, .inr (1, [.ref aH, .ref aL, .ref aS, .ref aO, .ref aK, .ref aZ, .ref cv, .int tcn, .int mcn, .int swd, .int rwd, .int bpt, .int flm])), (aH, .inl (cI, 34, .inl hd)), (aL, .inl (cI, 34, .inl la)), (aS, .inl (cI, 34, .inl se_2)), (aQ, .inl (cJ, 1, .inr (.inl (vp_updL ou (0 : Int32).toNatClampNeg r1.toInt64))))]) [1, 2, 3, 4, 0] (by decide) rfl
    refine W.widen (k := 1) (n := 6) (by omega) (by omega) ?_
    rw [← hQ9]
    exact W.iret (v := (0 : Int32)) hx hb hr (fun t ht hW => ⟨⟨(0 : Int32), (se_2, vp_updL ou (0 : Int32).toNatClampNeg r1.toInt64), rfl, hw, by rw [ht]; exact hP9, va_K.moved hW.alike hK, hD9⟩, hS.F ht⟩) hS.2.2 dL_see_19
  · refine vx_calli (vx_runV (As := [.int p0]) (rest := [.int (0 : Int32), .ref aQ]) ⟨hx, hb, hml, hown, hts⟩ (c_X1_see_x l hl9 dC dI cI cZ x aH aL aS aO aK aZ cv s.heap.size tcn mcn swd rwd bpt flm hd la se p0 _ hw) (cwV 1 hts gL_see_X1_see rfl rfl rfl (by decide +kernel) ⟨Nat.le_of_ble_eq_true rfl, Nat.le_of_ble_eq_true rfl⟩) ⟨fun a U g mk q => by obtain ⟨q0, q1, qP, qK, qD, qX⟩ := q; exact ⟨q0, q1, qP, va_K.moved (u := U) (U := U.calling g mk a) (Vm.Alike.refl U.vm) qK, qD, xk_same rfl rfl qX⟩, va_recv hK2 hPc (ci := 1) (q0 := 0) rfl rfl, fun U hU hW => ⟨rfl, by rw [hU], by rw [hU]; exact hPc, va_K.moved hW.alike hK2, hDc.weaken (fun _ _ _ _ => trivial), xk_call hS hU hW (fun q h => hFc q h) hxk⟩⟩ rfl rfl hl.1 rfl (lv_room (Nat.le_of_ble_eq_true rfl)) dL_see_4 ⟨Nat.le_of_ble_eq_true rfl, Nat.le_of_ble_eq_true rfl⟩) hS (fun q _ h => hFc q h) hFc (fun q _ h => hFc q h) (fun E ce qe9 u t H1 locs ht hvm hw hB hz1 hk1 hS hce hcv hcl => ?_) (fun r1 u t H1 locs ht hvm hw hB hz1 hk1 hS => False.elim hw)
    obtain ⟨E4, se_2⟩ := u
    obtain ⟨hE9, hP1, -, hD1⟩ := hB
    try dsimp only at hw
    rw [ht] at hP1
    obtain ⟨hP, hD⟩ := va_join (wr := [(aQ, .inl (cJ, 1, .inr (.inl ou)))]) (w1 := [(x, .inr (1, [.ref aH, .ref aL, .ref aS, .ref aO, .ref aK, .ref aZ, .ref cv, .int tcn, .int mcn, .int swd, .int rwd, .int bpt, .int flm])), (aH, .inl (cI, 34, .inl hd)), (aL, .inl (cI, 34, .inl la)), (aS, .inl (cI, 34, .inl se_2))]) hP hD [0, 1, 2, 3] [4] rfl rfl (by decide) (by decide) hk1 hFc hP1 hD1
    generalize H1 = H at hP hS hce ⊢
    have hP : va_P (dC, dI) vwCl [(aQ, .inl (cJ, 1, .inr (.inl ou))), (x, .inr (1, [.ref aH, .ref aL, .ref aS, .ref aO, .ref aK, .ref aZ, .ref cv, .int tcn, .int mcn, .int swd, .int rwd, .int bpt, .int flm])), (aH, .inl (cI, 34, .inl hd)), (aL, .inl (cI, 34, .inl la)), (aS, .inl (cI, 34, .inl se_2))] H := hP
    have hD : va_D A [(aQ, .inl (cJ, 1, .inr (.inl ou))), (x, .inr (1, [.ref aH, .ref aL, .ref aS, .ref aO, .ref aK, .ref aZ, .ref cv, .int tcn, .int mcn, .int swd, .int rwd, .int bpt, .int flm])), (aH, .inl (cI, 34, .inl hd)), (aL, .inl (cI, 34, .inl la)), (aS, .inl (cI, 34, .inl se_2))] := hD
    rcases hw with ⟨hq, hw⟩ | ⟨hq, hw⟩
    · have hE := hE9.trans hq
      try dsimp only at hE
      subst hE
      refine vx_catch (own := RL) (name := "java/lang/IndexOutOfBoundsException") (E := "java/lang/IndexOutOfBoundsException") hown [] ⟨0, 9, 12, 13⟩ [⟨0, 9, 15, 15⟩] (by rw [hTab]; rfl) (fun z hz => nomatch hz) (by decide) (by decide) (hts (.classLink RL 13 "java/lang/IndexOutOfBoundsException") (by decide +kernel)) (va_Nw.use rfl (xk_c1 hxk)) hce hcv hcl ?_
      refine lv_astore_n (lv' := [(3, .ref qe9), (0, .ref x), (1, .int p0), (2, .ref aQ)]) hx hb dL_see_12 rfl hl (by decide) rfl (fun ls hl => ?_)
      refine lv_iconst (v := 1) hx hb dL_see_13 (by decide) ?_
      have hP9 := hP.sub (ws' := [(x, .inr (1, [.ref aH, .ref aL, .ref aS, .ref aO, .ref aK, .ref aZ, .ref cv, .int tcn, .int mcn, .int swd, .int rwd, .int bpt, .int flm])), (aH, .inl (cI, 34, .inl hd)), (aL, .inl (cI, 34, .inl la)), (aS, .inl (cI, 34, .inl se_2)), (aQ, .inl (cJ, 1, .inr (.inl ou)))]) [1, 2, 3, 4, 0] rfl
      have hD9 := hD.sub (ws' := [(x, .inr (1, [.ref aH, .ref aL, .ref aS, .ref aO, .ref aK, .ref aZ, .ref cv, .int tcn, .int mcn, .int swd, .int rwd, .int bpt, .int flm])), (aH, .inl (cI, 34, .inl hd)), (aL, .inl (cI, 34, .inl la)), (aS, .inl (cI, 34, .inl se_2)), (aQ, .inl (cJ, 1, .inr (.inl ou)))]) [1, 2, 3, 4, 0] (by decide) rfl
      rw [← hQ9]
      exact W.iret (v := (1 : Int32)) hx hb hr (fun t ht hW => ⟨⟨(1 : Int32), (se_2, ou), rfl, hw, by rw [ht]; exact hP9, va_K.moved hW.alike hK, hD9⟩, hS.F ht⟩) hS.2.2 dL_see_14
    · have hE := hE9.trans hq
      try dsimp only at hE
      subst hE
      refine vx_catch (own := RL) (name := "java/lang/IllegalStateException") (E := "java/lang/IllegalStateException") hown [⟨0, 9, 12, 13⟩] ⟨0, 9, 15, 15⟩ [] (by rw [hTab]; rfl) (by
          intro z hz
          rcases List.mem_cons.mp hz with rfl | hz
          · exact Or.inr ⟨by decide, "java/lang/IndexOutOfBoundsException", hts (.classLink RL 13 "java/lang/IndexOutOfBoundsException") (by decide +kernel), nck_20 hnc⟩
          cases hz) (by decide) (by decide) (hts (.classLink RL 15 "java/lang/IllegalStateException") (by decide +kernel)) (va_Nw.use rfl (xk_c3 hxk)) hce hcv hcl ?_
      refine lv_astore_n (lv' := [(3, .ref qe9), (0, .ref x), (1, .int p0), (2, .ref aQ)]) hx hb dL_see_15 rfl hl (by decide) rfl (fun ls hl => ?_)
      refine lv_iconst (v := 2) hx hb dL_see_16 (by decide) ?_
      have hP9 := hP.sub (ws' := [(x, .inr (1, [.ref aH, .ref aL, .ref aS, .ref aO, .ref aK, .ref aZ, .ref cv, .int tcn, .int mcn, .int swd, .int rwd, .int bpt, .int flm])), (aH, .inl (cI, 34, .inl hd)), (aL, .inl (cI, 34, .inl la)), (aS, .inl (cI, 34, .inl se_2)), (aQ, .inl (cJ, 1, .inr (.inl ou)))]) [1, 2, 3, 4, 0] rfl
      have hD9 := hD.sub (ws' := [(x, .inr (1, [.ref aH, .ref aL, .ref aS, .ref aO, .ref aK, .ref aZ, .ref cv, .int tcn, .int mcn, .int swd, .int rwd, .int bpt, .int flm])), (aH, .inl (cI, 34, .inl hd)), (aL, .inl (cI, 34, .inl la)), (aS, .inl (cI, 34, .inl se_2)), (aQ, .inl (cJ, 1, .inr (.inl ou)))]) [1, 2, 3, 4, 0] (by decide) rfl
      rw [← hQ9]
      exact W.iret (v := (2 : Int32)) hx hb hr (fun t ht hW => ⟨⟨(2 : Int32), (se_2, ou), rfl, hw, by rw [ht]; exact hP9, va_K.moved hW.alike hK, hD9⟩, hS.F ht⟩) hS.2.2 dL_see_17

def w_L_meld (tcn : Int32) (mcn : Int32) (hd : (Nat → Int32)) (la : (Nat → Int32)) (so : (Nat → Int32)) (ki : (Nat → Int32)) (op : (Nat → Int32)) (ou : (Nat → Int64)) (p0 : Int32) (p1 : Int32) (p2 : Int32) (post : Int32 → Int32 → Int32 → (Nat → Int32) → (Nat → Int32) → (Nat → Int32) → (Nat → Int32) → (Nat → Int32) → (Nat → Int64) → Prop) : Prop := ((w_X1_meld tcn mcn hd la so ki op p0 p1 p2 (fun r1 tcn_2 mcn_3 hd_4 la_5 so_6 ki_7 op_8 => (vp_in (0 : Int32) 1 ∧ (post (0 : Int32) tcn_2 mcn_3 hd_4 la_5 so_6 ki_7 op_8 (vp_updL ou (0 : Int32).toNatClampNeg r1.toInt64))))) ∨ (w_X1_meld_x tcn mcn hd la so ki op p0 p1 p2 (fun E10 tcn_2 mcn_3 hd_4 la_5 so_6 ki_7 op_8 => ((E10 = "java/lang/IndexOutOfBoundsException" ∧ (post (1 : Int32) tcn_2 mcn_3 hd_4 la_5 so_6 ki_7 op_8 ou)) ∨ (E10 = "java/lang/IllegalArgumentException" ∧ (post (2 : Int32) tcn_2 mcn_3 hd_4 la_5 so_6 ki_7 op_8 ou)) ∨ (E10 = "java/lang/IllegalStateException" ∧ (post (3 : Int32) tcn_2 mcn_3 hd_4 la_5 so_6 ki_7 op_8 ou))))))

set_option maxHeartbeats 4000000 in
set_option maxRecDepth 100000 in
theorem c_L_meld (l : Launch) (hl9 : l.stackTraces = false) (dC : Nat → ClassId) (dI : Nat → Nat → Nat) (cI cZ cJ : ClassId) (x : Nat) (aH : Nat) (aL : Nat) (aS : Nat) (aO : Nat) (aK : Nat) (aZ : Nat) (cv : Nat) (aQ : Nat) (sz : Nat) (tcn : Int32) (mcn : Int32) (swd : Int32) (rwd : Int32) (bpt : Int32) (flm : Int32) (hd : (Nat → Int32)) (la : (Nat → Int32)) (so : (Nat → Int32)) (ki : (Nat → Int32)) (op : (Nat → Int32)) (ou : (Nat → Int64)) (p0 : Int32) (p1 : Int32) (p2 : Int32) (post : Int32 → Int32 → Int32 → (Nat → Int32) → (Nat → Int32) → (Nat → Int32) → (Nat → Int32) → (Nat → Int32) → (Nat → Int64) → Prop) (hw : w_L_meld tcn mcn hd la so ki op ou p0 p1 p2 post) : Met l yL_meld wsL_meld ({ frames := 10, cells := 1, slots := 6, locals := 199 } : Room) (va_Pc [.ref x, .int p0, .int p1, .int p2, .ref aQ] (fun U => U.heap.size = sz ∧ va_P (dC, dI) vwCl [(x, .inr (1, [.ref aH, .ref aL, .ref aS, .ref aO, .ref aK, .ref aZ, .ref cv, .int tcn, .int mcn, .int swd, .int rwd, .int bpt, .int flm])), (aH, .inl (cI, 34, .inl hd)), (aL, .inl (cI, 34, .inl la)), (aO, .inl (cI, 4, .inl so)), (aK, .inl (cI, 4, .inl ki)), (aZ, .inl (cZ, 4, .inl op)), (aQ, .inl (cJ, 1, .inr (.inl ou)))] U.heap ∧ va_K (dC, dI) vwCl [(cI, .int), (cZ, .boolean), (cJ, .long)] U ∧ va_D (fun _ => True) [(x, .inr (1, [.ref aH, .ref aL, .ref aS, .ref aO, .ref aK, .ref aZ, .ref cv, .int tcn, .int mcn, .int swd, .int rwd, .int bpt, .int flm])), (aH, .inl (cI, 34, .inl hd)), (aL, .inl (cI, 34, .inl la)), (aO, .inl (cI, 4, .inl so)), (aK, .inl (cI, 4, .inl ki)), (aZ, .inl (cZ, 4, .inl op)), (aQ, .inl (cJ, 1, .inr (.inl ou)))] ∧ nck U ∧ xk (va_A [(x, .inr (1, [.ref aH, .ref aL, .ref aS, .ref aO, .ref aK, .ref aZ, .ref cv, .int tcn, .int mcn, .int swd, .int rwd, .int bpt, .int flm])), (aH, .inl (cI, 34, .inl hd)), (aL, .inl (cI, 34, .inl la)), (aO, .inl (cI, 4, .inl so)), (aK, .inl (cI, 4, .inl ki)), (aZ, .inl (cZ, 4, .inl op)), (aQ, .inl (cJ, 1, .inr (.inl ou)))] sz) U)) (va_Qi (fun (r9 : Int32) (u9 : Int32 × Int32 × (Nat → Int32) × (Nat → Int32) × (Nat → Int32) × (Nat → Int32) × (Nat → Int32) × (Nat → Int64)) => post r9 u9.1 u9.2.1 u9.2.2.1 u9.2.2.2.1 u9.2.2.2.2.1 u9.2.2.2.2.2.1 u9.2.2.2.2.2.2.1 u9.2.2.2.2.2.2.2) (fun (u9 : Int32 × Int32 × (Nat → Int32) × (Nat → Int32) × (Nat → Int32) × (Nat → Int32) × (Nat → Int32) × (Nat → Int64)) (t9 : State) => va_P (dC, dI) vwCl [(x, .inr (1, [.ref aH, .ref aL, .ref aS, .ref aO, .ref aK, .ref aZ, .ref cv, .int u9.1, .int u9.2.1, .int swd, .int rwd, .int bpt, .int flm])), (aH, .inl (cI, 34, .inl u9.2.2.1)), (aL, .inl (cI, 34, .inl u9.2.2.2.1)), (aO, .inl (cI, 4, .inl u9.2.2.2.2.1)), (aK, .inl (cI, 4, .inl u9.2.2.2.2.2.1)), (aZ, .inl (cZ, 4, .inl u9.2.2.2.2.2.2.1)), (aQ, .inl (cJ, 1, .inr (.inl u9.2.2.2.2.2.2.2)))] t9.heap ∧ va_K (dC, dI) vwCl [(cI, .int), (cZ, .boolean), (cJ, .long)] t9 ∧ va_D (va_A [(x, .inr (1, [.ref aH, .ref aL, .ref aS, .ref aO, .ref aK, .ref aZ, .ref cv, .int tcn, .int mcn, .int swd, .int rwd, .int bpt, .int flm])), (aH, .inl (cI, 34, .inl hd)), (aL, .inl (cI, 34, .inl la)), (aO, .inl (cI, 4, .inl so)), (aK, .inl (cI, 4, .inl ki)), (aZ, .inl (cZ, 4, .inl op)), (aQ, .inl (cJ, 1, .inr (.inl ou)))] sz) [(x, .inr (1, [.ref aH, .ref aL, .ref aS, .ref aO, .ref aK, .ref aZ, .ref cv, .int u9.1, .int u9.2.1, .int swd, .int rwd, .int bpt, .int flm])), (aH, .inl (cI, 34, .inl u9.2.2.1)), (aL, .inl (cI, 34, .inl u9.2.2.2.1)), (aO, .inl (cI, 4, .inl u9.2.2.2.2.1)), (aK, .inl (cI, 4, .inl u9.2.2.2.2.2.1)), (aZ, .inl (cZ, 4, .inl u9.2.2.2.2.2.2.1)), (aQ, .inl (cJ, 1, .inr (.inl u9.2.2.2.2.2.2.2)))]) (va_A [(x, .inr (1, [.ref aH, .ref aL, .ref aS, .ref aO, .ref aK, .ref aZ, .ref cv, .int tcn, .int mcn, .int swd, .int rwd, .int bpt, .int flm])), (aH, .inl (cI, 34, .inl hd)), (aL, .inl (cI, 34, .inl la)), (aO, .inl (cI, 4, .inl so)), (aK, .inl (cI, 4, .inl ki)), (aZ, .inl (cZ, 4, .inl op)), (aQ, .inl (cJ, 1, .inr (.inl ou)))] sz)) 1 6 (va_A [(x, .inr (1, [.ref aH, .ref aL, .ref aS, .ref aO, .ref aK, .ref aZ, .ref cv, .int tcn, .int mcn, .int swd, .int rwd, .int bpt, .int flm])), (aH, .inl (cI, 34, .inl hd)), (aL, .inl (cI, 34, .inl la)), (aO, .inl (cI, 4, .inl so)), (aK, .inl (cI, 4, .inl ki)), (aZ, .inl (cZ, 4, .inl op)), (aQ, .inl (cJ, 1, .inr (.inl ou)))] sz) := by
  refine va_MetW (cc := cL_meld) (maxL := 6) (ret := (some .int)) (by decide) rfl ?_
  intro p e s m args below meth c s₁ B hml hv
  obtain ⟨rfl, hsz, hP, hK, hD0, hnc, hxk⟩ := hv
  have hx := B.exec
  have hb := B.bytes
  have hr := B.returns
  have hts := atoms_spec (ws := wsL_meld) B.pre
  have hown : s.vm.findClass RL = some m.cls := findClass_of_methodNamed B.named
  have hlocks := B.notSynchronized
  have hinX1 : ∀ w ∈ u_ws RX1 TX1 13, w ∈ wsL_meld := by decide +kernel
  have hTab := vx_table (x := yL_meld) B (hts (.codeWith yL_meld cL_meld 6 (some .int) [(0, 12, 15, 13), (0, 12, 19, 27), (0, 12, 23, 15)]) (by decide +kernel))
  have hK2 := hK.sub (tys' := [(cI, .int), (cZ, .boolean)]) [0, 1] rfl
  subst hsz
  have hD := hD0.self (sz := s.heap.size)
  generalize hAe : va_A [(x, .inr (1, [.ref aH, .ref aL, .ref aS, .ref aO, .ref aK, .ref aZ, .ref cv, .int tcn, .int mcn, .int swd, .int rwd, .int bpt, .int flm])), (aH, .inl (cI, 34, .inl hd)), (aL, .inl (cI, 34, .inl la)), (aO, .inl (cI, 4, .inl so)), (aK, .inl (cI, 4, .inl ki)), (aZ, .inl (cZ, 4, .inl op)), (aQ, .inl (cJ, 1, .inr (.inl ou)))] s.heap.size = A at hD hxk ⊢
  have hA : ∀ q : Nat, s.heap.size ≤ q → A q := fun q h => by rw [← hAe]; exact Or.inr h
  have hS : va_S A s.heap s.heap [] := va_S.rf
  have hl := lv_entry ([.ref x, .int p0, .int p1, .int p2, .ref aQ]) (n := 6) (Nat.le_of_ble_eq_true rfl)
  rw [lg_entry_eq]
  generalize (lg_sl ([.ref x, .int p0, .int p1, .int p2, .ref aQ]) ++ List.replicate (6 - (lg_sl ([.ref x, .int p0, .int p1, .int p2, .ref aQ])).length) Slot.unset).toArray = ls at hl ⊢
  have hl : lv_has ls 6 [(0, .ref x), (1, .int p0), (2, .int p1), (3, .int p2), (4, .ref aQ)] := hl
  refine (?_ : ∀ Q9 : State → Prop, MQ below _ _ s _ _ _ = Q9 → W p l e ({ frames := 10, cells := 1, slots := 6, locals := 199 } : Room) s m _ below meth c s.heap [] 0 0 Q9 (F0 m 0 ls [])) _ rfl
  intro Q9 hQ9
  have hw : ((w_X1_meld tcn mcn hd la so ki op p0 p1 p2 (fun r1 tcn_2 mcn_3 hd_4 la_5 so_6 ki_7 op_8 => (vp_in (0 : Int32) 1 ∧ (post (0 : Int32) tcn_2 mcn_3 hd_4 la_5 so_6 ki_7 op_8 (vp_updL ou (0 : Int32).toNatClampNeg r1.toInt64))))) ∨ (w_X1_meld_x tcn mcn hd la so ki op p0 p1 p2 (fun E10 tcn_2 mcn_3 hd_4 la_5 so_6 ki_7 op_8 => ((E10 = "java/lang/IndexOutOfBoundsException" ∧ (post (1 : Int32) tcn_2 mcn_3 hd_4 la_5 so_6 ki_7 op_8 ou)) ∨ (E10 = "java/lang/IllegalArgumentException" ∧ (post (2 : Int32) tcn_2 mcn_3 hd_4 la_5 so_6 ki_7 op_8 ou)) ∨ (E10 = "java/lang/IllegalStateException" ∧ (post (3 : Int32) tcn_2 mcn_3 hd_4 la_5 so_6 ki_7 op_8 ou)))))) := hw
  refine lv_aload hx hb dL_meld_0 (lv_at hl 4 rfl) ?_
  refine lv_iconst (v := 0) hx hb dL_meld_2 (by decide) ?_
  refine lv_aload_n hx hb dL_meld_3 rfl (lv_at hl 0 rfl) ?_
  refine lv_iload_n hx hb dL_meld_4 rfl (lv_at hl 1 rfl) ?_
  refine lv_iload_n hx hb dL_meld_5 rfl (lv_at hl 2 rfl) ?_
  refine lv_iload_n hx hb dL_meld_6 rfl (lv_at hl 3 rfl) ?_
  have hPc := hP.sub (ws' := [(x, .inr (1, [.ref aH, .ref aL, .ref aS, .ref aO, .ref aK, .ref aZ, .ref cv, .int tcn, .int mcn, .int swd, .int rwd, .int bpt, .int flm])), (aH, .inl (cI, 34, .inl hd)), (aL, .inl (cI, 34, .inl la)), (aO, .inl (cI, 4, .inl so)), (aK, .inl (cI, 4, .inl ki)), (aZ, .inl (cZ, 4, .inl op))]) [0, 1, 2, 3, 4, 5] rfl
  have hDc := hD.sub (ws' := [(x, .inr (1, [.ref aH, .ref aL, .ref aS, .ref aO, .ref aK, .ref aZ, .ref cv, .int tcn, .int mcn, .int swd, .int rwd, .int bpt, .int flm])), (aH, .inl (cI, 34, .inl hd)), (aL, .inl (cI, 34, .inl la)), (aO, .inl (cI, 4, .inl so)), (aK, .inl (cI, 4, .inl ki)), (aZ, .inl (cZ, 4, .inl op))]) [0, 1, 2, 3, 4, 5] (by decide) rfl
  have hFc := va_free (wc := [(x, .inr (1, [.ref aH, .ref aL, .ref aS, .ref aO, .ref aK, .ref aZ, .ref cv, .int tcn, .int mcn, .int swd, .int rwd, .int bpt, .int flm])), (aH, .inl (cI, 34, .inl hd)), (aL, .inl (cI, 34, .inl la)), (aO, .inl (cI, 4, .inl so)), (aK, .inl (cI, 4, .inl ki)), (aZ, .inl (cZ, 4, .inl op))]) hD hS hA [0, 1, 2, 3, 4, 5] rfl
  rcases hw with hw | hw
  · refine va_calli (va_runV (As := [.int p0, .int p1, .int p2]) (rest := [.int (0 : Int32), .ref aQ]) ⟨hx, hb, hml, hown, hts⟩ (c_X1_meld l dC dI cI cZ x aH aL aS aO aK aZ cv s.heap.size tcn mcn swd rwd bpt flm hd la so ki op p0 p1 p2 _ hw) (cwV 3 hts gL_meld_X1_meld rfl rfl rfl (by decide +kernel) ⟨Nat.le_of_ble_eq_true rfl, Nat.le_of_ble_eq_true rfl⟩) ⟨fun a U g mk q => by obtain ⟨q0, q1, qP, qK, qD⟩ := q; exact ⟨q0, q1, qP, va_K.moved (u := U) (U := U.calling g mk a) (Vm.Alike.refl U.vm) qK, qD⟩, va_recv hK2 hPc (ci := 1) (q0 := 0) rfl rfl, fun U hU hW => ⟨rfl, by rw [hU], by rw [hU]; exact hPc, va_K.moved hW.alike hK2, hDc.weaken (fun _ _ _ _ => trivial)⟩⟩ rfl rfl hl.1 rfl (lv_room (Nat.le_of_ble_eq_true rfl)) dL_meld_7 ⟨Nat.le_of_ble_eq_true rfl, Nat.le_of_ble_eq_true rfl⟩) hS (fun q _ h => hFc q h) hFc (fun r1 u t H1 locs ht hvm hw hB hz1 hk1 hS => ?_)
    obtain ⟨tcn_2, mcn_3, hd_4, la_5, so_6, ki_7, op_8⟩ := u
    obtain ⟨hP1, -, hD1⟩ := hB
    have hw := And.intro hw trivial
    try dsimp only at hw
    have hw := hw.1
    rw [ht] at hP1
    obtain ⟨hP, hD⟩ := va_join (wr := [(aQ, .inl (cJ, 1, .inr (.inl ou)))]) (w1 := [(x, .inr (1, [.ref aH, .ref aL, .ref aS, .ref aO, .ref aK, .ref aZ, .ref cv, .int tcn_2, .int mcn_3, .int swd, .int rwd, .int bpt, .int flm])), (aH, .inl (cI, 34, .inl hd_4)), (aL, .inl (cI, 34, .inl la_5)), (aO, .inl (cI, 4, .inl so_6)), (aK, .inl (cI, 4, .inl ki_7)), (aZ, .inl (cZ, 4, .inl op_8))]) hP hD [0, 1, 2, 3, 4, 5] [6] rfl rfl (by decide) (by decide) hk1 hFc hP1 hD1
    generalize H1 = H at hP hS ⊢
    have hP : va_P (dC, dI) vwCl [(aQ, .inl (cJ, 1, .inr (.inl ou))), (x, .inr (1, [.ref aH, .ref aL, .ref aS, .ref aO, .ref aK, .ref aZ, .ref cv, .int tcn_2, .int mcn_3, .int swd, .int rwd, .int bpt, .int flm])), (aH, .inl (cI, 34, .inl hd_4)), (aL, .inl (cI, 34, .inl la_5)), (aO, .inl (cI, 4, .inl so_6)), (aK, .inl (cI, 4, .inl ki_7)), (aZ, .inl (cZ, 4, .inl op_8))] H := hP
    have hD : va_D A [(aQ, .inl (cJ, 1, .inr (.inl ou))), (x, .inr (1, [.ref aH, .ref aL, .ref aS, .ref aO, .ref aK, .ref aZ, .ref cv, .int tcn_2, .int mcn_3, .int swd, .int rwd, .int bpt, .int flm])), (aH, .inl (cI, 34, .inl hd_4)), (aL, .inl (cI, 34, .inl la_5)), (aO, .inl (cI, 4, .inl so_6)), (aK, .inl (cI, 4, .inl ki_7)), (aZ, .inl (cZ, 4, .inl op_8))] := hD
    refine lv_i2l (v := r1.toInt64) hx hb dL_meld_10 rfl ?_
    obtain ⟨h9, hw⟩ := hw
    refine va_last hx hb hK hP hD hS 0 2 rfl rfl h9 dL_meld_11 (fun H locs hP hD hS => ?_)
    have hP : va_P (dC, dI) vwCl [(aQ, .inl (cJ, 1, .inr (.inl (vp_updL ou (0 : Int32).toNatClampNeg r1.toInt64)))), (x, .inr (1, [.ref aH, .ref aL, .ref aS, .ref aO, .ref aK, .ref aZ, .ref cv, .int tcn_2, .int mcn_3, .int swd, .int rwd, .int bpt, .int flm])), (aH, .inl (cI, 34, .inl hd_4)), (aL, .inl (cI, 34, .inl la_5)), (aO, .inl (cI, 4, .inl so_6)), (aK, .inl (cI, 4, .inl ki_7)), (aZ, .inl (cZ, 4, .inl op_8))] H := hP
    have hD : va_D A [(aQ, .inl (cJ, 1, .inr (.inl (vp_updL ou (0 : Int32).toNatClampNeg r1.toInt64)))), (x, .inr (1, [.ref aH, .ref aL, .ref aS, .ref aO, .ref aK, .ref aZ, .ref cv, .int tcn_2, .int mcn_3, .int swd, .int rwd, .int bpt, .int flm])), (aH, .inl (cI, 34, .inl hd_4)), (aL, .inl (cI, 34, .inl la_5)), (aO, .inl (cI, 4, .inl so_6)), (aK, .inl (cI, 4, .inl ki_7)), (aZ, .inl (cZ, 4, .inl op_8))] := hD
    refine lv_goto (tgt := 27) hx hb dL_meld_12 (by decide) ?_
    refine lv_iconst (v := 0) hx hb dL_meld_27 (by decide) ?_
    have hP9 := hP.sub (ws' := [(x, .inr (1, [.ref aH, .ref aL, .ref aS, .ref aO, .ref aK, .ref aZ, .ref cv, .int tcn_2, .int mcn_3, .int swd, .int rwd, .int bpt, .int flm])), (aH, .inl (cI, 34, .inl hd_4)), (aL, .inl (cI, 34, .inl la_5)), (aO, .inl (cI, 4, .inl so_6)), (aK, .inl (cI, 4, .inl ki_7)), (aZ, .inl (cZ, 4, .inl op_8)), (aQ, .inl (cJ, 1, .inr (.inl (vp_updL ou (0 : Int32).toNatClampNeg r1.toInt64))))]) [1, 2, 3, 4, 5, 6, 0] rfl
    have hD9 := hD.sub (ws' := [(x, .inr (1, [.ref aH, .ref aL, .ref aS, .ref aO, .ref aK, .ref aZ, .ref cv, .int tcn_2, .int mcn_3, .int swd, .int rwd, .int bpt, .int flm])), (aH, .inl (cI, 34, .inl hd_4)), (aL, .inl (cI, 34, .inl la_5)), (aO, .inl (cI, 4, .inl so_6)), (aK, .inl (cI, 4, .inl ki_7)), (aZ, .inl (cZ, 4, .inl op_8)), (aQ, .inl (cJ, 1, .inr (.inl (vp_updL ou (0 : Int32).toNatClampNeg r1.toInt64))))]) [1, 2, 3, 4, 5, 6, 0] (by decide) rfl
    refine W.widen (k := 1) (n := 6) (by omega) (by omega) ?_
    rw [← hQ9]
    exact W.iret (v := (0 : Int32)) hx hb hr (fun t ht hW => ⟨⟨(0 : Int32), (tcn_2, mcn_3, hd_4, la_5, so_6, ki_7, op_8, vp_updL ou (0 : Int32).toNatClampNeg r1.toInt64), rfl, hw, by rw [ht]; exact hP9, va_K.moved hW.alike hK, hD9⟩, hS.F ht⟩) hS.2.2 dL_meld_28
  · refine vx_calli (vx_runV (As := [.int p0, .int p1, .int p2]) (rest := [.int (0 : Int32), .ref aQ]) ⟨hx, hb, hml, hown, hts⟩ (c_X1_meld_x l hl9 dC dI cI cZ x aH aL aS aO aK aZ cv s.heap.size tcn mcn swd rwd bpt flm hd la so ki op p0 p1 p2 _ hw) (cwV 3 hts gL_meld_X1_meld rfl rfl rfl (by decide +kernel) ⟨Nat.le_of_ble_eq_true rfl, Nat.le_of_ble_eq_true rfl⟩) ⟨fun a U g mk q => by obtain ⟨q0, q1, qP, qK, qD, qX⟩ := q; exact ⟨q0, q1, qP, va_K.moved (u := U) (U := U.calling g mk a) (Vm.Alike.refl U.vm) qK, qD, xk_same rfl rfl qX⟩, va_recv hK2 hPc (ci := 1) (q0 := 0) rfl rfl, fun U hU hW => ⟨rfl, by rw [hU], by rw [hU]; exact hPc, va_K.moved hW.alike hK2, hDc.weaken (fun _ _ _ _ => trivial), xk_call hS hU hW (fun q h => hFc q h) hxk⟩⟩ rfl rfl hl.1 rfl (lv_room (Nat.le_of_ble_eq_true rfl)) dL_meld_7 ⟨Nat.le_of_ble_eq_true rfl, Nat.le_of_ble_eq_true rfl⟩) hS (fun q _ h => hFc q h) hFc (fun q _ h => hFc q h) (fun E ce qe9 u t H1 locs ht hvm hw hB hz1 hk1 hS hce hcv hcl => ?_) (fun r1 u t H1 locs ht hvm hw hB hz1 hk1 hS => False.elim hw)
    obtain ⟨E10, tcn_2, mcn_3, hd_4, la_5, so_6, ki_7, op_8⟩ := u
    obtain ⟨hE9, hP1, -, hD1⟩ := hB
    try dsimp only at hw
    rw [ht] at hP1
    obtain ⟨hP, hD⟩ := va_join (wr := [(aQ, .inl (cJ, 1, .inr (.inl ou)))]) (w1 := [(x, .inr (1, [.ref aH, .ref aL, .ref aS, .ref aO, .ref aK, .ref aZ, .ref cv, .int tcn_2, .int mcn_3, .int swd, .int rwd, .int bpt, .int flm])), (aH, .inl (cI, 34, .inl hd_4)), (aL, .inl (cI, 34, .inl la_5)), (aO, .inl (cI, 4, .inl so_6)), (aK, .inl (cI, 4, .inl ki_7)), (aZ, .inl (cZ, 4, .inl op_8))]) hP hD [0, 1, 2, 3, 4, 5] [6] rfl rfl (by decide) (by decide) hk1 hFc hP1 hD1
    generalize H1 = H at hP hS hce ⊢
    have hP : va_P (dC, dI) vwCl [(aQ, .inl (cJ, 1, .inr (.inl ou))), (x, .inr (1, [.ref aH, .ref aL, .ref aS, .ref aO, .ref aK, .ref aZ, .ref cv, .int tcn_2, .int mcn_3, .int swd, .int rwd, .int bpt, .int flm])), (aH, .inl (cI, 34, .inl hd_4)), (aL, .inl (cI, 34, .inl la_5)), (aO, .inl (cI, 4, .inl so_6)), (aK, .inl (cI, 4, .inl ki_7)), (aZ, .inl (cZ, 4, .inl op_8))] H := hP
    have hD : va_D A [(aQ, .inl (cJ, 1, .inr (.inl ou))), (x, .inr (1, [.ref aH, .ref aL, .ref aS, .ref aO, .ref aK, .ref aZ, .ref cv, .int tcn_2, .int mcn_3, .int swd, .int rwd, .int bpt, .int flm])), (aH, .inl (cI, 34, .inl hd_4)), (aL, .inl (cI, 34, .inl la_5)), (aO, .inl (cI, 4, .inl so_6)), (aK, .inl (cI, 4, .inl ki_7)), (aZ, .inl (cZ, 4, .inl op_8))] := hD
    rcases hw with ⟨hq, hw⟩ | ⟨hq, hw⟩ | ⟨hq, hw⟩
    · have hE := hE9.trans hq
      try dsimp only at hE
      subst hE
      refine vx_catch (own := RL) (name := "java/lang/IndexOutOfBoundsException") (E := "java/lang/IndexOutOfBoundsException") hown [] ⟨0, 12, 15, 13⟩ [⟨0, 12, 19, 27⟩, ⟨0, 12, 23, 15⟩] (by rw [hTab]; rfl) (fun z hz => nomatch hz) (by decide) (by decide) (hts (.classLink RL 13 "java/lang/IndexOutOfBoundsException") (by decide +kernel)) (va_Nw.use rfl (xk_c1 hxk)) hce hcv hcl ?_
      refine lv_astore (lv' := [(5, .ref qe9), (0, .ref x), (1, .int p0), (2, .int p1), (3, .int p2), (4, .ref aQ)]) hx hb dL_meld_15 hl (by decide) rfl (fun ls hl => ?_)
      refine lv_iconst (v := 1) hx hb dL_meld_17 (by decide) ?_
      have hP9 := hP.sub (ws' := [(x, .inr (1, [.ref aH, .ref aL, .ref aS, .ref aO, .ref aK, .ref aZ, .ref cv, .int tcn_2, .int mcn_3, .int swd, .int rwd, .int bpt, .int flm])), (aH, .inl (cI, 34, .inl hd_4)), (aL, .inl (cI, 34, .inl la_5)), (aO, .inl (cI, 4, .inl so_6)), (aK, .inl (cI, 4, .inl ki_7)), (aZ, .inl (cZ, 4, .inl op_8)), (aQ, .inl (cJ, 1, .inr (.inl ou)))]) [1, 2, 3, 4, 5, 6, 0] rfl
      have hD9 := hD.sub (ws' := [(x, .inr (1, [.ref aH, .ref aL, .ref aS, .ref aO, .ref aK, .ref aZ, .ref cv, .int tcn_2, .int mcn_3, .int swd, .int rwd, .int bpt, .int flm])), (aH, .inl (cI, 34, .inl hd_4)), (aL, .inl (cI, 34, .inl la_5)), (aO, .inl (cI, 4, .inl so_6)), (aK, .inl (cI, 4, .inl ki_7)), (aZ, .inl (cZ, 4, .inl op_8)), (aQ, .inl (cJ, 1, .inr (.inl ou)))]) [1, 2, 3, 4, 5, 6, 0] (by decide) rfl
      rw [← hQ9]
      exact W.iret (v := (1 : Int32)) hx hb hr (fun t ht hW => ⟨⟨(1 : Int32), (tcn_2, mcn_3, hd_4, la_5, so_6, ki_7, op_8, ou), rfl, hw, by rw [ht]; exact hP9, va_K.moved hW.alike hK, hD9⟩, hS.F ht⟩) hS.2.2 dL_meld_18
    · have hE := hE9.trans hq
      try dsimp only at hE
      subst hE
      refine vx_catch (own := RL) (name := "java/lang/IllegalArgumentException") (E := "java/lang/IllegalArgumentException") hown [⟨0, 12, 15, 13⟩] ⟨0, 12, 19, 27⟩ [⟨0, 12, 23, 15⟩] (by rw [hTab]; rfl) (by
          intro z hz
          rcases List.mem_cons.mp hz with rfl | hz
          · exact Or.inr ⟨by decide, "java/lang/IndexOutOfBoundsException", hts (.classLink RL 13 "java/lang/IndexOutOfBoundsException") (by decide +kernel), nck_10 hnc⟩
          cases hz) (by decide) (by decide) (hts (.classLink RL 27 "java/lang/IllegalArgumentException") (by decide +kernel)) (va_Nw.use rfl (xk_c2 hxk)) hce hcv hcl ?_
      refine lv_astore (lv' := [(5, .ref qe9), (0, .ref x), (1, .int p0), (2, .int p1), (3, .int p2), (4, .ref aQ)]) hx hb dL_meld_19 hl (by decide) rfl (fun ls hl => ?_)
      refine lv_iconst (v := 2) hx hb dL_meld_21 (by decide) ?_
      have hP9 := hP.sub (ws' := [(x, .inr (1, [.ref aH, .ref aL, .ref aS, .ref aO, .ref aK, .ref aZ, .ref cv, .int tcn_2, .int mcn_3, .int swd, .int rwd, .int bpt, .int flm])), (aH, .inl (cI, 34, .inl hd_4)), (aL, .inl (cI, 34, .inl la_5)), (aO, .inl (cI, 4, .inl so_6)), (aK, .inl (cI, 4, .inl ki_7)), (aZ, .inl (cZ, 4, .inl op_8)), (aQ, .inl (cJ, 1, .inr (.inl ou)))]) [1, 2, 3, 4, 5, 6, 0] rfl
      have hD9 := hD.sub (ws' := [(x, .inr (1, [.ref aH, .ref aL, .ref aS, .ref aO, .ref aK, .ref aZ, .ref cv, .int tcn_2, .int mcn_3, .int swd, .int rwd, .int bpt, .int flm])), (aH, .inl (cI, 34, .inl hd_4)), (aL, .inl (cI, 34, .inl la_5)), (aO, .inl (cI, 4, .inl so_6)), (aK, .inl (cI, 4, .inl ki_7)), (aZ, .inl (cZ, 4, .inl op_8)), (aQ, .inl (cJ, 1, .inr (.inl ou)))]) [1, 2, 3, 4, 5, 6, 0] (by decide) rfl
      rw [← hQ9]
      exact W.iret (v := (2 : Int32)) hx hb hr (fun t ht hW => ⟨⟨(2 : Int32), (tcn_2, mcn_3, hd_4, la_5, so_6, ki_7, op_8, ou), rfl, hw, by rw [ht]; exact hP9, va_K.moved hW.alike hK, hD9⟩, hS.F ht⟩) hS.2.2 dL_meld_22
    · have hE := hE9.trans hq
      try dsimp only at hE
      subst hE
      refine vx_catch (own := RL) (name := "java/lang/IllegalStateException") (E := "java/lang/IllegalStateException") hown [⟨0, 12, 15, 13⟩, ⟨0, 12, 19, 27⟩] ⟨0, 12, 23, 15⟩ [] (by rw [hTab]; rfl) (by
          intro z hz
          rcases List.mem_cons.mp hz with rfl | hz
          · exact Or.inr ⟨by decide, "java/lang/IndexOutOfBoundsException", hts (.classLink RL 13 "java/lang/IndexOutOfBoundsException") (by decide +kernel), nck_20 hnc⟩
          rcases List.mem_cons.mp hz with rfl | hz
          · exact Or.inr ⟨by decide, "java/lang/IllegalArgumentException", hts (.classLink RL 27 "java/lang/IllegalArgumentException") (by decide +kernel), nck_21 hnc⟩
          cases hz) (by decide) (by decide) (hts (.classLink RL 15 "java/lang/IllegalStateException") (by decide +kernel)) (va_Nw.use rfl (xk_c3 hxk)) hce hcv hcl ?_
      refine lv_astore (lv' := [(5, .ref qe9), (0, .ref x), (1, .int p0), (2, .int p1), (3, .int p2), (4, .ref aQ)]) hx hb dL_meld_23 hl (by decide) rfl (fun ls hl => ?_)
      refine lv_iconst (v := 3) hx hb dL_meld_25 (by decide) ?_
      have hP9 := hP.sub (ws' := [(x, .inr (1, [.ref aH, .ref aL, .ref aS, .ref aO, .ref aK, .ref aZ, .ref cv, .int tcn_2, .int mcn_3, .int swd, .int rwd, .int bpt, .int flm])), (aH, .inl (cI, 34, .inl hd_4)), (aL, .inl (cI, 34, .inl la_5)), (aO, .inl (cI, 4, .inl so_6)), (aK, .inl (cI, 4, .inl ki_7)), (aZ, .inl (cZ, 4, .inl op_8)), (aQ, .inl (cJ, 1, .inr (.inl ou)))]) [1, 2, 3, 4, 5, 6, 0] rfl
      have hD9 := hD.sub (ws' := [(x, .inr (1, [.ref aH, .ref aL, .ref aS, .ref aO, .ref aK, .ref aZ, .ref cv, .int tcn_2, .int mcn_3, .int swd, .int rwd, .int bpt, .int flm])), (aH, .inl (cI, 34, .inl hd_4)), (aL, .inl (cI, 34, .inl la_5)), (aO, .inl (cI, 4, .inl so_6)), (aK, .inl (cI, 4, .inl ki_7)), (aZ, .inl (cZ, 4, .inl op_8)), (aQ, .inl (cJ, 1, .inr (.inl ou)))]) [1, 2, 3, 4, 5, 6, 0] (by decide) rfl
      rw [← hQ9]
      exact W.iret (v := (3 : Int32)) hx hb hr (fun t ht hW => ⟨⟨(3 : Int32), (tcn_2, mcn_3, hd_4, la_5, so_6, ki_7, op_8, ou), rfl, hw, by rw [ht]; exact hP9, va_K.moved hW.alike hK, hD9⟩, hS.F ht⟩) hS.2.2 dL_meld_26

def w_L_grow (tcn : Int32) (mcn : Int32) (hd : (Nat → Int32)) (la : (Nat → Int32)) (so : (Nat → Int32)) (ki : (Nat → Int32)) (ou : (Nat → Int64)) (p0 : Int32) (post : Int32 → Int32 → (Nat → Int32) → (Nat → Int32) → (Nat → Int32) → (Nat → Int64) → Prop) : Prop := ((w_X1_grow tcn mcn hd la so ki p0 (fun r1 tcn_2 hd_3 la_4 so_5 => (vp_in (0 : Int32) 1 ∧ (post (0 : Int32) tcn_2 hd_3 la_4 so_5 (vp_updL ou (0 : Int32).toNatClampNeg r1.toInt64))))) ∨ (w_X1_grow_x tcn mcn hd la so ki p0 (fun E7 tcn_2 hd_3 la_4 so_5 => ((E7 = "java/lang/IndexOutOfBoundsException" ∧ (post (1 : Int32) tcn_2 hd_3 la_4 so_5 ou)) ∨ (E7 = "java/lang/IllegalStateException" ∧ (post (2 : Int32) tcn_2 hd_3 la_4 so_5 ou))))))

set_option maxHeartbeats 4000000 in
set_option maxRecDepth 100000 in
theorem c_L_grow (l : Launch) (hl9 : l.stackTraces = false) (dC : Nat → ClassId) (dI : Nat → Nat → Nat) (cI cZ cJ : ClassId) (x : Nat) (aH : Nat) (aL : Nat) (aS : Nat) (aO : Nat) (aK : Nat) (aZ : Nat) (cv : Nat) (aQ : Nat) (sz : Nat) (tcn : Int32) (mcn : Int32) (swd : Int32) (rwd : Int32) (bpt : Int32) (flm : Int32) (hd : (Nat → Int32)) (la : (Nat → Int32)) (so : (Nat → Int32)) (ki : (Nat → Int32)) (ou : (Nat → Int64)) (p0 : Int32) (post : Int32 → Int32 → (Nat → Int32) → (Nat → Int32) → (Nat → Int32) → (Nat → Int64) → Prop) (hw : w_L_grow tcn mcn hd la so ki ou p0 post) : Met l yL_grow wsL_grow ({ frames := 9, cells := 1, slots := 6, locals := 176 } : Room) (va_Pc [.ref x, .int p0, .ref aQ] (fun U => U.heap.size = sz ∧ va_P (dC, dI) vwCl [(x, .inr (1, [.ref aH, .ref aL, .ref aS, .ref aO, .ref aK, .ref aZ, .ref cv, .int tcn, .int mcn, .int swd, .int rwd, .int bpt, .int flm])), (aH, .inl (cI, 34, .inl hd)), (aL, .inl (cI, 34, .inl la)), (aO, .inl (cI, 4, .inl so)), (aK, .inl (cI, 4, .inl ki)), (aQ, .inl (cJ, 1, .inr (.inl ou)))] U.heap ∧ va_K (dC, dI) vwCl [(cI, .int), (cZ, .boolean), (cJ, .long)] U ∧ va_D (fun _ => True) [(x, .inr (1, [.ref aH, .ref aL, .ref aS, .ref aO, .ref aK, .ref aZ, .ref cv, .int tcn, .int mcn, .int swd, .int rwd, .int bpt, .int flm])), (aH, .inl (cI, 34, .inl hd)), (aL, .inl (cI, 34, .inl la)), (aO, .inl (cI, 4, .inl so)), (aK, .inl (cI, 4, .inl ki)), (aQ, .inl (cJ, 1, .inr (.inl ou)))] ∧ nck U ∧ xk (va_A [(x, .inr (1, [.ref aH, .ref aL, .ref aS, .ref aO, .ref aK, .ref aZ, .ref cv, .int tcn, .int mcn, .int swd, .int rwd, .int bpt, .int flm])), (aH, .inl (cI, 34, .inl hd)), (aL, .inl (cI, 34, .inl la)), (aO, .inl (cI, 4, .inl so)), (aK, .inl (cI, 4, .inl ki)), (aQ, .inl (cJ, 1, .inr (.inl ou)))] sz) U)) (va_Qi (fun (r9 : Int32) (u9 : Int32 × (Nat → Int32) × (Nat → Int32) × (Nat → Int32) × (Nat → Int64)) => post r9 u9.1 u9.2.1 u9.2.2.1 u9.2.2.2.1 u9.2.2.2.2) (fun (u9 : Int32 × (Nat → Int32) × (Nat → Int32) × (Nat → Int32) × (Nat → Int64)) (t9 : State) => va_P (dC, dI) vwCl [(x, .inr (1, [.ref aH, .ref aL, .ref aS, .ref aO, .ref aK, .ref aZ, .ref cv, .int u9.1, .int mcn, .int swd, .int rwd, .int bpt, .int flm])), (aH, .inl (cI, 34, .inl u9.2.1)), (aL, .inl (cI, 34, .inl u9.2.2.1)), (aO, .inl (cI, 4, .inl u9.2.2.2.1)), (aK, .inl (cI, 4, .inl ki)), (aQ, .inl (cJ, 1, .inr (.inl u9.2.2.2.2)))] t9.heap ∧ va_K (dC, dI) vwCl [(cI, .int), (cZ, .boolean), (cJ, .long)] t9 ∧ va_D (va_A [(x, .inr (1, [.ref aH, .ref aL, .ref aS, .ref aO, .ref aK, .ref aZ, .ref cv, .int tcn, .int mcn, .int swd, .int rwd, .int bpt, .int flm])), (aH, .inl (cI, 34, .inl hd)), (aL, .inl (cI, 34, .inl la)), (aO, .inl (cI, 4, .inl so)), (aK, .inl (cI, 4, .inl ki)), (aQ, .inl (cJ, 1, .inr (.inl ou)))] sz) [(x, .inr (1, [.ref aH, .ref aL, .ref aS, .ref aO, .ref aK, .ref aZ, .ref cv, .int u9.1, .int mcn, .int swd, .int rwd, .int bpt, .int flm])), (aH, .inl (cI, 34, .inl u9.2.1)), (aL, .inl (cI, 34, .inl u9.2.2.1)), (aO, .inl (cI, 4, .inl u9.2.2.2.1)), (aK, .inl (cI, 4, .inl ki)), (aQ, .inl (cJ, 1, .inr (.inl u9.2.2.2.2)))]) (va_A [(x, .inr (1, [.ref aH, .ref aL, .ref aS, .ref aO, .ref aK, .ref aZ, .ref cv, .int tcn, .int mcn, .int swd, .int rwd, .int bpt, .int flm])), (aH, .inl (cI, 34, .inl hd)), (aL, .inl (cI, 34, .inl la)), (aO, .inl (cI, 4, .inl so)), (aK, .inl (cI, 4, .inl ki)), (aQ, .inl (cJ, 1, .inr (.inl ou)))] sz)) 1 6 (va_A [(x, .inr (1, [.ref aH, .ref aL, .ref aS, .ref aO, .ref aK, .ref aZ, .ref cv, .int tcn, .int mcn, .int swd, .int rwd, .int bpt, .int flm])), (aH, .inl (cI, 34, .inl hd)), (aL, .inl (cI, 34, .inl la)), (aO, .inl (cI, 4, .inl so)), (aK, .inl (cI, 4, .inl ki)), (aQ, .inl (cJ, 1, .inr (.inl ou)))] sz) := by
  refine va_MetW (cc := cL_grow) (maxL := 4) (ret := (some .int)) (by decide) rfl ?_
  intro p e s m args below meth c s₁ B hml hv
  obtain ⟨rfl, hsz, hP, hK, hD0, hnc, hxk⟩ := hv
  have hx := B.exec
  have hb := B.bytes
  have hr := B.returns
  have hts := atoms_spec (ws := wsL_grow) B.pre
  have hown : s.vm.findClass RL = some m.cls := findClass_of_methodNamed B.named
  have hlocks := B.notSynchronized
  have hinX1 : ∀ w ∈ u_ws RX1 TX1 13, w ∈ wsL_grow := by decide +kernel
  have hTab := vx_table (x := yL_grow) B (hts (.codeWith yL_grow cL_grow 4 (some .int) [(0, 9, 12, 13), (0, 9, 15, 15)]) (by decide +kernel))
  have hK2 := hK.sub (tys' := [(cI, .int), (cZ, .boolean)]) [0, 1] rfl
  subst hsz
  have hD := hD0.self (sz := s.heap.size)
  generalize hAe : va_A [(x, .inr (1, [.ref aH, .ref aL, .ref aS, .ref aO, .ref aK, .ref aZ, .ref cv, .int tcn, .int mcn, .int swd, .int rwd, .int bpt, .int flm])), (aH, .inl (cI, 34, .inl hd)), (aL, .inl (cI, 34, .inl la)), (aO, .inl (cI, 4, .inl so)), (aK, .inl (cI, 4, .inl ki)), (aQ, .inl (cJ, 1, .inr (.inl ou)))] s.heap.size = A at hD hxk ⊢
  have hA : ∀ q : Nat, s.heap.size ≤ q → A q := fun q h => by rw [← hAe]; exact Or.inr h
  have hS : va_S A s.heap s.heap [] := va_S.rf
  have hl := lv_entry ([.ref x, .int p0, .ref aQ]) (n := 4) (Nat.le_of_ble_eq_true rfl)
  rw [lg_entry_eq]
  generalize (lg_sl ([.ref x, .int p0, .ref aQ]) ++ List.replicate (4 - (lg_sl ([.ref x, .int p0, .ref aQ])).length) Slot.unset).toArray = ls at hl ⊢
  have hl : lv_has ls 4 [(0, .ref x), (1, .int p0), (2, .ref aQ)] := hl
  refine (?_ : ∀ Q9 : State → Prop, MQ below _ _ s _ _ _ = Q9 → W p l e ({ frames := 9, cells := 1, slots := 6, locals := 176 } : Room) s m _ below meth c s.heap [] 0 0 Q9 (F0 m 0 ls [])) _ rfl
  intro Q9 hQ9
  have hw : ((w_X1_grow tcn mcn hd la so ki p0 (fun r1 tcn_2 hd_3 la_4 so_5 => (vp_in (0 : Int32) 1 ∧ (post (0 : Int32) tcn_2 hd_3 la_4 so_5 (vp_updL ou (0 : Int32).toNatClampNeg r1.toInt64))))) ∨ (w_X1_grow_x tcn mcn hd la so ki p0 (fun E7 tcn_2 hd_3 la_4 so_5 => ((E7 = "java/lang/IndexOutOfBoundsException" ∧ (post (1 : Int32) tcn_2 hd_3 la_4 so_5 ou)) ∨ (E7 = "java/lang/IllegalStateException" ∧ (post (2 : Int32) tcn_2 hd_3 la_4 so_5 ou)))))) := hw
  refine lv_aload_n hx hb dL_grow_0 rfl (lv_at hl 2 rfl) ?_
  refine lv_iconst (v := 0) hx hb dL_grow_1 (by decide) ?_
  refine lv_aload_n hx hb dL_grow_2 rfl (lv_at hl 0 rfl) ?_
  refine lv_iload_n hx hb dL_grow_3 rfl (lv_at hl 1 rfl) ?_
  have hPc := hP.sub (ws' := [(x, .inr (1, [.ref aH, .ref aL, .ref aS, .ref aO, .ref aK, .ref aZ, .ref cv, .int tcn, .int mcn, .int swd, .int rwd, .int bpt, .int flm])), (aH, .inl (cI, 34, .inl hd)), (aL, .inl (cI, 34, .inl la)), (aO, .inl (cI, 4, .inl so)), (aK, .inl (cI, 4, .inl ki))]) [0, 1, 2, 3, 4] rfl
  have hDc := hD.sub (ws' := [(x, .inr (1, [.ref aH, .ref aL, .ref aS, .ref aO, .ref aK, .ref aZ, .ref cv, .int tcn, .int mcn, .int swd, .int rwd, .int bpt, .int flm])), (aH, .inl (cI, 34, .inl hd)), (aL, .inl (cI, 34, .inl la)), (aO, .inl (cI, 4, .inl so)), (aK, .inl (cI, 4, .inl ki))]) [0, 1, 2, 3, 4] (by decide) rfl
  have hFc := va_free (wc := [(x, .inr (1, [.ref aH, .ref aL, .ref aS, .ref aO, .ref aK, .ref aZ, .ref cv, .int tcn, .int mcn, .int swd, .int rwd, .int bpt, .int flm])), (aH, .inl (cI, 34, .inl hd)), (aL, .inl (cI, 34, .inl la)), (aO, .inl (cI, 4, .inl so)), (aK, .inl (cI, 4, .inl ki))]) hD hS hA [0, 1, 2, 3, 4] rfl
  rcases hw with hw | hw
  · refine va_calli (va_runV (As := [.int p0]) (rest := [.int (0 : Int32), .ref aQ]) ⟨hx, hb, hml, hown, hts⟩ (c_X1_grow l dC dI cI cZ x aH aL aS aO aK aZ cv s.heap.size tcn mcn swd rwd bpt flm hd la so ki p0 _ hw) (cwV 1 hts gL_grow_X1_grow rfl rfl rfl (by decide +kernel) ⟨Nat.le_of_ble_eq_true rfl, Nat.le_of_ble_eq_true rfl⟩) ⟨fun a U g mk q => by obtain ⟨q0, q1, qP, qK, qD⟩ := q; exact ⟨q0, q1, qP, va_K.moved (u := U) (U := U.calling g mk a) (Vm.Alike.refl U.vm) qK, qD⟩, va_recv hK2 hPc (ci := 1) (q0 := 0) rfl rfl, fun U hU hW => ⟨rfl, by rw [hU], by rw [hU]; exact hPc, va_K.moved hW.alike hK2, hDc.weaken (fun _ _ _ _ => trivial)⟩⟩ rfl rfl hl.1 rfl (lv_room (Nat.le_of_ble_eq_true rfl)) dL_grow_4 ⟨Nat.le_of_ble_eq_true rfl, Nat.le_of_ble_eq_true rfl⟩) hS (fun q _ h => hFc q h) hFc (fun r1 u t H1 locs ht hvm hw hB hz1 hk1 hS => ?_)
    obtain ⟨tcn_2, hd_3, la_4, so_5⟩ := u
    obtain ⟨hP1, -, hD1⟩ := hB
    have hw := And.intro hw trivial
    try dsimp only at hw
    have hw := hw.1
    rw [ht] at hP1
    obtain ⟨hP, hD⟩ := va_join (wr := [(aQ, .inl (cJ, 1, .inr (.inl ou)))]) (w1 := [(x, .inr (1, [.ref aH, .ref aL, .ref aS, .ref aO, .ref aK, .ref aZ, .ref cv, .int tcn_2, .int mcn, .int swd, .int rwd, .int bpt, .int flm])), (aH, .inl (cI, 34, .inl hd_3)), (aL, .inl (cI, 34, .inl la_4)), (aO, .inl (cI, 4, .inl so_5)), (aK, .inl (cI, 4, .inl ki))]) hP hD [0, 1, 2, 3, 4] [5] rfl rfl (by decide) (by decide) hk1 hFc hP1 hD1
    generalize H1 = H at hP hS ⊢
    have hP : va_P (dC, dI) vwCl [(aQ, .inl (cJ, 1, .inr (.inl ou))), (x, .inr (1, [.ref aH, .ref aL, .ref aS, .ref aO, .ref aK, .ref aZ, .ref cv, .int tcn_2, .int mcn, .int swd, .int rwd, .int bpt, .int flm])), (aH, .inl (cI, 34, .inl hd_3)), (aL, .inl (cI, 34, .inl la_4)), (aO, .inl (cI, 4, .inl so_5)), (aK, .inl (cI, 4, .inl ki))] H := hP
    have hD : va_D A [(aQ, .inl (cJ, 1, .inr (.inl ou))), (x, .inr (1, [.ref aH, .ref aL, .ref aS, .ref aO, .ref aK, .ref aZ, .ref cv, .int tcn_2, .int mcn, .int swd, .int rwd, .int bpt, .int flm])), (aH, .inl (cI, 34, .inl hd_3)), (aL, .inl (cI, 34, .inl la_4)), (aO, .inl (cI, 4, .inl so_5)), (aK, .inl (cI, 4, .inl ki))] := hD
    refine lv_i2l (v := r1.toInt64) hx hb dL_grow_7 rfl ?_
    obtain ⟨h6, hw⟩ := hw
    refine va_last hx hb hK hP hD hS 0 2 rfl rfl h6 dL_grow_8 (fun H locs hP hD hS => ?_)
    have hP : va_P (dC, dI) vwCl [(aQ, .inl (cJ, 1, .inr (.inl (vp_updL ou (0 : Int32).toNatClampNeg r1.toInt64)))), (x, .inr (1, [.ref aH, .ref aL, .ref aS, .ref aO, .ref aK, .ref aZ, .ref cv, .int tcn_2, .int mcn, .int swd, .int rwd, .int bpt, .int flm])), (aH, .inl (cI, 34, .inl hd_3)), (aL, .inl (cI, 34, .inl la_4)), (aO, .inl (cI, 4, .inl so_5)), (aK, .inl (cI, 4, .inl ki))] H := hP
    have hD : va_D A [(aQ, .inl (cJ, 1, .inr (.inl (vp_updL ou (0 : Int32).toNatClampNeg r1.toInt64)))), (x, .inr (1, [.ref aH, .ref aL, .ref aS, .ref aO, .ref aK, .ref aZ, .ref cv, .int tcn_2, .int mcn, .int swd, .int rwd, .int bpt, .int flm])), (aH, .inl (cI, 34, .inl hd_3)), (aL, .inl (cI, 34, .inl la_4)), (aO, .inl (cI, 4, .inl so_5)), (aK, .inl (cI, 4, .inl ki))] := hD
    refine lv_goto (tgt := 18) hx hb dL_grow_9 (by decide) ?_
    refine lv_iconst (v := 0) hx hb dL_grow_18 (by decide) ?_
    have hP9 := hP.sub (ws' := [(x, .inr (1, [.ref aH, .ref aL, .ref aS, .ref aO, .ref aK, .ref aZ, .ref cv, .int tcn_2, .int mcn, .int swd, .int rwd, .int bpt, .int flm])), (aH, .inl (cI, 34, .inl hd_3)), (aL, .inl (cI, 34, .inl la_4)), (aO, .inl (cI, 4, .inl so_5)), (aK, .inl (cI, 4, .inl ki)), (aQ, .inl (cJ, 1, .inr (.inl (vp_updL ou (0 : Int32).toNatClampNeg r1.toInt64))))]) [1, 2, 3, 4, 5, 0] rfl
    have hD9 := hD.sub (ws' := [(x, .inr (1, [.ref aH, .ref aL, .ref aS, .ref aO, .ref aK, .ref aZ, .ref cv, .int tcn_2, .int mcn, .int swd, .int rwd, .int bpt, .int flm])), (aH, .inl (cI, 34, .inl hd_3)), (aL, .inl (cI, 34, .inl la_4)), (aO, .inl (cI, 4, .inl so_5)), (aK, .inl (cI, 4, .inl ki)), (aQ, .inl (cJ, 1, .inr (.inl (vp_updL ou (0 : Int32).toNatClampNeg r1.toInt64))))]) [1, 2, 3, 4, 5, 0] (by decide) rfl
    refine W.widen (k := 1) (n := 6) (by omega) (by omega) ?_
    rw [← hQ9]
    exact W.iret (v := (0 : Int32)) hx hb hr (fun t ht hW => ⟨⟨(0 : Int32), (tcn_2, hd_3, la_4, so_5, vp_updL ou (0 : Int32).toNatClampNeg r1.toInt64), rfl, hw, by rw [ht]; exact hP9, va_K.moved hW.alike hK, hD9⟩, hS.F ht⟩) hS.2.2 dL_grow_19
  · refine vx_calli (vx_runV (As := [.int p0]) (rest := [.int (0 : Int32), .ref aQ]) ⟨hx, hb, hml, hown, hts⟩ (c_X1_grow_x l hl9 dC dI cI cZ x aH aL aS aO aK aZ cv s.heap.size tcn mcn swd rwd bpt flm hd la so ki p0 _ hw) (cwV 1 hts gL_grow_X1_grow rfl rfl rfl (by decide +kernel) ⟨Nat.le_of_ble_eq_true rfl, Nat.le_of_ble_eq_true rfl⟩) ⟨fun a U g mk q => by obtain ⟨q0, q1, qP, qK, qD, qX⟩ := q; exact ⟨q0, q1, qP, va_K.moved (u := U) (U := U.calling g mk a) (Vm.Alike.refl U.vm) qK, qD, xk_same rfl rfl qX⟩, va_recv hK2 hPc (ci := 1) (q0 := 0) rfl rfl, fun U hU hW => ⟨rfl, by rw [hU], by rw [hU]; exact hPc, va_K.moved hW.alike hK2, hDc.weaken (fun _ _ _ _ => trivial), xk_call hS hU hW (fun q h => hFc q h) hxk⟩⟩ rfl rfl hl.1 rfl (lv_room (Nat.le_of_ble_eq_true rfl)) dL_grow_4 ⟨Nat.le_of_ble_eq_true rfl, Nat.le_of_ble_eq_true rfl⟩) hS (fun q _ h => hFc q h) hFc (fun q _ h => hFc q h) (fun E ce qe9 u t H1 locs ht hvm hw hB hz1 hk1 hS hce hcv hcl => ?_) (fun r1 u t H1 locs ht hvm hw hB hz1 hk1 hS => False.elim hw)
    obtain ⟨E7, tcn_2, hd_3, la_4, so_5⟩ := u
    obtain ⟨hE9, hP1, -, hD1⟩ := hB
    try dsimp only at hw
    rw [ht] at hP1
    obtain ⟨hP, hD⟩ := va_join (wr := [(aQ, .inl (cJ, 1, .inr (.inl ou)))]) (w1 := [(x, .inr (1, [.ref aH, .ref aL, .ref aS, .ref aO, .ref aK, .ref aZ, .ref cv, .int tcn_2, .int mcn, .int swd, .int rwd, .int bpt, .int flm])), (aH, .inl (cI, 34, .inl hd_3)), (aL, .inl (cI, 34, .inl la_4)), (aO, .inl (cI, 4, .inl so_5)), (aK, .inl (cI, 4, .inl ki))]) hP hD [0, 1, 2, 3, 4] [5] rfl rfl (by decide) (by decide) hk1 hFc hP1 hD1
    generalize H1 = H at hP hS hce ⊢
    have hP : va_P (dC, dI) vwCl [(aQ, .inl (cJ, 1, .inr (.inl ou))), (x, .inr (1, [.ref aH, .ref aL, .ref aS, .ref aO, .ref aK, .ref aZ, .ref cv, .int tcn_2, .int mcn, .int swd, .int rwd, .int bpt, .int flm])), (aH, .inl (cI, 34, .inl hd_3)), (aL, .inl (cI, 34, .inl la_4)), (aO, .inl (cI, 4, .inl so_5)), (aK, .inl (cI, 4, .inl ki))] H := hP
    have hD : va_D A [(aQ, .inl (cJ, 1, .inr (.inl ou))), (x, .inr (1, [.ref aH, .ref aL, .ref aS, .ref aO, .ref aK, .ref aZ, .ref cv, .int tcn_2, .int mcn, .int swd, .int rwd, .int bpt, .int flm])), (aH, .inl (cI, 34, .inl hd_3)), (aL, .inl (cI, 34, .inl la_4)), (aO, .inl (cI, 4, .inl so_5)), (aK, .inl (cI, 4, .inl ki))] := hD
    rcases hw with ⟨hq, hw⟩ | ⟨hq, hw⟩
    · have hE := hE9.trans hq
      try dsimp only at hE
      subst hE
      refine vx_catch (own := RL) (name := "java/lang/IndexOutOfBoundsException") (E := "java/lang/IndexOutOfBoundsException") hown [] ⟨0, 9, 12, 13⟩ [⟨0, 9, 15, 15⟩] (by rw [hTab]; rfl) (fun z hz => nomatch hz) (by decide) (by decide) (hts (.classLink RL 13 "java/lang/IndexOutOfBoundsException") (by decide +kernel)) (va_Nw.use rfl (xk_c1 hxk)) hce hcv hcl ?_
      refine lv_astore_n (lv' := [(3, .ref qe9), (0, .ref x), (1, .int p0), (2, .ref aQ)]) hx hb dL_grow_12 rfl hl (by decide) rfl (fun ls hl => ?_)
      refine lv_iconst (v := 1) hx hb dL_grow_13 (by decide) ?_
      have hP9 := hP.sub (ws' := [(x, .inr (1, [.ref aH, .ref aL, .ref aS, .ref aO, .ref aK, .ref aZ, .ref cv, .int tcn_2, .int mcn, .int swd, .int rwd, .int bpt, .int flm])), (aH, .inl (cI, 34, .inl hd_3)), (aL, .inl (cI, 34, .inl la_4)), (aO, .inl (cI, 4, .inl so_5)), (aK, .inl (cI, 4, .inl ki)), (aQ, .inl (cJ, 1, .inr (.inl ou)))]) [1, 2, 3, 4, 5, 0] rfl
      have hD9 := hD.sub (ws' := [(x, .inr (1, [.ref aH, .ref aL, .ref aS, .ref aO, .ref aK, .ref aZ, .ref cv, .int tcn_2, .int mcn, .int swd, .int rwd, .int bpt, .int flm])), (aH, .inl (cI, 34, .inl hd_3)), (aL, .inl (cI, 34, .inl la_4)), (aO, .inl (cI, 4, .inl so_5)), (aK, .inl (cI, 4, .inl ki)), (aQ, .inl (cJ, 1, .inr (.inl ou)))]) [1, 2, 3, 4, 5, 0] (by decide) rfl
      rw [← hQ9]
      exact W.iret (v := (1 : Int32)) hx hb hr (fun t ht hW => ⟨⟨(1 : Int32), (tcn_2, hd_3, la_4, so_5, ou), rfl, hw, by rw [ht]; exact hP9, va_K.moved hW.alike hK, hD9⟩, hS.F ht⟩) hS.2.2 dL_grow_14
    · have hE := hE9.trans hq
      try dsimp only at hE
      subst hE
      refine vx_catch (own := RL) (name := "java/lang/IllegalStateException") (E := "java/lang/IllegalStateException") hown [⟨0, 9, 12, 13⟩] ⟨0, 9, 15, 15⟩ [] (by rw [hTab]; rfl) (by
          intro z hz
          rcases List.mem_cons.mp hz with rfl | hz
          · exact Or.inr ⟨by decide, "java/lang/IndexOutOfBoundsException", hts (.classLink RL 13 "java/lang/IndexOutOfBoundsException") (by decide +kernel), nck_20 hnc⟩
          cases hz) (by decide) (by decide) (hts (.classLink RL 15 "java/lang/IllegalStateException") (by decide +kernel)) (va_Nw.use rfl (xk_c3 hxk)) hce hcv hcl ?_
      refine lv_astore_n (lv' := [(3, .ref qe9), (0, .ref x), (1, .int p0), (2, .ref aQ)]) hx hb dL_grow_15 rfl hl (by decide) rfl (fun ls hl => ?_)
      refine lv_iconst (v := 2) hx hb dL_grow_16 (by decide) ?_
      have hP9 := hP.sub (ws' := [(x, .inr (1, [.ref aH, .ref aL, .ref aS, .ref aO, .ref aK, .ref aZ, .ref cv, .int tcn_2, .int mcn, .int swd, .int rwd, .int bpt, .int flm])), (aH, .inl (cI, 34, .inl hd_3)), (aL, .inl (cI, 34, .inl la_4)), (aO, .inl (cI, 4, .inl so_5)), (aK, .inl (cI, 4, .inl ki)), (aQ, .inl (cJ, 1, .inr (.inl ou)))]) [1, 2, 3, 4, 5, 0] rfl
      have hD9 := hD.sub (ws' := [(x, .inr (1, [.ref aH, .ref aL, .ref aS, .ref aO, .ref aK, .ref aZ, .ref cv, .int tcn_2, .int mcn, .int swd, .int rwd, .int bpt, .int flm])), (aH, .inl (cI, 34, .inl hd_3)), (aL, .inl (cI, 34, .inl la_4)), (aO, .inl (cI, 4, .inl so_5)), (aK, .inl (cI, 4, .inl ki)), (aQ, .inl (cJ, 1, .inr (.inl ou)))]) [1, 2, 3, 4, 5, 0] (by decide) rfl
      rw [← hQ9]
      exact W.iret (v := (2 : Int32)) hx hb hr (fun t ht hW => ⟨⟨(2 : Int32), (tcn_2, hd_3, la_4, so_5, ou), rfl, hw, by rw [ht]; exact hP9, va_K.moved hW.alike hK, hD9⟩, hS.F ht⟩) hS.2.2 dL_grow_17

def w_L_count (hd : (Nat → Int32)) (se : (Nat → Int32)) (ou : (Nat → Int64)) (p0 : Int32) (p1 : Int32) (post : Int32 → (Nat → Int64) → Prop) : Prop := ((w_X1_count hd se p0 p1 (fun r1 => (vp_in (0 : Int32) 1 ∧ (post (0 : Int32) (vp_updL ou (0 : Int32).toNatClampNeg r1.toInt64))))) ∨ (w_X1_count_x hd se p0 p1 (fun E3 => ((E3 = "java/lang/IndexOutOfBoundsException" ∧ (post (1 : Int32) ou))))))

set_option maxHeartbeats 4000000 in
set_option maxRecDepth 100000 in
theorem c_L_count (l : Launch) (hl9 : l.stackTraces = false) (dC : Nat → ClassId) (dI : Nat → Nat → Nat) (cI cZ cJ : ClassId) (x : Nat) (aH : Nat) (aL : Nat) (aS : Nat) (aO : Nat) (aK : Nat) (aZ : Nat) (cv : Nat) (aQ : Nat) (sz : Nat) (tcn : Int32) (mcn : Int32) (swd : Int32) (rwd : Int32) (bpt : Int32) (flm : Int32) (hd : (Nat → Int32)) (se : (Nat → Int32)) (ou : (Nat → Int64)) (p0 : Int32) (p1 : Int32) (post : Int32 → (Nat → Int64) → Prop) (hw : w_L_count hd se ou p0 p1 post) : Met l yL_count wsL_count ({ frames := 8, cells := 1, slots := 6, locals := 152 } : Room) (va_Pc [.ref x, .int p0, .int p1, .ref aQ] (fun U => U.heap.size = sz ∧ va_P (dC, dI) vwCl [(x, .inr (1, [.ref aH, .ref aL, .ref aS, .ref aO, .ref aK, .ref aZ, .ref cv, .int tcn, .int mcn, .int swd, .int rwd, .int bpt, .int flm])), (aH, .inl (cI, 34, .inl hd)), (aS, .inl (cI, 34, .inl se)), (aQ, .inl (cJ, 1, .inr (.inl ou)))] U.heap ∧ va_K (dC, dI) vwCl [(cI, .int), (cZ, .boolean), (cJ, .long)] U ∧ va_D (fun _ => True) [(x, .inr (1, [.ref aH, .ref aL, .ref aS, .ref aO, .ref aK, .ref aZ, .ref cv, .int tcn, .int mcn, .int swd, .int rwd, .int bpt, .int flm])), (aH, .inl (cI, 34, .inl hd)), (aS, .inl (cI, 34, .inl se)), (aQ, .inl (cJ, 1, .inr (.inl ou)))] ∧ nck U ∧ xk (va_A [(x, .inr (1, [.ref aH, .ref aL, .ref aS, .ref aO, .ref aK, .ref aZ, .ref cv, .int tcn, .int mcn, .int swd, .int rwd, .int bpt, .int flm])), (aH, .inl (cI, 34, .inl hd)), (aS, .inl (cI, 34, .inl se)), (aQ, .inl (cJ, 1, .inr (.inl ou)))] sz) U)) (va_Qi (fun (r9 : Int32) (u9 : (Nat → Int64)) => post r9 u9) (fun (u9 : (Nat → Int64)) (t9 : State) => va_P (dC, dI) vwCl [(x, .inr (1, [.ref aH, .ref aL, .ref aS, .ref aO, .ref aK, .ref aZ, .ref cv, .int tcn, .int mcn, .int swd, .int rwd, .int bpt, .int flm])), (aH, .inl (cI, 34, .inl hd)), (aS, .inl (cI, 34, .inl se)), (aQ, .inl (cJ, 1, .inr (.inl u9)))] t9.heap ∧ va_K (dC, dI) vwCl [(cI, .int), (cZ, .boolean), (cJ, .long)] t9 ∧ va_D (va_A [(x, .inr (1, [.ref aH, .ref aL, .ref aS, .ref aO, .ref aK, .ref aZ, .ref cv, .int tcn, .int mcn, .int swd, .int rwd, .int bpt, .int flm])), (aH, .inl (cI, 34, .inl hd)), (aS, .inl (cI, 34, .inl se)), (aQ, .inl (cJ, 1, .inr (.inl ou)))] sz) [(x, .inr (1, [.ref aH, .ref aL, .ref aS, .ref aO, .ref aK, .ref aZ, .ref cv, .int tcn, .int mcn, .int swd, .int rwd, .int bpt, .int flm])), (aH, .inl (cI, 34, .inl hd)), (aS, .inl (cI, 34, .inl se)), (aQ, .inl (cJ, 1, .inr (.inl u9)))]) (va_A [(x, .inr (1, [.ref aH, .ref aL, .ref aS, .ref aO, .ref aK, .ref aZ, .ref cv, .int tcn, .int mcn, .int swd, .int rwd, .int bpt, .int flm])), (aH, .inl (cI, 34, .inl hd)), (aS, .inl (cI, 34, .inl se)), (aQ, .inl (cJ, 1, .inr (.inl ou)))] sz)) 1 6 (va_A [(x, .inr (1, [.ref aH, .ref aL, .ref aS, .ref aO, .ref aK, .ref aZ, .ref cv, .int tcn, .int mcn, .int swd, .int rwd, .int bpt, .int flm])), (aH, .inl (cI, 34, .inl hd)), (aS, .inl (cI, 34, .inl se)), (aQ, .inl (cJ, 1, .inr (.inl ou)))] sz) := by
  refine va_MetW (cc := cL_count) (maxL := 5) (ret := (some .int)) (by decide) rfl ?_
  intro p e s m args below meth c s₁ B hml hv
  obtain ⟨rfl, hsz, hP, hK, hD0, hnc, hxk⟩ := hv
  have hx := B.exec
  have hb := B.bytes
  have hr := B.returns
  have hts := atoms_spec (ws := wsL_count) B.pre
  have hown : s.vm.findClass RL = some m.cls := findClass_of_methodNamed B.named
  have hlocks := B.notSynchronized
  have hinX1 : ∀ w ∈ u_ws RX1 TX1 13, w ∈ wsL_count := by decide +kernel
  have hTab := vx_table (x := yL_count) B (hts (.codeWith yL_count cL_count 5 (some .int) [(0, 10, 13, 13)]) (by decide +kernel))
  have hK2 := hK.sub (tys' := [(cI, .int), (cZ, .boolean)]) [0, 1] rfl
  subst hsz
  have hD := hD0.self (sz := s.heap.size)
  generalize hAe : va_A [(x, .inr (1, [.ref aH, .ref aL, .ref aS, .ref aO, .ref aK, .ref aZ, .ref cv, .int tcn, .int mcn, .int swd, .int rwd, .int bpt, .int flm])), (aH, .inl (cI, 34, .inl hd)), (aS, .inl (cI, 34, .inl se)), (aQ, .inl (cJ, 1, .inr (.inl ou)))] s.heap.size = A at hD hxk ⊢
  have hA : ∀ q : Nat, s.heap.size ≤ q → A q := fun q h => by rw [← hAe]; exact Or.inr h
  have hS : va_S A s.heap s.heap [] := va_S.rf
  have hl := lv_entry ([.ref x, .int p0, .int p1, .ref aQ]) (n := 5) (Nat.le_of_ble_eq_true rfl)
  rw [lg_entry_eq]
  generalize (lg_sl ([.ref x, .int p0, .int p1, .ref aQ]) ++ List.replicate (5 - (lg_sl ([.ref x, .int p0, .int p1, .ref aQ])).length) Slot.unset).toArray = ls at hl ⊢
  have hl : lv_has ls 5 [(0, .ref x), (1, .int p0), (2, .int p1), (3, .ref aQ)] := hl
  refine (?_ : ∀ Q9 : State → Prop, MQ below _ _ s _ _ _ = Q9 → W p l e ({ frames := 8, cells := 1, slots := 6, locals := 152 } : Room) s m _ below meth c s.heap [] 0 0 Q9 (F0 m 0 ls [])) _ rfl
  intro Q9 hQ9
  have hw : ((w_X1_count hd se p0 p1 (fun r1 => (vp_in (0 : Int32) 1 ∧ (post (0 : Int32) (vp_updL ou (0 : Int32).toNatClampNeg r1.toInt64))))) ∨ (w_X1_count_x hd se p0 p1 (fun E3 => ((E3 = "java/lang/IndexOutOfBoundsException" ∧ (post (1 : Int32) ou)))))) := hw
  refine lv_aload_n hx hb dL_count_0 rfl (lv_at hl 3 rfl) ?_
  refine lv_iconst (v := 0) hx hb dL_count_1 (by decide) ?_
  refine lv_aload_n hx hb dL_count_2 rfl (lv_at hl 0 rfl) ?_
  refine lv_iload_n hx hb dL_count_3 rfl (lv_at hl 1 rfl) ?_
  refine lv_iload_n hx hb dL_count_4 rfl (lv_at hl 2 rfl) ?_
  have hPc := hP.sub (ws' := [(x, .inr (1, [.ref aH, .ref aL, .ref aS, .ref aO, .ref aK, .ref aZ, .ref cv, .int tcn, .int mcn, .int swd, .int rwd, .int bpt, .int flm])), (aH, .inl (cI, 34, .inl hd)), (aS, .inl (cI, 34, .inl se))]) [0, 1, 2] rfl
  have hDc := hD.sub (ws' := [(x, .inr (1, [.ref aH, .ref aL, .ref aS, .ref aO, .ref aK, .ref aZ, .ref cv, .int tcn, .int mcn, .int swd, .int rwd, .int bpt, .int flm])), (aH, .inl (cI, 34, .inl hd)), (aS, .inl (cI, 34, .inl se))]) [0, 1, 2] (by decide) rfl
  have hFc := va_free (wc := [(x, .inr (1, [.ref aH, .ref aL, .ref aS, .ref aO, .ref aK, .ref aZ, .ref cv, .int tcn, .int mcn, .int swd, .int rwd, .int bpt, .int flm])), (aH, .inl (cI, 34, .inl hd)), (aS, .inl (cI, 34, .inl se))]) hD hS hA [0, 1, 2] rfl
  rcases hw with hw | hw
  · refine va_calli (va_runV (As := [.int p0, .int p1]) (rest := [.int (0 : Int32), .ref aQ]) ⟨hx, hb, hml, hown, hts⟩ (c_X1_count l dC dI cI cZ x aH aL aS aO aK aZ cv s.heap.size tcn mcn swd rwd bpt flm hd se p0 p1 _ hw) (cwV 2 hts gL_count_X1_count rfl rfl rfl (by decide +kernel) ⟨Nat.le_of_ble_eq_true rfl, Nat.le_of_ble_eq_true rfl⟩) ⟨fun a U g mk q => by obtain ⟨q0, q1, qP, qK, qD⟩ := q; exact ⟨q0, q1, qP, va_K.moved (u := U) (U := U.calling g mk a) (Vm.Alike.refl U.vm) qK, qD⟩, va_recv hK2 hPc (ci := 1) (q0 := 0) rfl rfl, fun U hU hW => ⟨rfl, by rw [hU], by rw [hU]; exact hPc, va_K.moved hW.alike hK2, hDc.weaken (fun _ _ _ _ => trivial)⟩⟩ rfl rfl hl.1 rfl (lv_room (Nat.le_of_ble_eq_true rfl)) dL_count_5 ⟨Nat.le_of_ble_eq_true rfl, Nat.le_of_ble_eq_true rfl⟩) hS (fun q _ h => hFc q h) hFc (fun r1 u t H1 locs ht hvm hw hB hz1 hk1 hS => ?_)
    obtain ⟨hP1, -, hD1⟩ := hB
    have hw := And.intro hw trivial
    try dsimp only at hw
    have hw := hw.1
    rw [ht] at hP1
    obtain ⟨hP, hD⟩ := va_join (wr := [(aQ, .inl (cJ, 1, .inr (.inl ou)))]) (w1 := [(x, .inr (1, [.ref aH, .ref aL, .ref aS, .ref aO, .ref aK, .ref aZ, .ref cv, .int tcn, .int mcn, .int swd, .int rwd, .int bpt, .int flm])), (aH, .inl (cI, 34, .inl hd)), (aS, .inl (cI, 34, .inl se))]) hP hD [0, 1, 2] [3] rfl rfl (by decide) (by decide) hk1 hFc hP1 hD1
    generalize H1 = H at hP hS ⊢
    have hP : va_P (dC, dI) vwCl [(aQ, .inl (cJ, 1, .inr (.inl ou))), (x, .inr (1, [.ref aH, .ref aL, .ref aS, .ref aO, .ref aK, .ref aZ, .ref cv, .int tcn, .int mcn, .int swd, .int rwd, .int bpt, .int flm])), (aH, .inl (cI, 34, .inl hd)), (aS, .inl (cI, 34, .inl se))] H := hP
    have hD : va_D A [(aQ, .inl (cJ, 1, .inr (.inl ou))), (x, .inr (1, [.ref aH, .ref aL, .ref aS, .ref aO, .ref aK, .ref aZ, .ref cv, .int tcn, .int mcn, .int swd, .int rwd, .int bpt, .int flm])), (aH, .inl (cI, 34, .inl hd)), (aS, .inl (cI, 34, .inl se))] := hD
    refine lv_i2l (v := r1.toInt64) hx hb dL_count_8 rfl ?_
    obtain ⟨h2, hw⟩ := hw
    refine va_last hx hb hK hP hD hS 0 2 rfl rfl h2 dL_count_9 (fun H locs hP hD hS => ?_)
    have hP : va_P (dC, dI) vwCl [(aQ, .inl (cJ, 1, .inr (.inl (vp_updL ou (0 : Int32).toNatClampNeg r1.toInt64)))), (x, .inr (1, [.ref aH, .ref aL, .ref aS, .ref aO, .ref aK, .ref aZ, .ref cv, .int tcn, .int mcn, .int swd, .int rwd, .int bpt, .int flm])), (aH, .inl (cI, 34, .inl hd)), (aS, .inl (cI, 34, .inl se))] H := hP
    have hD : va_D A [(aQ, .inl (cJ, 1, .inr (.inl (vp_updL ou (0 : Int32).toNatClampNeg r1.toInt64)))), (x, .inr (1, [.ref aH, .ref aL, .ref aS, .ref aO, .ref aK, .ref aZ, .ref cv, .int tcn, .int mcn, .int swd, .int rwd, .int bpt, .int flm])), (aH, .inl (cI, 34, .inl hd)), (aS, .inl (cI, 34, .inl se))] := hD
    refine lv_goto (tgt := 17) hx hb dL_count_10 (by decide) ?_
    refine lv_iconst (v := 0) hx hb dL_count_17 (by decide) ?_
    have hP9 := hP.sub (ws' := [(x, .inr (1, [.ref aH, .ref aL, .ref aS, .ref aO, .ref aK, .ref aZ, .ref cv, .int tcn, .int mcn, .int swd, .int rwd, .int bpt, .int flm])), (aH, .inl (cI, 34, .inl hd)), (aS, .inl (cI, 34, .inl se)), (aQ, .inl (cJ, 1, .inr (.inl (vp_updL ou (0 : Int32).toNatClampNeg r1.toInt64))))]) [1, 2, 3, 0] rfl
    have hD9 := hD.sub (ws' := [(x, .inr (1, [.ref aH, .ref aL, .ref aS, .ref aO, .ref aK, .ref aZ, .ref cv, .int tcn, .int mcn, .int swd, .int rwd, .int bpt, .int flm])), (aH, .inl (cI, 34, .inl hd)), (aS, .inl (cI, 34, .inl se)), (aQ, .inl (cJ, 1, .inr (.inl (vp_updL ou (0 : Int32).toNatClampNeg r1.toInt64))))]) [1, 2, 3, 0] (by decide) rfl
    refine W.widen (k := 1) (n := 6) (by omega) (by omega) ?_
    rw [← hQ9]
    exact W.iret (v := (0 : Int32)) hx hb hr (fun t ht hW => ⟨⟨(0 : Int32), (vp_updL ou (0 : Int32).toNatClampNeg r1.toInt64), rfl, hw, by rw [ht]; exact hP9, va_K.moved hW.alike hK, hD9⟩, hS.F ht⟩) hS.2.2 dL_count_18
  · refine vx_calli (vx_runV (As := [.int p0, .int p1]) (rest := [.int (0 : Int32), .ref aQ]) ⟨hx, hb, hml, hown, hts⟩ (c_X1_count_x l hl9 dC dI cI cZ x aH aL aS aO aK aZ cv s.heap.size tcn mcn swd rwd bpt flm hd se p0 p1 _ hw) (cwV 2 hts gL_count_X1_count rfl rfl rfl (by decide +kernel) ⟨Nat.le_of_ble_eq_true rfl, Nat.le_of_ble_eq_true rfl⟩) ⟨fun a U g mk q => by obtain ⟨q0, q1, qP, qK, qD, qX⟩ := q; exact ⟨q0, q1, qP, va_K.moved (u := U) (U := U.calling g mk a) (Vm.Alike.refl U.vm) qK, qD, xk_same rfl rfl qX⟩, va_recv hK2 hPc (ci := 1) (q0 := 0) rfl rfl, fun U hU hW => ⟨rfl, by rw [hU], by rw [hU]; exact hPc, va_K.moved hW.alike hK2, hDc.weaken (fun _ _ _ _ => trivial), xk_call hS hU hW (fun q h => hFc q h) hxk⟩⟩ rfl rfl hl.1 rfl (lv_room (Nat.le_of_ble_eq_true rfl)) dL_count_5 ⟨Nat.le_of_ble_eq_true rfl, Nat.le_of_ble_eq_true rfl⟩) hS (fun q _ h => hFc q h) hFc (fun q _ h => hFc q h) (fun E ce qe9 u t H1 locs ht hvm hw hB hz1 hk1 hS hce hcv hcl => ?_) (fun r1 u t H1 locs ht hvm hw hB hz1 hk1 hS => False.elim hw)
    obtain ⟨E3, rfl⟩ : ∃ z, z = u := ⟨_, rfl⟩
    obtain ⟨hE9, hP1, -, hD1⟩ := hB
    try dsimp only at hw
    rw [ht] at hP1
    obtain ⟨hP, hD⟩ := va_join (wr := [(aQ, .inl (cJ, 1, .inr (.inl ou)))]) (w1 := [(x, .inr (1, [.ref aH, .ref aL, .ref aS, .ref aO, .ref aK, .ref aZ, .ref cv, .int tcn, .int mcn, .int swd, .int rwd, .int bpt, .int flm])), (aH, .inl (cI, 34, .inl hd)), (aS, .inl (cI, 34, .inl se))]) hP hD [0, 1, 2] [3] rfl rfl (by decide) (by decide) hk1 hFc hP1 hD1
    generalize H1 = H at hP hS hce ⊢
    have hP : va_P (dC, dI) vwCl [(aQ, .inl (cJ, 1, .inr (.inl ou))), (x, .inr (1, [.ref aH, .ref aL, .ref aS, .ref aO, .ref aK, .ref aZ, .ref cv, .int tcn, .int mcn, .int swd, .int rwd, .int bpt, .int flm])), (aH, .inl (cI, 34, .inl hd)), (aS, .inl (cI, 34, .inl se))] H := hP
    have hD : va_D A [(aQ, .inl (cJ, 1, .inr (.inl ou))), (x, .inr (1, [.ref aH, .ref aL, .ref aS, .ref aO, .ref aK, .ref aZ, .ref cv, .int tcn, .int mcn, .int swd, .int rwd, .int bpt, .int flm])), (aH, .inl (cI, 34, .inl hd)), (aS, .inl (cI, 34, .inl se))] := hD
    obtain ⟨hq, hw⟩ := hw
    · have hE := hE9.trans hq
      try dsimp only at hE
      subst hE
      refine vx_catch (own := RL) (name := "java/lang/IndexOutOfBoundsException") (E := "java/lang/IndexOutOfBoundsException") hown [] ⟨0, 10, 13, 13⟩ [] (by rw [hTab]; rfl) (fun z hz => nomatch hz) (by decide) (by decide) (hts (.classLink RL 13 "java/lang/IndexOutOfBoundsException") (by decide +kernel)) (va_Nw.use rfl (xk_c1 hxk)) hce hcv hcl ?_
      refine lv_astore (lv' := [(4, .ref qe9), (0, .ref x), (1, .int p0), (2, .int p1), (3, .ref aQ)]) hx hb dL_count_13 hl (by decide) rfl (fun ls hl => ?_)
      refine lv_iconst (v := 1) hx hb dL_count_15 (by decide) ?_
      have hP9 := hP.sub (ws' := [(x, .inr (1, [.ref aH, .ref aL, .ref aS, .ref aO, .ref aK, .ref aZ, .ref cv, .int tcn, .int mcn, .int swd, .int rwd, .int bpt, .int flm])), (aH, .inl (cI, 34, .inl hd)), (aS, .inl (cI, 34, .inl se)), (aQ, .inl (cJ, 1, .inr (.inl ou)))]) [1, 2, 3, 0] rfl
      have hD9 := hD.sub (ws' := [(x, .inr (1, [.ref aH, .ref aL, .ref aS, .ref aO, .ref aK, .ref aZ, .ref cv, .int tcn, .int mcn, .int swd, .int rwd, .int bpt, .int flm])), (aH, .inl (cI, 34, .inl hd)), (aS, .inl (cI, 34, .inl se)), (aQ, .inl (cJ, 1, .inr (.inl ou)))]) [1, 2, 3, 0] (by decide) rfl
      rw [← hQ9]
      exact W.iret (v := (1 : Int32)) hx hb hr (fun t ht hW => ⟨⟨(1 : Int32), (ou), rfl, hw, by rw [ht]; exact hP9, va_K.moved hW.alike hK, hD9⟩, hS.F ht⟩) hS.2.2 dL_count_16

def w_L_meldAt (mcn : Int32) (so : (Nat → Int32)) (ki : (Nat → Int32)) (op : (Nat → Int32)) (ou : (Nat → Int64)) (p0 : Int32) (p1 : Int32) (post : Int32 → (Nat → Int64) → Prop) : Prop := ((w_X1_meldAt mcn so ki op p0 p1 (fun r1 => (vp_in (0 : Int32) 1 ∧ (post (0 : Int32) (vp_updL ou (0 : Int32).toNatClampNeg r1.toInt64))))) ∨ (w_X1_meldAt_x mcn so ki op p0 p1 (fun E3 => ((E3 = "java/lang/IndexOutOfBoundsException" ∧ (post (1 : Int32) ou))))))

set_option maxHeartbeats 4000000 in
set_option maxRecDepth 100000 in
theorem c_L_meldAt (l : Launch) (hl9 : l.stackTraces = false) (dC : Nat → ClassId) (dI : Nat → Nat → Nat) (cI cZ cJ : ClassId) (x : Nat) (aH : Nat) (aL : Nat) (aS : Nat) (aO : Nat) (aK : Nat) (aZ : Nat) (cv : Nat) (aQ : Nat) (sz : Nat) (tcn : Int32) (mcn : Int32) (swd : Int32) (rwd : Int32) (bpt : Int32) (flm : Int32) (so : (Nat → Int32)) (ki : (Nat → Int32)) (op : (Nat → Int32)) (ou : (Nat → Int64)) (p0 : Int32) (p1 : Int32) (post : Int32 → (Nat → Int64) → Prop) (hw : w_L_meldAt mcn so ki op ou p0 p1 post) : Met l yL_meldAt wsL_meldAt ({ frames := 7, cells := 1, slots := 6, locals := 132 } : Room) (va_Pc [.ref x, .int p0, .int p1, .ref aQ] (fun U => U.heap.size = sz ∧ va_P (dC, dI) vwCl [(x, .inr (1, [.ref aH, .ref aL, .ref aS, .ref aO, .ref aK, .ref aZ, .ref cv, .int tcn, .int mcn, .int swd, .int rwd, .int bpt, .int flm])), (aO, .inl (cI, 4, .inl so)), (aK, .inl (cI, 4, .inl ki)), (aZ, .inl (cZ, 4, .inl op)), (aQ, .inl (cJ, 1, .inr (.inl ou)))] U.heap ∧ va_K (dC, dI) vwCl [(cI, .int), (cZ, .boolean), (cJ, .long)] U ∧ va_D (fun _ => True) [(x, .inr (1, [.ref aH, .ref aL, .ref aS, .ref aO, .ref aK, .ref aZ, .ref cv, .int tcn, .int mcn, .int swd, .int rwd, .int bpt, .int flm])), (aO, .inl (cI, 4, .inl so)), (aK, .inl (cI, 4, .inl ki)), (aZ, .inl (cZ, 4, .inl op)), (aQ, .inl (cJ, 1, .inr (.inl ou)))] ∧ nck U ∧ xk (va_A [(x, .inr (1, [.ref aH, .ref aL, .ref aS, .ref aO, .ref aK, .ref aZ, .ref cv, .int tcn, .int mcn, .int swd, .int rwd, .int bpt, .int flm])), (aO, .inl (cI, 4, .inl so)), (aK, .inl (cI, 4, .inl ki)), (aZ, .inl (cZ, 4, .inl op)), (aQ, .inl (cJ, 1, .inr (.inl ou)))] sz) U)) (va_Qi (fun (r9 : Int32) (u9 : (Nat → Int64)) => post r9 u9) (fun (u9 : (Nat → Int64)) (t9 : State) => va_P (dC, dI) vwCl [(x, .inr (1, [.ref aH, .ref aL, .ref aS, .ref aO, .ref aK, .ref aZ, .ref cv, .int tcn, .int mcn, .int swd, .int rwd, .int bpt, .int flm])), (aO, .inl (cI, 4, .inl so)), (aK, .inl (cI, 4, .inl ki)), (aZ, .inl (cZ, 4, .inl op)), (aQ, .inl (cJ, 1, .inr (.inl u9)))] t9.heap ∧ va_K (dC, dI) vwCl [(cI, .int), (cZ, .boolean), (cJ, .long)] t9 ∧ va_D (va_A [(x, .inr (1, [.ref aH, .ref aL, .ref aS, .ref aO, .ref aK, .ref aZ, .ref cv, .int tcn, .int mcn, .int swd, .int rwd, .int bpt, .int flm])), (aO, .inl (cI, 4, .inl so)), (aK, .inl (cI, 4, .inl ki)), (aZ, .inl (cZ, 4, .inl op)), (aQ, .inl (cJ, 1, .inr (.inl ou)))] sz) [(x, .inr (1, [.ref aH, .ref aL, .ref aS, .ref aO, .ref aK, .ref aZ, .ref cv, .int tcn, .int mcn, .int swd, .int rwd, .int bpt, .int flm])), (aO, .inl (cI, 4, .inl so)), (aK, .inl (cI, 4, .inl ki)), (aZ, .inl (cZ, 4, .inl op)), (aQ, .inl (cJ, 1, .inr (.inl u9)))]) (va_A [(x, .inr (1, [.ref aH, .ref aL, .ref aS, .ref aO, .ref aK, .ref aZ, .ref cv, .int tcn, .int mcn, .int swd, .int rwd, .int bpt, .int flm])), (aO, .inl (cI, 4, .inl so)), (aK, .inl (cI, 4, .inl ki)), (aZ, .inl (cZ, 4, .inl op)), (aQ, .inl (cJ, 1, .inr (.inl ou)))] sz)) 1 6 (va_A [(x, .inr (1, [.ref aH, .ref aL, .ref aS, .ref aO, .ref aK, .ref aZ, .ref cv, .int tcn, .int mcn, .int swd, .int rwd, .int bpt, .int flm])), (aO, .inl (cI, 4, .inl so)), (aK, .inl (cI, 4, .inl ki)), (aZ, .inl (cZ, 4, .inl op)), (aQ, .inl (cJ, 1, .inr (.inl ou)))] sz) := by
  refine va_MetW (cc := cL_meldAt) (maxL := 5) (ret := (some .int)) (by decide) rfl ?_
  intro p e s m args below meth c s₁ B hml hv
  obtain ⟨rfl, hsz, hP, hK, hD0, hnc, hxk⟩ := hv
  have hx := B.exec
  have hb := B.bytes
  have hr := B.returns
  have hts := atoms_spec (ws := wsL_meldAt) B.pre
  have hown : s.vm.findClass RL = some m.cls := findClass_of_methodNamed B.named
  have hlocks := B.notSynchronized
  have hinX1 : ∀ w ∈ u_ws RX1 TX1 13, w ∈ wsL_meldAt := by decide +kernel
  have hTab := vx_table (x := yL_meldAt) B (hts (.codeWith yL_meldAt cL_meldAt 5 (some .int) [(0, 10, 13, 13)]) (by decide +kernel))
  have hK2 := hK.sub (tys' := [(cI, .int), (cZ, .boolean)]) [0, 1] rfl
  subst hsz
  have hD := hD0.self (sz := s.heap.size)
  generalize hAe : va_A [(x, .inr (1, [.ref aH, .ref aL, .ref aS, .ref aO, .ref aK, .ref aZ, .ref cv, .int tcn, .int mcn, .int swd, .int rwd, .int bpt, .int flm])), (aO, .inl (cI, 4, .inl so)), (aK, .inl (cI, 4, .inl ki)), (aZ, .inl (cZ, 4, .inl op)), (aQ, .inl (cJ, 1, .inr (.inl ou)))] s.heap.size = A at hD hxk ⊢
  have hA : ∀ q : Nat, s.heap.size ≤ q → A q := fun q h => by rw [← hAe]; exact Or.inr h
  have hS : va_S A s.heap s.heap [] := va_S.rf
  have hl := lv_entry ([.ref x, .int p0, .int p1, .ref aQ]) (n := 5) (Nat.le_of_ble_eq_true rfl)
  rw [lg_entry_eq]
  generalize (lg_sl ([.ref x, .int p0, .int p1, .ref aQ]) ++ List.replicate (5 - (lg_sl ([.ref x, .int p0, .int p1, .ref aQ])).length) Slot.unset).toArray = ls at hl ⊢
  have hl : lv_has ls 5 [(0, .ref x), (1, .int p0), (2, .int p1), (3, .ref aQ)] := hl
  refine (?_ : ∀ Q9 : State → Prop, MQ below _ _ s _ _ _ = Q9 → W p l e ({ frames := 7, cells := 1, slots := 6, locals := 132 } : Room) s m _ below meth c s.heap [] 0 0 Q9 (F0 m 0 ls [])) _ rfl
  intro Q9 hQ9
  have hw : ((w_X1_meldAt mcn so ki op p0 p1 (fun r1 => (vp_in (0 : Int32) 1 ∧ (post (0 : Int32) (vp_updL ou (0 : Int32).toNatClampNeg r1.toInt64))))) ∨ (w_X1_meldAt_x mcn so ki op p0 p1 (fun E3 => ((E3 = "java/lang/IndexOutOfBoundsException" ∧ (post (1 : Int32) ou)))))) := hw
  refine lv_aload_n hx hb dL_meldAt_0 rfl (lv_at hl 3 rfl) ?_
  refine lv_iconst (v := 0) hx hb dL_meldAt_1 (by decide) ?_
  refine lv_aload_n hx hb dL_meldAt_2 rfl (lv_at hl 0 rfl) ?_
  refine lv_iload_n hx hb dL_meldAt_3 rfl (lv_at hl 1 rfl) ?_
  refine lv_iload_n hx hb dL_meldAt_4 rfl (lv_at hl 2 rfl) ?_
  have hPc := hP.sub (ws' := [(x, .inr (1, [.ref aH, .ref aL, .ref aS, .ref aO, .ref aK, .ref aZ, .ref cv, .int tcn, .int mcn, .int swd, .int rwd, .int bpt, .int flm])), (aO, .inl (cI, 4, .inl so)), (aK, .inl (cI, 4, .inl ki)), (aZ, .inl (cZ, 4, .inl op))]) [0, 1, 2, 3] rfl
  have hDc := hD.sub (ws' := [(x, .inr (1, [.ref aH, .ref aL, .ref aS, .ref aO, .ref aK, .ref aZ, .ref cv, .int tcn, .int mcn, .int swd, .int rwd, .int bpt, .int flm])), (aO, .inl (cI, 4, .inl so)), (aK, .inl (cI, 4, .inl ki)), (aZ, .inl (cZ, 4, .inl op))]) [0, 1, 2, 3] (by decide) rfl
  have hFc := va_free (wc := [(x, .inr (1, [.ref aH, .ref aL, .ref aS, .ref aO, .ref aK, .ref aZ, .ref cv, .int tcn, .int mcn, .int swd, .int rwd, .int bpt, .int flm])), (aO, .inl (cI, 4, .inl so)), (aK, .inl (cI, 4, .inl ki)), (aZ, .inl (cZ, 4, .inl op))]) hD hS hA [0, 1, 2, 3] rfl
  rcases hw with hw | hw
  · refine va_calli (va_runV (As := [.int p0, .int p1]) (rest := [.int (0 : Int32), .ref aQ]) ⟨hx, hb, hml, hown, hts⟩ (c_X1_meldAt l dC dI cI cZ x aH aL aS aO aK aZ cv s.heap.size tcn mcn swd rwd bpt flm so ki op p0 p1 _ hw) (cwV 2 hts gL_meldAt_X1_meldAt rfl rfl rfl (by decide +kernel) ⟨Nat.le_of_ble_eq_true rfl, Nat.le_of_ble_eq_true rfl⟩) ⟨fun a U g mk q => by obtain ⟨q0, q1, qP, qK, qD⟩ := q; exact ⟨q0, q1, qP, va_K.moved (u := U) (U := U.calling g mk a) (Vm.Alike.refl U.vm) qK, qD⟩, va_recv hK2 hPc (ci := 1) (q0 := 0) rfl rfl, fun U hU hW => ⟨rfl, by rw [hU], by rw [hU]; exact hPc, va_K.moved hW.alike hK2, hDc.weaken (fun _ _ _ _ => trivial)⟩⟩ rfl rfl hl.1 rfl (lv_room (Nat.le_of_ble_eq_true rfl)) dL_meldAt_5 ⟨Nat.le_of_ble_eq_true rfl, Nat.le_of_ble_eq_true rfl⟩) hS (fun q _ h => hFc q h) hFc (fun r1 u t H1 locs ht hvm hw hB hz1 hk1 hS => ?_)
    obtain ⟨hP1, -, hD1⟩ := hB
    have hw := And.intro hw trivial
    try dsimp only at hw
    have hw := hw.1
    rw [ht] at hP1
    obtain ⟨hP, hD⟩ := va_join (wr := [(aQ, .inl (cJ, 1, .inr (.inl ou)))]) (w1 := [(x, .inr (1, [.ref aH, .ref aL, .ref aS, .ref aO, .ref aK, .ref aZ, .ref cv, .int tcn, .int mcn, .int swd, .int rwd, .int bpt, .int flm])), (aO, .inl (cI, 4, .inl so)), (aK, .inl (cI, 4, .inl ki)), (aZ, .inl (cZ, 4, .inl op))]) hP hD [0, 1, 2, 3] [4] rfl rfl (by decide) (by decide) hk1 hFc hP1 hD1
    generalize H1 = H at hP hS ⊢
    have hP : va_P (dC, dI) vwCl [(aQ, .inl (cJ, 1, .inr (.inl ou))), (x, .inr (1, [.ref aH, .ref aL, .ref aS, .ref aO, .ref aK, .ref aZ, .ref cv, .int tcn, .int mcn, .int swd, .int rwd, .int bpt, .int flm])), (aO, .inl (cI, 4, .inl so)), (aK, .inl (cI, 4, .inl ki)), (aZ, .inl (cZ, 4, .inl op))] H := hP
    have hD : va_D A [(aQ, .inl (cJ, 1, .inr (.inl ou))), (x, .inr (1, [.ref aH, .ref aL, .ref aS, .ref aO, .ref aK, .ref aZ, .ref cv, .int tcn, .int mcn, .int swd, .int rwd, .int bpt, .int flm])), (aO, .inl (cI, 4, .inl so)), (aK, .inl (cI, 4, .inl ki)), (aZ, .inl (cZ, 4, .inl op))] := hD
    refine lv_i2l (v := r1.toInt64) hx hb dL_meldAt_8 rfl ?_
    obtain ⟨h2, hw⟩ := hw
    refine va_last hx hb hK hP hD hS 0 2 rfl rfl h2 dL_meldAt_9 (fun H locs hP hD hS => ?_)
    have hP : va_P (dC, dI) vwCl [(aQ, .inl (cJ, 1, .inr (.inl (vp_updL ou (0 : Int32).toNatClampNeg r1.toInt64)))), (x, .inr (1, [.ref aH, .ref aL, .ref aS, .ref aO, .ref aK, .ref aZ, .ref cv, .int tcn, .int mcn, .int swd, .int rwd, .int bpt, .int flm])), (aO, .inl (cI, 4, .inl so)), (aK, .inl (cI, 4, .inl ki)), (aZ, .inl (cZ, 4, .inl op))] H := hP
    have hD : va_D A [(aQ, .inl (cJ, 1, .inr (.inl (vp_updL ou (0 : Int32).toNatClampNeg r1.toInt64)))), (x, .inr (1, [.ref aH, .ref aL, .ref aS, .ref aO, .ref aK, .ref aZ, .ref cv, .int tcn, .int mcn, .int swd, .int rwd, .int bpt, .int flm])), (aO, .inl (cI, 4, .inl so)), (aK, .inl (cI, 4, .inl ki)), (aZ, .inl (cZ, 4, .inl op))] := hD
    refine lv_goto (tgt := 17) hx hb dL_meldAt_10 (by decide) ?_
    refine lv_iconst (v := 0) hx hb dL_meldAt_17 (by decide) ?_
    have hP9 := hP.sub (ws' := [(x, .inr (1, [.ref aH, .ref aL, .ref aS, .ref aO, .ref aK, .ref aZ, .ref cv, .int tcn, .int mcn, .int swd, .int rwd, .int bpt, .int flm])), (aO, .inl (cI, 4, .inl so)), (aK, .inl (cI, 4, .inl ki)), (aZ, .inl (cZ, 4, .inl op)), (aQ, .inl (cJ, 1, .inr (.inl (vp_updL ou (0 : Int32).toNatClampNeg r1.toInt64))))]) [1, 2, 3, 4, 0] rfl
    have hD9 := hD.sub (ws' := [(x, .inr (1, [.ref aH, .ref aL, .ref aS, .ref aO, .ref aK, .ref aZ, .ref cv, .int tcn, .int mcn, .int swd, .int rwd, .int bpt, .int flm])), (aO, .inl (cI, 4, .inl so)), (aK, .inl (cI, 4, .inl ki)), (aZ, .inl (cZ, 4, .inl op)), (aQ, .inl (cJ, 1, .inr (.inl (vp_updL ou (0 : Int32).toNatClampNeg r1.toInt64))))]) [1, 2, 3, 4, 0] (by decide) rfl
    refine W.widen (k := 1) (n := 6) (by omega) (by omega) ?_
    rw [← hQ9]
    exact W.iret (v := (0 : Int32)) hx hb hr (fun t ht hW => ⟨⟨(0 : Int32), (vp_updL ou (0 : Int32).toNatClampNeg r1.toInt64), rfl, hw, by rw [ht]; exact hP9, va_K.moved hW.alike hK, hD9⟩, hS.F ht⟩) hS.2.2 dL_meldAt_18
  · refine vx_calli (vx_runV (As := [.int p0, .int p1]) (rest := [.int (0 : Int32), .ref aQ]) ⟨hx, hb, hml, hown, hts⟩ (c_X1_meldAt_x l hl9 dC dI cI cZ x aH aL aS aO aK aZ cv s.heap.size tcn mcn swd rwd bpt flm so ki op p0 p1 _ hw) (cwV 2 hts gL_meldAt_X1_meldAt rfl rfl rfl (by decide +kernel) ⟨Nat.le_of_ble_eq_true rfl, Nat.le_of_ble_eq_true rfl⟩) ⟨fun a U g mk q => by obtain ⟨q0, q1, qP, qK, qD, qX⟩ := q; exact ⟨q0, q1, qP, va_K.moved (u := U) (U := U.calling g mk a) (Vm.Alike.refl U.vm) qK, qD, xk_same rfl rfl qX⟩, va_recv hK2 hPc (ci := 1) (q0 := 0) rfl rfl, fun U hU hW => ⟨rfl, by rw [hU], by rw [hU]; exact hPc, va_K.moved hW.alike hK2, hDc.weaken (fun _ _ _ _ => trivial), xk_call hS hU hW (fun q h => hFc q h) hxk⟩⟩ rfl rfl hl.1 rfl (lv_room (Nat.le_of_ble_eq_true rfl)) dL_meldAt_5 ⟨Nat.le_of_ble_eq_true rfl, Nat.le_of_ble_eq_true rfl⟩) hS (fun q _ h => hFc q h) hFc (fun q _ h => hFc q h) (fun E ce qe9 u t H1 locs ht hvm hw hB hz1 hk1 hS hce hcv hcl => ?_) (fun r1 u t H1 locs ht hvm hw hB hz1 hk1 hS => False.elim hw)
    obtain ⟨E3, rfl⟩ : ∃ z, z = u := ⟨_, rfl⟩
    obtain ⟨hE9, hP1, -, hD1⟩ := hB
    try dsimp only at hw
    rw [ht] at hP1
    obtain ⟨hP, hD⟩ := va_join (wr := [(aQ, .inl (cJ, 1, .inr (.inl ou)))]) (w1 := [(x, .inr (1, [.ref aH, .ref aL, .ref aS, .ref aO, .ref aK, .ref aZ, .ref cv, .int tcn, .int mcn, .int swd, .int rwd, .int bpt, .int flm])), (aO, .inl (cI, 4, .inl so)), (aK, .inl (cI, 4, .inl ki)), (aZ, .inl (cZ, 4, .inl op))]) hP hD [0, 1, 2, 3] [4] rfl rfl (by decide) (by decide) hk1 hFc hP1 hD1
    generalize H1 = H at hP hS hce ⊢
    have hP : va_P (dC, dI) vwCl [(aQ, .inl (cJ, 1, .inr (.inl ou))), (x, .inr (1, [.ref aH, .ref aL, .ref aS, .ref aO, .ref aK, .ref aZ, .ref cv, .int tcn, .int mcn, .int swd, .int rwd, .int bpt, .int flm])), (aO, .inl (cI, 4, .inl so)), (aK, .inl (cI, 4, .inl ki)), (aZ, .inl (cZ, 4, .inl op))] H := hP
    have hD : va_D A [(aQ, .inl (cJ, 1, .inr (.inl ou))), (x, .inr (1, [.ref aH, .ref aL, .ref aS, .ref aO, .ref aK, .ref aZ, .ref cv, .int tcn, .int mcn, .int swd, .int rwd, .int bpt, .int flm])), (aO, .inl (cI, 4, .inl so)), (aK, .inl (cI, 4, .inl ki)), (aZ, .inl (cZ, 4, .inl op))] := hD
    obtain ⟨hq, hw⟩ := hw
    · have hE := hE9.trans hq
      try dsimp only at hE
      subst hE
      refine vx_catch (own := RL) (name := "java/lang/IndexOutOfBoundsException") (E := "java/lang/IndexOutOfBoundsException") hown [] ⟨0, 10, 13, 13⟩ [] (by rw [hTab]; rfl) (fun z hz => nomatch hz) (by decide) (by decide) (hts (.classLink RL 13 "java/lang/IndexOutOfBoundsException") (by decide +kernel)) (va_Nw.use rfl (xk_c1 hxk)) hce hcv hcl ?_
      refine lv_astore (lv' := [(4, .ref qe9), (0, .ref x), (1, .int p0), (2, .int p1), (3, .ref aQ)]) hx hb dL_meldAt_13 hl (by decide) rfl (fun ls hl => ?_)
      refine lv_iconst (v := 1) hx hb dL_meldAt_15 (by decide) ?_
      have hP9 := hP.sub (ws' := [(x, .inr (1, [.ref aH, .ref aL, .ref aS, .ref aO, .ref aK, .ref aZ, .ref cv, .int tcn, .int mcn, .int swd, .int rwd, .int bpt, .int flm])), (aO, .inl (cI, 4, .inl so)), (aK, .inl (cI, 4, .inl ki)), (aZ, .inl (cZ, 4, .inl op)), (aQ, .inl (cJ, 1, .inr (.inl ou)))]) [1, 2, 3, 4, 0] rfl
      have hD9 := hD.sub (ws' := [(x, .inr (1, [.ref aH, .ref aL, .ref aS, .ref aO, .ref aK, .ref aZ, .ref cv, .int tcn, .int mcn, .int swd, .int rwd, .int bpt, .int flm])), (aO, .inl (cI, 4, .inl so)), (aK, .inl (cI, 4, .inl ki)), (aZ, .inl (cZ, 4, .inl op)), (aQ, .inl (cJ, 1, .inr (.inl ou)))]) [1, 2, 3, 4, 0] (by decide) rfl
      rw [← hQ9]
      exact W.iret (v := (1 : Int32)) hx hb hr (fun t ht hW => ⟨⟨(1 : Int32), (ou), rfl, hw, by rw [ht]; exact hP9, va_K.moved hW.alike hK, hD9⟩, hS.F ht⟩) hS.2.2 dL_meldAt_16

def w_L_advice (tcn : Int32) (mcn : Int32) (hd : (Nat → Int32)) (la : (Nat → Int32)) (glm : Int32) (rom : Int32) (hel : Int32) (nw : (Nat → Int32)) (nx : (Nat → Int32)) (ou : (Nat → Int64)) (post : Int32 → Int32 → (Nat → Int32) → Int32 → Int32 → Int32 → (Nat → Int32) → (Nat → Int32) → (Nat → Int64) → Prop) : Prop := ((w_X1_advice tcn mcn hd la glm rom hel nw nx (fun r1 tcn_2 hd_3 glm_4 rom_5 hel_6 nw_7 nx_8 => (vp_in (0 : Int32) 1 ∧ (post (0 : Int32) tcn_2 hd_3 glm_4 rom_5 hel_6 nw_7 nx_8 (vp_updL ou (0 : Int32).toNatClampNeg r1.toInt64))))) ∨ (w_X1_advice_x tcn mcn hd la glm rom hel nw nx (fun E12 tcn_2 hd_3 glm_4 rom_5 hel_6 nw_7 nx_8 => ((E12 = "java/lang/IllegalStateException" ∧ (post (1 : Int32) tcn_2 hd_3 glm_4 rom_5 hel_6 nw_7 nx_8 ou))))))

set_option maxHeartbeats 4000000 in
set_option maxRecDepth 100000 in
theorem c_L_advice (l : Launch) (hl9 : l.stackTraces = false) (dC : Nat → ClassId) (dI : Nat → Nat → Nat) (cI cZ cJ : ClassId) (x : Nat) (aH : Nat) (aL : Nat) (aS : Nat) (aO : Nat) (aK : Nat) (aZ : Nat) (cv : Nat) (aN : Nat) (aX : Nat) (aQ : Nat) (sz : Nat) (tcn : Int32) (mcn : Int32) (swd : Int32) (rwd : Int32) (bpt : Int32) (flm : Int32) (hd : (Nat → Int32)) (la : (Nat → Int32)) (glm : Int32) (rom : Int32) (hel : Int32) (nw : (Nat → Int32)) (nx : (Nat → Int32)) (ou : (Nat → Int64)) (post : Int32 → Int32 → (Nat → Int32) → Int32 → Int32 → Int32 → (Nat → Int32) → (Nat → Int32) → (Nat → Int64) → Prop) (hw : w_L_advice tcn mcn hd la glm rom hel nw nx ou post) : Met l yL_advice wsL_advice ({ frames := 8, cells := 1, slots := 6, locals := 187 } : Room) (va_Pc [.ref x, .ref aQ] (fun U => U.heap.size = sz ∧ va_P (dC, dI) vwCl [(x, .inr (1, [.ref aH, .ref aL, .ref aS, .ref aO, .ref aK, .ref aZ, .ref cv, .int tcn, .int mcn, .int swd, .int rwd, .int bpt, .int flm])), (aH, .inl (cI, 34, .inl hd)), (aL, .inl (cI, 34, .inl la)), (cv, .inr (0, [.ref aN, .ref aX, .int glm, .int rom, .int hel])), (aN, .inl (cI, 90, .inl nw)), (aX, .inl (cI, 90, .inl nx)), (aQ, .inl (cJ, 1, .inr (.inl ou)))] U.heap ∧ va_K (dC, dI) vwCl [(cI, .int), (cZ, .boolean), (cJ, .long)] U ∧ va_D (fun _ => True) [(x, .inr (1, [.ref aH, .ref aL, .ref aS, .ref aO, .ref aK, .ref aZ, .ref cv, .int tcn, .int mcn, .int swd, .int rwd, .int bpt, .int flm])), (aH, .inl (cI, 34, .inl hd)), (aL, .inl (cI, 34, .inl la)), (cv, .inr (0, [.ref aN, .ref aX, .int glm, .int rom, .int hel])), (aN, .inl (cI, 90, .inl nw)), (aX, .inl (cI, 90, .inl nx)), (aQ, .inl (cJ, 1, .inr (.inl ou)))] ∧ va_Nw (.methodLinkNest RX0 51 yX1_beginsRow "TileHand") U ∧ nck U ∧ xk (va_A [(x, .inr (1, [.ref aH, .ref aL, .ref aS, .ref aO, .ref aK, .ref aZ, .ref cv, .int tcn, .int mcn, .int swd, .int rwd, .int bpt, .int flm])), (aH, .inl (cI, 34, .inl hd)), (aL, .inl (cI, 34, .inl la)), (cv, .inr (0, [.ref aN, .ref aX, .int glm, .int rom, .int hel])), (aN, .inl (cI, 90, .inl nw)), (aX, .inl (cI, 90, .inl nx)), (aQ, .inl (cJ, 1, .inr (.inl ou)))] sz) U)) (va_Qi (fun (r9 : Int32) (u9 : Int32 × (Nat → Int32) × Int32 × Int32 × Int32 × (Nat → Int32) × (Nat → Int32) × (Nat → Int64)) => post r9 u9.1 u9.2.1 u9.2.2.1 u9.2.2.2.1 u9.2.2.2.2.1 u9.2.2.2.2.2.1 u9.2.2.2.2.2.2.1 u9.2.2.2.2.2.2.2) (fun (u9 : Int32 × (Nat → Int32) × Int32 × Int32 × Int32 × (Nat → Int32) × (Nat → Int32) × (Nat → Int64)) (t9 : State) => ∃ aN1 aX1 : Nat, va_P (dC, dI) vwCl [(x, .inr (1, [.ref aH, .ref aL, .ref aS, .ref aO, .ref aK, .ref aZ, .ref cv, .int u9.1, .int mcn, .int swd, .int rwd, .int bpt, .int flm])), (aH, .inl (cI, 34, .inl u9.2.1)), (aL, .inl (cI, 34, .inl la)), (cv, .inr (0, [.ref aN1, .ref aX1, .int u9.2.2.1, .int u9.2.2.2.1, .int u9.2.2.2.2.1])), (aN1, .inl (cI, 90, .inl u9.2.2.2.2.2.1)), (aX1, .inl (cI, 90, .inl u9.2.2.2.2.2.2.1)), (aQ, .inl (cJ, 1, .inr (.inl u9.2.2.2.2.2.2.2)))] t9.heap ∧ va_K (dC, dI) vwCl [(cI, .int), (cZ, .boolean), (cJ, .long)] t9 ∧ va_D (va_A [(x, .inr (1, [.ref aH, .ref aL, .ref aS, .ref aO, .ref aK, .ref aZ, .ref cv, .int tcn, .int mcn, .int swd, .int rwd, .int bpt, .int flm])), (aH, .inl (cI, 34, .inl hd)), (aL, .inl (cI, 34, .inl la)), (cv, .inr (0, [.ref aN, .ref aX, .int glm, .int rom, .int hel])), (aN, .inl (cI, 90, .inl nw)), (aX, .inl (cI, 90, .inl nx)), (aQ, .inl (cJ, 1, .inr (.inl ou)))] sz) [(x, .inr (1, [.ref aH, .ref aL, .ref aS, .ref aO, .ref aK, .ref aZ, .ref cv, .int u9.1, .int mcn, .int swd, .int rwd, .int bpt, .int flm])), (aH, .inl (cI, 34, .inl u9.2.1)), (aL, .inl (cI, 34, .inl la)), (cv, .inr (0, [.ref aN1, .ref aX1, .int u9.2.2.1, .int u9.2.2.2.1, .int u9.2.2.2.2.1])), (aN1, .inl (cI, 90, .inl u9.2.2.2.2.2.1)), (aX1, .inl (cI, 90, .inl u9.2.2.2.2.2.2.1)), (aQ, .inl (cJ, 1, .inr (.inl u9.2.2.2.2.2.2.2)))]) (va_A [(x, .inr (1, [.ref aH, .ref aL, .ref aS, .ref aO, .ref aK, .ref aZ, .ref cv, .int tcn, .int mcn, .int swd, .int rwd, .int bpt, .int flm])), (aH, .inl (cI, 34, .inl hd)), (aL, .inl (cI, 34, .inl la)), (cv, .inr (0, [.ref aN, .ref aX, .int glm, .int rom, .int hel])), (aN, .inl (cI, 90, .inl nw)), (aX, .inl (cI, 90, .inl nx)), (aQ, .inl (cJ, 1, .inr (.inl ou)))] sz)) 1 6 (va_A [(x, .inr (1, [.ref aH, .ref aL, .ref aS, .ref aO, .ref aK, .ref aZ, .ref cv, .int tcn, .int mcn, .int swd, .int rwd, .int bpt, .int flm])), (aH, .inl (cI, 34, .inl hd)), (aL, .inl (cI, 34, .inl la)), (cv, .inr (0, [.ref aN, .ref aX, .int glm, .int rom, .int hel])), (aN, .inl (cI, 90, .inl nw)), (aX, .inl (cI, 90, .inl nx)), (aQ, .inl (cJ, 1, .inr (.inl ou)))] sz) := by
  refine va_MetW (cc := cL_advice) (maxL := 3) (ret := (some .int)) (by decide) rfl ?_
  intro p e s m args below meth c s₁ B hml hv
  obtain ⟨rfl, hsz, hP, hK, hD0, hnk, hnc, hxk⟩ := hv
  have hx := B.exec
  have hb := B.bytes
  have hr := B.returns
  have hts := atoms_spec (ws := wsL_advice) B.pre
  have hown : s.vm.findClass RL = some m.cls := findClass_of_methodNamed B.named
  have hlocks := B.notSynchronized
  have hinX1 : ∀ w ∈ u_ws RX1 TX1 13, w ∈ wsL_advice := by decide +kernel
  have hinX0 : ∀ w ∈ u_ws RX0 TX0 5, w ∈ wsL_advice := by decide +kernel
  have hTab := vx_table (x := yL_advice) B (hts (.codeWith yL_advice cL_advice 3 (some .int) [(0, 8, 11, 15)]) (by decide +kernel))
  have hK2 := hK.sub (tys' := [(cI, .int), (cZ, .boolean)]) [0, 1] rfl
  subst hsz
  have hD := hD0.self (sz := s.heap.size)
  generalize hAe : va_A [(x, .inr (1, [.ref aH, .ref aL, .ref aS, .ref aO, .ref aK, .ref aZ, .ref cv, .int tcn, .int mcn, .int swd, .int rwd, .int bpt, .int flm])), (aH, .inl (cI, 34, .inl hd)), (aL, .inl (cI, 34, .inl la)), (cv, .inr (0, [.ref aN, .ref aX, .int glm, .int rom, .int hel])), (aN, .inl (cI, 90, .inl nw)), (aX, .inl (cI, 90, .inl nx)), (aQ, .inl (cJ, 1, .inr (.inl ou)))] s.heap.size = A at hD hxk ⊢
  have hA : ∀ q : Nat, s.heap.size ≤ q → A q := fun q h => by rw [← hAe]; exact Or.inr h
  have hS : va_S A s.heap s.heap [] := va_S.rf
  have hl := lv_entry ([.ref x, .ref aQ]) (n := 3) (Nat.le_of_ble_eq_true rfl)
  rw [lg_entry_eq]
  generalize (lg_sl ([.ref x, .ref aQ]) ++ List.replicate (3 - (lg_sl ([.ref x, .ref aQ])).length) Slot.unset).toArray = ls at hl ⊢
  have hl : lv_has ls 3 [(0, .ref x), (1, .ref aQ)] := hl
  refine (?_ : ∀ Q9 : State → Prop, MQ below _ _ s _ _ _ = Q9 → W p l e ({ frames := 8, cells := 1, slots := 6, locals := 187 } : Room) s m _ below meth c s.heap [] 0 0 Q9 (F0 m 0 ls [])) _ rfl
  intro Q9 hQ9
  have hw : ((w_X1_advice tcn mcn hd la glm rom hel nw nx (fun r1 tcn_2 hd_3 glm_4 rom_5 hel_6 nw_7 nx_8 => (vp_in (0 : Int32) 1 ∧ (post (0 : Int32) tcn_2 hd_3 glm_4 rom_5 hel_6 nw_7 nx_8 (vp_updL ou (0 : Int32).toNatClampNeg r1.toInt64))))) ∨ (w_X1_advice_x tcn mcn hd la glm rom hel nw nx (fun E12 tcn_2 hd_3 glm_4 rom_5 hel_6 nw_7 nx_8 => ((E12 = "java/lang/IllegalStateException" ∧ (post (1 : Int32) tcn_2 hd_3 glm_4 rom_5 hel_6 nw_7 nx_8 ou)))))) := hw
  refine lv_aload_n hx hb dL_advice_0 rfl (lv_at hl 1 rfl) ?_
  refine lv_iconst (v := 0) hx hb dL_advice_1 (by decide) ?_
  refine lv_aload_n hx hb dL_advice_2 rfl (lv_at hl 0 rfl) ?_
  have hPc := hP.sub (ws' := [(x, .inr (1, [.ref aH, .ref aL, .ref aS, .ref aO, .ref aK, .ref aZ, .ref cv, .int tcn, .int mcn, .int swd, .int rwd, .int bpt, .int flm])), (aH, .inl (cI, 34, .inl hd)), (aL, .inl (cI, 34, .inl la)), (cv, .inr (0, [.ref aN, .ref aX, .int glm, .int rom, .int hel])), (aN, .inl (cI, 90, .inl nw)), (aX, .inl (cI, 90, .inl nx))]) [0, 1, 2, 3, 4, 5] rfl
  have hDc := hD.sub (ws' := [(x, .inr (1, [.ref aH, .ref aL, .ref aS, .ref aO, .ref aK, .ref aZ, .ref cv, .int tcn, .int mcn, .int swd, .int rwd, .int bpt, .int flm])), (aH, .inl (cI, 34, .inl hd)), (aL, .inl (cI, 34, .inl la)), (cv, .inr (0, [.ref aN, .ref aX, .int glm, .int rom, .int hel])), (aN, .inl (cI, 90, .inl nw)), (aX, .inl (cI, 90, .inl nx))]) [0, 1, 2, 3, 4, 5] (by decide) rfl
  have hFc := va_free (wc := [(x, .inr (1, [.ref aH, .ref aL, .ref aS, .ref aO, .ref aK, .ref aZ, .ref cv, .int tcn, .int mcn, .int swd, .int rwd, .int bpt, .int flm])), (aH, .inl (cI, 34, .inl hd)), (aL, .inl (cI, 34, .inl la)), (cv, .inr (0, [.ref aN, .ref aX, .int glm, .int rom, .int hel])), (aN, .inl (cI, 90, .inl nw)), (aX, .inl (cI, 90, .inl nx))]) hD hS hA [0, 1, 2, 3, 4, 5] rfl
  rcases hw with hw | hw
  · refine va_calli (va_runV (As := []) (rest := [.int (0 : Int32), .ref aQ]) ⟨hx, hb, hml, hown, hts⟩ (c_X1_advice l dC dI cI cZ x aH aL aS aO aK aZ cv aN aX s.heap.size tcn mcn swd rwd bpt flm hd la glm rom hel nw nx _ hw) (cwV 0 hts gL_advice_X1_advice rfl rfl rfl (by decide +kernel) ⟨Nat.le_of_ble_eq_true rfl, Nat.le_of_ble_eq_true rfl⟩) ⟨fun a U g mk q => by obtain ⟨q0, q1, qP, qK, qD, qN⟩ := q; exact ⟨q0, q1, qP, va_K.moved (u := U) (U := U.calling g mk a) (Vm.Alike.refl U.vm) qK, qD, va_Nw.same rfl rfl qN⟩, va_recv hK2 hPc (ci := 1) (q0 := 0) rfl rfl, fun U hU hW => ⟨rfl, by rw [hU], by rw [hU]; exact hPc, va_K.moved hW.alike hK2, hDc.weaken (fun _ _ _ _ => trivial), va_Nw.warmM hW hnk⟩⟩ rfl rfl hl.1 rfl (lv_room (Nat.le_of_ble_eq_true rfl)) dL_advice_3 ⟨Nat.le_of_ble_eq_true rfl, Nat.le_of_ble_eq_true rfl⟩) hS (fun q _ h => hFc q h) hFc (fun r1 u t H1 locs ht hvm hw hB hz1 hk1 hS => ?_)
    obtain ⟨tcn_2, hd_3, glm_4, rom_5, hel_6, nw_7, nx_8⟩ := u
    obtain ⟨q9, q10, hP1, -, hD1⟩ := hB
    have hw := And.intro hw trivial
    try dsimp only at hw
    have hw := hw.1
    rw [ht] at hP1
    obtain ⟨hP, hD⟩ := va_join (wr := [(aQ, .inl (cJ, 1, .inr (.inl ou)))]) (w1 := [(x, .inr (1, [.ref aH, .ref aL, .ref aS, .ref aO, .ref aK, .ref aZ, .ref cv, .int tcn_2, .int mcn, .int swd, .int rwd, .int bpt, .int flm])), (aH, .inl (cI, 34, .inl hd_3)), (aL, .inl (cI, 34, .inl la)), (cv, .inr (0, [.ref q9, .ref q10, .int glm_4, .int rom_5, .int hel_6])), (q9, .inl (cI, 90, .inl nw_7)), (q10, .inl (cI, 90, .inl nx_8))]) hP hD [0, 1, 2, 3, 4, 5] [6] rfl rfl (by decide) (by decide) hk1 hFc hP1 hD1
    generalize H1 = H at hP hS ⊢
    have hP : va_P (dC, dI) vwCl [(aQ, .inl (cJ, 1, .inr (.inl ou))), (x, .inr (1, [.ref aH, .ref aL, .ref aS, .ref aO, .ref aK, .ref aZ, .ref cv, .int tcn_2, .int mcn, .int swd, .int rwd, .int bpt, .int flm])), (aH, .inl (cI, 34, .inl hd_3)), (aL, .inl (cI, 34, .inl la)), (cv, .inr (0, [.ref q9, .ref q10, .int glm_4, .int rom_5, .int hel_6])), (q9, .inl (cI, 90, .inl nw_7)), (q10, .inl (cI, 90, .inl nx_8))] H := hP
    have hD : va_D A [(aQ, .inl (cJ, 1, .inr (.inl ou))), (x, .inr (1, [.ref aH, .ref aL, .ref aS, .ref aO, .ref aK, .ref aZ, .ref cv, .int tcn_2, .int mcn, .int swd, .int rwd, .int bpt, .int flm])), (aH, .inl (cI, 34, .inl hd_3)), (aL, .inl (cI, 34, .inl la)), (cv, .inr (0, [.ref q9, .ref q10, .int glm_4, .int rom_5, .int hel_6])), (q9, .inl (cI, 90, .inl nw_7)), (q10, .inl (cI, 90, .inl nx_8))] := hD
    refine lv_i2l (v := r1.toInt64) hx hb dL_advice_6 rfl ?_
    obtain ⟨h11, hw⟩ := hw
    refine va_last hx hb hK hP hD hS 0 2 rfl rfl h11 dL_advice_7 (fun H locs hP hD hS => ?_)
    have hP : va_P (dC, dI) vwCl [(aQ, .inl (cJ, 1, .inr (.inl (vp_updL ou (0 : Int32).toNatClampNeg r1.toInt64)))), (x, .inr (1, [.ref aH, .ref aL, .ref aS, .ref aO, .ref aK, .ref aZ, .ref cv, .int tcn_2, .int mcn, .int swd, .int rwd, .int bpt, .int flm])), (aH, .inl (cI, 34, .inl hd_3)), (aL, .inl (cI, 34, .inl la)), (cv, .inr (0, [.ref q9, .ref q10, .int glm_4, .int rom_5, .int hel_6])), (q9, .inl (cI, 90, .inl nw_7)), (q10, .inl (cI, 90, .inl nx_8))] H := hP
    have hD : va_D A [(aQ, .inl (cJ, 1, .inr (.inl (vp_updL ou (0 : Int32).toNatClampNeg r1.toInt64)))), (x, .inr (1, [.ref aH, .ref aL, .ref aS, .ref aO, .ref aK, .ref aZ, .ref cv, .int tcn_2, .int mcn, .int swd, .int rwd, .int bpt, .int flm])), (aH, .inl (cI, 34, .inl hd_3)), (aL, .inl (cI, 34, .inl la)), (cv, .inr (0, [.ref q9, .ref q10, .int glm_4, .int rom_5, .int hel_6])), (q9, .inl (cI, 90, .inl nw_7)), (q10, .inl (cI, 90, .inl nx_8))] := hD
    refine lv_goto (tgt := 14) hx hb dL_advice_8 (by decide) ?_
    refine lv_iconst (v := 0) hx hb dL_advice_14 (by decide) ?_
    have hP9 := hP.sub (ws' := [(x, .inr (1, [.ref aH, .ref aL, .ref aS, .ref aO, .ref aK, .ref aZ, .ref cv, .int tcn_2, .int mcn, .int swd, .int rwd, .int bpt, .int flm])), (aH, .inl (cI, 34, .inl hd_3)), (aL, .inl (cI, 34, .inl la)), (cv, .inr (0, [.ref q9, .ref q10, .int glm_4, .int rom_5, .int hel_6])), (q9, .inl (cI, 90, .inl nw_7)), (q10, .inl (cI, 90, .inl nx_8)), (aQ, .inl (cJ, 1, .inr (.inl (vp_updL ou (0 : Int32).toNatClampNeg r1.toInt64))))]) [1, 2, 3, 4, 5, 6, 0] rfl
    have hD9 := hD.sub (ws' := [(x, .inr (1, [.ref aH, .ref aL, .ref aS, .ref aO, .ref aK, .ref aZ, .ref cv, .int tcn_2, .int mcn, .int swd, .int rwd, .int bpt, .int flm])), (aH, .inl (cI, 34, .inl hd_3)), (aL, .inl (cI, 34, .inl la)), (cv, .inr (0, [.ref q9, .ref q10, .int glm_4, .int rom_5, .int hel_6])), (q9, .inl (cI, 90, .inl nw_7)), (q10, .inl (cI, 90, .inl nx_8)), (aQ, .inl (cJ, 1, .inr (.inl (vp_updL ou (0 : Int32).toNatClampNeg r1.toInt64))))]) [1, 2, 3, 4, 5, 6, 0] (by decide) rfl
    refine W.widen (k := 1) (n := 6) (by omega) (by omega) ?_
    rw [← hQ9]
    exact W.iret (v := (0 : Int32)) hx hb hr (fun t ht hW => ⟨⟨(0 : Int32), (tcn_2, hd_3, glm_4, rom_5, hel_6, nw_7, nx_8, vp_updL ou (0 : Int32).toNatClampNeg r1.toInt64), rfl, hw, q9, q10, by rw [ht]; exact hP9, va_K.moved hW.alike hK, hD9⟩, hS.F ht⟩) hS.2.2 dL_advice_15
  · refine vx_calli (vx_runV (As := []) (rest := [.int (0 : Int32), .ref aQ]) ⟨hx, hb, hml, hown, hts⟩ (c_X1_advice_x l hl9 dC dI cI cZ x aH aL aS aO aK aZ cv aN aX s.heap.size tcn mcn swd rwd bpt flm hd la glm rom hel nw nx _ hw) (cwV 0 hts gL_advice_X1_advice rfl rfl rfl (by decide +kernel) ⟨Nat.le_of_ble_eq_true rfl, Nat.le_of_ble_eq_true rfl⟩) ⟨fun a U g mk q => by obtain ⟨q0, q1, qP, qK, qD, qN, qX⟩ := q; exact ⟨q0, q1, qP, va_K.moved (u := U) (U := U.calling g mk a) (Vm.Alike.refl U.vm) qK, qD, va_Nw.same rfl rfl qN, xk_same rfl rfl qX⟩, va_recv hK2 hPc (ci := 1) (q0 := 0) rfl rfl, fun U hU hW => ⟨rfl, by rw [hU], by rw [hU]; exact hPc, va_K.moved hW.alike hK2, hDc.weaken (fun _ _ _ _ => trivial), va_Nw.warmM hW hnk, xk_call hS hU hW (fun q h => hFc q h) hxk⟩⟩ rfl rfl hl.1 rfl (lv_room (Nat.le_of_ble_eq_true rfl)) dL_advice_3 ⟨Nat.le_of_ble_eq_true rfl, Nat.le_of_ble_eq_true rfl⟩) hS (fun q _ h => hFc q h) hFc (fun q _ h => hFc q h) (fun E ce qe9 u t H1 locs ht hvm hw hB hz1 hk1 hS hce hcv hcl => ?_) (fun r1 u t H1 locs ht hvm hw hB hz1 hk1 hS => False.elim hw)
    obtain ⟨E12, tcn_2, hd_3, glm_4, rom_5, hel_6, nw_7, nx_8⟩ := u
    obtain ⟨hE9, q9, q10, hP1, -, hD1⟩ := hB
    try dsimp only at hw
    rw [ht] at hP1
    obtain ⟨hP, hD⟩ := va_join (wr := [(aQ, .inl (cJ, 1, .inr (.inl ou)))]) (w1 := [(x, .inr (1, [.ref aH, .ref aL, .ref aS, .ref aO, .ref aK, .ref aZ, .ref cv, .int tcn_2, .int mcn, .int swd, .int rwd, .int bpt, .int flm])), (aH, .inl (cI, 34, .inl hd_3)), (aL, .inl (cI, 34, .inl la)), (cv, .inr (0, [.ref q9, .ref q10, .int glm_4, .int rom_5, .int hel_6])), (q9, .inl (cI, 90, .inl nw_7)), (q10, .inl (cI, 90, .inl nx_8))]) hP hD [0, 1, 2, 3, 4, 5] [6] rfl rfl (by decide) (by decide) hk1 hFc hP1 hD1
    generalize H1 = H at hP hS hce ⊢
    have hP : va_P (dC, dI) vwCl [(aQ, .inl (cJ, 1, .inr (.inl ou))), (x, .inr (1, [.ref aH, .ref aL, .ref aS, .ref aO, .ref aK, .ref aZ, .ref cv, .int tcn_2, .int mcn, .int swd, .int rwd, .int bpt, .int flm])), (aH, .inl (cI, 34, .inl hd_3)), (aL, .inl (cI, 34, .inl la)), (cv, .inr (0, [.ref q9, .ref q10, .int glm_4, .int rom_5, .int hel_6])), (q9, .inl (cI, 90, .inl nw_7)), (q10, .inl (cI, 90, .inl nx_8))] H := hP
    have hD : va_D A [(aQ, .inl (cJ, 1, .inr (.inl ou))), (x, .inr (1, [.ref aH, .ref aL, .ref aS, .ref aO, .ref aK, .ref aZ, .ref cv, .int tcn_2, .int mcn, .int swd, .int rwd, .int bpt, .int flm])), (aH, .inl (cI, 34, .inl hd_3)), (aL, .inl (cI, 34, .inl la)), (cv, .inr (0, [.ref q9, .ref q10, .int glm_4, .int rom_5, .int hel_6])), (q9, .inl (cI, 90, .inl nw_7)), (q10, .inl (cI, 90, .inl nx_8))] := hD
    obtain ⟨hq, hw⟩ := hw
    · have hE := hE9.trans hq
      try dsimp only at hE
      subst hE
      refine vx_catch (own := RL) (name := "java/lang/IllegalStateException") (E := "java/lang/IllegalStateException") hown [] ⟨0, 8, 11, 15⟩ [] (by rw [hTab]; rfl) (fun z hz => nomatch hz) (by decide) (by decide) (hts (.classLink RL 15 "java/lang/IllegalStateException") (by decide +kernel)) (va_Nw.use rfl (xk_c3 hxk)) hce hcv hcl ?_
      refine lv_astore_n (lv' := [(2, .ref qe9), (0, .ref x), (1, .ref aQ)]) hx hb dL_advice_11 rfl hl (by decide) rfl (fun ls hl => ?_)
      refine lv_iconst (v := 1) hx hb dL_advice_12 (by decide) ?_
      have hP9 := hP.sub (ws' := [(x, .inr (1, [.ref aH, .ref aL, .ref aS, .ref aO, .ref aK, .ref aZ, .ref cv, .int tcn_2, .int mcn, .int swd, .int rwd, .int bpt, .int flm])), (aH, .inl (cI, 34, .inl hd_3)), (aL, .inl (cI, 34, .inl la)), (cv, .inr (0, [.ref q9, .ref q10, .int glm_4, .int rom_5, .int hel_6])), (q9, .inl (cI, 90, .inl nw_7)), (q10, .inl (cI, 90, .inl nx_8)), (aQ, .inl (cJ, 1, .inr (.inl ou)))]) [1, 2, 3, 4, 5, 6, 0] rfl
      have hD9 := hD.sub (ws' := [(x, .inr (1, [.ref aH, .ref aL, .ref aS, .ref aO, .ref aK, .ref aZ, .ref cv, .int tcn_2, .int mcn, .int swd, .int rwd, .int bpt, .int flm])), (aH, .inl (cI, 34, .inl hd_3)), (aL, .inl (cI, 34, .inl la)), (cv, .inr (0, [.ref q9, .ref q10, .int glm_4, .int rom_5, .int hel_6])), (q9, .inl (cI, 90, .inl nw_7)), (q10, .inl (cI, 90, .inl nx_8)), (aQ, .inl (cJ, 1, .inr (.inl ou)))]) [1, 2, 3, 4, 5, 6, 0] (by decide) rfl
      rw [← hQ9]
      exact W.iret (v := (1 : Int32)) hx hb hr (fun t ht hW => ⟨⟨(1 : Int32), (tcn_2, hd_3, glm_4, rom_5, hel_6, nw_7, nx_8, ou), rfl, hw, q9, q10, by rw [ht]; exact hP9, va_K.moved hW.alike hK, hD9⟩, hS.F ht⟩) hS.2.2 dL_advice_13

def w_L_setWinds (swd : Int32) (rwd : Int32) (ou : (Nat → Int64)) (p0 : Int32) (p1 : Int32) (post : Int32 → Int32 → Int32 → (Nat → Int64) → Prop) : Prop := ((w_X1_setWinds swd rwd p0 p1 (fun r1 swd_2 rwd_3 => (vp_in (0 : Int32) 1 ∧ (post (0 : Int32) swd_2 rwd_3 (vp_updL ou (0 : Int32).toNatClampNeg r1.toInt64))))) ∨ (w_X1_setWinds_x swd rwd p0 p1 (fun E5 swd_2 rwd_3 => ((E5 = "java/lang/IllegalArgumentException" ∧ (post (1 : Int32) swd_2 rwd_3 ou))))))

set_option maxHeartbeats 4000000 in
set_option maxRecDepth 100000 in
theorem c_L_setWinds (l : Launch) (hl9 : l.stackTraces = false) (dC : Nat → ClassId) (dI : Nat → Nat → Nat) (cI cZ cJ : ClassId) (x : Nat) (aH : Nat) (aL : Nat) (aS : Nat) (aO : Nat) (aK : Nat) (aZ : Nat) (cv : Nat) (aQ : Nat) (sz : Nat) (tcn : Int32) (mcn : Int32) (swd : Int32) (rwd : Int32) (bpt : Int32) (flm : Int32) (ou : (Nat → Int64)) (p0 : Int32) (p1 : Int32) (post : Int32 → Int32 → Int32 → (Nat → Int64) → Prop) (hw : w_L_setWinds swd rwd ou p0 p1 post) : Met l yL_setWinds wsL_setWinds ({ frames := 7, cells := 1, slots := 6, locals := 133 } : Room) (va_Pc [.ref x, .int p0, .int p1, .ref aQ] (fun U => U.heap.size = sz ∧ va_P (dC, dI) vwCl [(x, .inr (1, [.ref aH, .ref aL, .ref aS, .ref aO, .ref aK, .ref aZ, .ref cv, .int tcn, .int mcn, .int swd, .int rwd, .int bpt, .int flm])), (aQ, .inl (cJ, 1, .inr (.inl ou)))] U.heap ∧ va_K (dC, dI) vwCl [(cI, .int), (cZ, .boolean), (cJ, .long)] U ∧ va_D (fun _ => True) [(x, .inr (1, [.ref aH, .ref aL, .ref aS, .ref aO, .ref aK, .ref aZ, .ref cv, .int tcn, .int mcn, .int swd, .int rwd, .int bpt, .int flm])), (aQ, .inl (cJ, 1, .inr (.inl ou)))] ∧ nck U ∧ xk (va_A [(x, .inr (1, [.ref aH, .ref aL, .ref aS, .ref aO, .ref aK, .ref aZ, .ref cv, .int tcn, .int mcn, .int swd, .int rwd, .int bpt, .int flm])), (aQ, .inl (cJ, 1, .inr (.inl ou)))] sz) U)) (va_Qi (fun (r9 : Int32) (u9 : Int32 × Int32 × (Nat → Int64)) => post r9 u9.1 u9.2.1 u9.2.2) (fun (u9 : Int32 × Int32 × (Nat → Int64)) (t9 : State) => va_P (dC, dI) vwCl [(x, .inr (1, [.ref aH, .ref aL, .ref aS, .ref aO, .ref aK, .ref aZ, .ref cv, .int tcn, .int mcn, .int u9.1, .int u9.2.1, .int bpt, .int flm])), (aQ, .inl (cJ, 1, .inr (.inl u9.2.2)))] t9.heap ∧ va_K (dC, dI) vwCl [(cI, .int), (cZ, .boolean), (cJ, .long)] t9 ∧ va_D (va_A [(x, .inr (1, [.ref aH, .ref aL, .ref aS, .ref aO, .ref aK, .ref aZ, .ref cv, .int tcn, .int mcn, .int swd, .int rwd, .int bpt, .int flm])), (aQ, .inl (cJ, 1, .inr (.inl ou)))] sz) [(x, .inr (1, [.ref aH, .ref aL, .ref aS, .ref aO, .ref aK, .ref aZ, .ref cv, .int tcn, .int mcn, .int u9.1, .int u9.2.1, .int bpt, .int flm])), (aQ, .inl (cJ, 1, .inr (.inl u9.2.2)))]) (va_A [(x, .inr (1, [.ref aH, .ref aL, .ref aS, .ref aO, .ref aK, .ref aZ, .ref cv, .int tcn, .int mcn, .int swd, .int rwd, .int bpt, .int flm])), (aQ, .inl (cJ, 1, .inr (.inl ou)))] sz)) 1 6 (va_A [(x, .inr (1, [.ref aH, .ref aL, .ref aS, .ref aO, .ref aK, .ref aZ, .ref cv, .int tcn, .int mcn, .int swd, .int rwd, .int bpt, .int flm])), (aQ, .inl (cJ, 1, .inr (.inl ou)))] sz) := by
  refine va_MetW (cc := cL_setWinds) (maxL := 5) (ret := (some .int)) (by decide) rfl ?_
  intro p e s m args below meth c s₁ B hml hv
  obtain ⟨rfl, hsz, hP, hK, hD0, hnc, hxk⟩ := hv
  have hx := B.exec
  have hb := B.bytes
  have hr := B.returns
  have hts := atoms_spec (ws := wsL_setWinds) B.pre
  have hown : s.vm.findClass RL = some m.cls := findClass_of_methodNamed B.named
  have hlocks := B.notSynchronized
  have hinX1 : ∀ w ∈ u_ws RX1 TX1 13, w ∈ wsL_setWinds := by decide +kernel
  have hTab := vx_table (x := yL_setWinds) B (hts (.codeWith yL_setWinds cL_setWinds 5 (some .int) [(0, 10, 13, 27)]) (by decide +kernel))
  have hK2 := hK.sub (tys' := [(cI, .int), (cZ, .boolean)]) [0, 1] rfl
  subst hsz
  have hD := hD0.self (sz := s.heap.size)
  generalize hAe : va_A [(x, .inr (1, [.ref aH, .ref aL, .ref aS, .ref aO, .ref aK, .ref aZ, .ref cv, .int tcn, .int mcn, .int swd, .int rwd, .int bpt, .int flm])), (aQ, .inl (cJ, 1, .inr (.inl ou)))] s.heap.size = A at hD hxk ⊢
  have hA : ∀ q : Nat, s.heap.size ≤ q → A q := fun q h => by rw [← hAe]; exact Or.inr h
  have hS : va_S A s.heap s.heap [] := va_S.rf
  have hl := lv_entry ([.ref x, .int p0, .int p1, .ref aQ]) (n := 5) (Nat.le_of_ble_eq_true rfl)
  rw [lg_entry_eq]
  generalize (lg_sl ([.ref x, .int p0, .int p1, .ref aQ]) ++ List.replicate (5 - (lg_sl ([.ref x, .int p0, .int p1, .ref aQ])).length) Slot.unset).toArray = ls at hl ⊢
  have hl : lv_has ls 5 [(0, .ref x), (1, .int p0), (2, .int p1), (3, .ref aQ)] := hl
  refine (?_ : ∀ Q9 : State → Prop, MQ below _ _ s _ _ _ = Q9 → W p l e ({ frames := 7, cells := 1, slots := 6, locals := 133 } : Room) s m _ below meth c s.heap [] 0 0 Q9 (F0 m 0 ls [])) _ rfl
  intro Q9 hQ9
  have hw : ((w_X1_setWinds swd rwd p0 p1 (fun r1 swd_2 rwd_3 => (vp_in (0 : Int32) 1 ∧ (post (0 : Int32) swd_2 rwd_3 (vp_updL ou (0 : Int32).toNatClampNeg r1.toInt64))))) ∨ (w_X1_setWinds_x swd rwd p0 p1 (fun E5 swd_2 rwd_3 => ((E5 = "java/lang/IllegalArgumentException" ∧ (post (1 : Int32) swd_2 rwd_3 ou)))))) := hw
  refine lv_aload_n hx hb dL_setWinds_0 rfl (lv_at hl 3 rfl) ?_
  refine lv_iconst (v := 0) hx hb dL_setWinds_1 (by decide) ?_
  refine lv_aload_n hx hb dL_setWinds_2 rfl (lv_at hl 0 rfl) ?_
  refine lv_iload_n hx hb dL_setWinds_3 rfl (lv_at hl 1 rfl) ?_
  refine lv_iload_n hx hb dL_setWinds_4 rfl (lv_at hl 2 rfl) ?_
  have hPc := hP.sub (ws' := [(x, .inr (1, [.ref aH, .ref aL, .ref aS, .ref aO, .ref aK, .ref aZ, .ref cv, .int tcn, .int mcn, .int swd, .int rwd, .int bpt, .int flm]))]) [0] rfl
  have hDc := hD.sub (ws' := [(x, .inr (1, [.ref aH, .ref aL, .ref aS, .ref aO, .ref aK, .ref aZ, .ref cv, .int tcn, .int mcn, .int swd, .int rwd, .int bpt, .int flm]))]) [0] (by decide) rfl
  have hFc := va_free (wc := [(x, .inr (1, [.ref aH, .ref aL, .ref aS, .ref aO, .ref aK, .ref aZ, .ref cv, .int tcn, .int mcn, .int swd, .int rwd, .int bpt, .int flm]))]) hD hS hA [0] rfl
  rcases hw with hw | hw
  · refine va_calli (va_runV (As := [.int p0, .int p1]) (rest := [.int (0 : Int32), .ref aQ]) ⟨hx, hb, hml, hown, hts⟩ (c_X1_setWinds l dC dI cI cZ x aH aL aS aO aK aZ cv s.heap.size tcn mcn swd rwd bpt flm p0 p1 _ hw) (cwV 2 hts gL_setWinds_X1_setWinds rfl rfl rfl (by decide +kernel) ⟨Nat.le_of_ble_eq_true rfl, Nat.le_of_ble_eq_true rfl⟩) ⟨fun a U g mk q => by obtain ⟨q0, q1, qP, qK, qD⟩ := q; exact ⟨q0, q1, qP, va_K.moved (u := U) (U := U.calling g mk a) (Vm.Alike.refl U.vm) qK, qD⟩, va_recv hK2 hPc (ci := 1) (q0 := 0) rfl rfl, fun U hU hW => ⟨rfl, by rw [hU], by rw [hU]; exact hPc, va_K.moved hW.alike hK2, hDc.weaken (fun _ _ _ _ => trivial)⟩⟩ rfl rfl hl.1 rfl (lv_room (Nat.le_of_ble_eq_true rfl)) dL_setWinds_5 ⟨Nat.le_of_ble_eq_true rfl, Nat.le_of_ble_eq_true rfl⟩) hS (fun q _ h => hFc q h) hFc (fun r1 u t H1 locs ht hvm hw hB hz1 hk1 hS => ?_)
    obtain ⟨swd_2, rwd_3⟩ := u
    obtain ⟨hP1, -, hD1⟩ := hB
    have hw := And.intro hw trivial
    try dsimp only at hw
    have hw := hw.1
    rw [ht] at hP1
    obtain ⟨hP, hD⟩ := va_join (wr := [(aQ, .inl (cJ, 1, .inr (.inl ou)))]) (w1 := [(x, .inr (1, [.ref aH, .ref aL, .ref aS, .ref aO, .ref aK, .ref aZ, .ref cv, .int tcn, .int mcn, .int swd_2, .int rwd_3, .int bpt, .int flm]))]) hP hD [0] [1] rfl rfl (by decide) (by decide) hk1 hFc hP1 hD1
    generalize H1 = H at hP hS ⊢
    have hP : va_P (dC, dI) vwCl [(aQ, .inl (cJ, 1, .inr (.inl ou))), (x, .inr (1, [.ref aH, .ref aL, .ref aS, .ref aO, .ref aK, .ref aZ, .ref cv, .int tcn, .int mcn, .int swd_2, .int rwd_3, .int bpt, .int flm]))] H := hP
    have hD : va_D A [(aQ, .inl (cJ, 1, .inr (.inl ou))), (x, .inr (1, [.ref aH, .ref aL, .ref aS, .ref aO, .ref aK, .ref aZ, .ref cv, .int tcn, .int mcn, .int swd_2, .int rwd_3, .int bpt, .int flm]))] := hD
    refine lv_i2l (v := r1.toInt64) hx hb dL_setWinds_8 rfl ?_
    obtain ⟨h4, hw⟩ := hw
    refine va_last hx hb hK hP hD hS 0 2 rfl rfl h4 dL_setWinds_9 (fun H locs hP hD hS => ?_)
    have hP : va_P (dC, dI) vwCl [(aQ, .inl (cJ, 1, .inr (.inl (vp_updL ou (0 : Int32).toNatClampNeg r1.toInt64)))), (x, .inr (1, [.ref aH, .ref aL, .ref aS, .ref aO, .ref aK, .ref aZ, .ref cv, .int tcn, .int mcn, .int swd_2, .int rwd_3, .int bpt, .int flm]))] H := hP
    have hD : va_D A [(aQ, .inl (cJ, 1, .inr (.inl (vp_updL ou (0 : Int32).toNatClampNeg r1.toInt64)))), (x, .inr (1, [.ref aH, .ref aL, .ref aS, .ref aO, .ref aK, .ref aZ, .ref cv, .int tcn, .int mcn, .int swd_2, .int rwd_3, .int bpt, .int flm]))] := hD
    refine lv_goto (tgt := 17) hx hb dL_setWinds_10 (by decide) ?_
    refine lv_iconst (v := 0) hx hb dL_setWinds_17 (by decide) ?_
    have hP9 := hP.sub (ws' := [(x, .inr (1, [.ref aH, .ref aL, .ref aS, .ref aO, .ref aK, .ref aZ, .ref cv, .int tcn, .int mcn, .int swd_2, .int rwd_3, .int bpt, .int flm])), (aQ, .inl (cJ, 1, .inr (.inl (vp_updL ou (0 : Int32).toNatClampNeg r1.toInt64))))]) [1, 0] rfl
    have hD9 := hD.sub (ws' := [(x, .inr (1, [.ref aH, .ref aL, .ref aS, .ref aO, .ref aK, .ref aZ, .ref cv, .int tcn, .int mcn, .int swd_2, .int rwd_3, .int bpt, .int flm])), (aQ, .inl (cJ, 1, .inr (.inl (vp_updL ou (0 : Int32).toNatClampNeg r1.toInt64))))]) [1, 0] (by decide) rfl
    refine W.widen (k := 1) (n := 6) (by omega) (by omega) ?_
    rw [← hQ9]
    exact W.iret (v := (0 : Int32)) hx hb hr (fun t ht hW => ⟨⟨(0 : Int32), (swd_2, rwd_3, vp_updL ou (0 : Int32).toNatClampNeg r1.toInt64), rfl, hw, by rw [ht]; exact hP9, va_K.moved hW.alike hK, hD9⟩, hS.F ht⟩) hS.2.2 dL_setWinds_18
  · refine vx_calli (vx_runV (As := [.int p0, .int p1]) (rest := [.int (0 : Int32), .ref aQ]) ⟨hx, hb, hml, hown, hts⟩ (c_X1_setWinds_x l hl9 dC dI cI cZ x aH aL aS aO aK aZ cv s.heap.size tcn mcn swd rwd bpt flm p0 p1 _ hw) (cwV 2 hts gL_setWinds_X1_setWinds rfl rfl rfl (by decide +kernel) ⟨Nat.le_of_ble_eq_true rfl, Nat.le_of_ble_eq_true rfl⟩) ⟨fun a U g mk q => by obtain ⟨q0, q1, qP, qK, qD, qX⟩ := q; exact ⟨q0, q1, qP, va_K.moved (u := U) (U := U.calling g mk a) (Vm.Alike.refl U.vm) qK, qD, xk_same rfl rfl qX⟩, va_recv hK2 hPc (ci := 1) (q0 := 0) rfl rfl, fun U hU hW => ⟨rfl, by rw [hU], by rw [hU]; exact hPc, va_K.moved hW.alike hK2, hDc.weaken (fun _ _ _ _ => trivial), xk_call hS hU hW (fun q h => hFc q h) hxk⟩⟩ rfl rfl hl.1 rfl (lv_room (Nat.le_of_ble_eq_true rfl)) dL_setWinds_5 ⟨Nat.le_of_ble_eq_true rfl, Nat.le_of_ble_eq_true rfl⟩) hS (fun q _ h => hFc q h) hFc (fun q _ h => hFc q h) (fun E ce qe9 u t H1 locs ht hvm hw hB hz1 hk1 hS hce hcv hcl => ?_) (fun r1 u t H1 locs ht hvm hw hB hz1 hk1 hS => False.elim hw)
    obtain ⟨E5, swd_2, rwd_3⟩ := u
    obtain ⟨hE9, hP1, -, hD1⟩ := hB
    try dsimp only at hw
    rw [ht] at hP1
    obtain ⟨hP, hD⟩ := va_join (wr := [(aQ, .inl (cJ, 1, .inr (.inl ou)))]) (w1 := [(x, .inr (1, [.ref aH, .ref aL, .ref aS, .ref aO, .ref aK, .ref aZ, .ref cv, .int tcn, .int mcn, .int swd_2, .int rwd_3, .int bpt, .int flm]))]) hP hD [0] [1] rfl rfl (by decide) (by decide) hk1 hFc hP1 hD1
    generalize H1 = H at hP hS hce ⊢
    have hP : va_P (dC, dI) vwCl [(aQ, .inl (cJ, 1, .inr (.inl ou))), (x, .inr (1, [.ref aH, .ref aL, .ref aS, .ref aO, .ref aK, .ref aZ, .ref cv, .int tcn, .int mcn, .int swd_2, .int rwd_3, .int bpt, .int flm]))] H := hP
    have hD : va_D A [(aQ, .inl (cJ, 1, .inr (.inl ou))), (x, .inr (1, [.ref aH, .ref aL, .ref aS, .ref aO, .ref aK, .ref aZ, .ref cv, .int tcn, .int mcn, .int swd_2, .int rwd_3, .int bpt, .int flm]))] := hD
    obtain ⟨hq, hw⟩ := hw
    · have hE := hE9.trans hq
      try dsimp only at hE
      subst hE
      refine vx_catch (own := RL) (name := "java/lang/IllegalArgumentException") (E := "java/lang/IllegalArgumentException") hown [] ⟨0, 10, 13, 27⟩ [] (by rw [hTab]; rfl) (fun z hz => nomatch hz) (by decide) (by decide) (hts (.classLink RL 27 "java/lang/IllegalArgumentException") (by decide +kernel)) (va_Nw.use rfl (xk_c2 hxk)) hce hcv hcl ?_
      refine lv_astore (lv' := [(4, .ref qe9), (0, .ref x), (1, .int p0), (2, .int p1), (3, .ref aQ)]) hx hb dL_setWinds_13 hl (by decide) rfl (fun ls hl => ?_)
      refine lv_iconst (v := 1) hx hb dL_setWinds_15 (by decide) ?_
      have hP9 := hP.sub (ws' := [(x, .inr (1, [.ref aH, .ref aL, .ref aS, .ref aO, .ref aK, .ref aZ, .ref cv, .int tcn, .int mcn, .int swd_2, .int rwd_3, .int bpt, .int flm])), (aQ, .inl (cJ, 1, .inr (.inl ou)))]) [1, 0] rfl
      have hD9 := hD.sub (ws' := [(x, .inr (1, [.ref aH, .ref aL, .ref aS, .ref aO, .ref aK, .ref aZ, .ref cv, .int tcn, .int mcn, .int swd_2, .int rwd_3, .int bpt, .int flm])), (aQ, .inl (cJ, 1, .inr (.inl ou)))]) [1, 0] (by decide) rfl
      rw [← hQ9]
      exact W.iret (v := (1 : Int32)) hx hb hr (fun t ht hW => ⟨⟨(1 : Int32), (swd_2, rwd_3, ou), rfl, hw, by rw [ht]; exact hP9, va_K.moved hW.alike hK, hD9⟩, hS.F ht⟩) hS.2.2 dL_setWinds_16

def w_L_setPoints (bpt : Int32) (flm : Int32) (ou : (Nat → Int64)) (p0 : Int32) (p1 : Int32) (post : Int32 → Int32 → Int32 → (Nat → Int64) → Prop) : Prop := ((w_X1_setPoints bpt flm p0 p1 (fun r1 bpt_2 flm_3 => (vp_in (0 : Int32) 1 ∧ (post (0 : Int32) bpt_2 flm_3 (vp_updL ou (0 : Int32).toNatClampNeg r1.toInt64))))) ∨ (w_X1_setPoints_x bpt flm p0 p1 (fun E5 bpt_2 flm_3 => ((E5 = "java/lang/IllegalArgumentException" ∧ (post (1 : Int32) bpt_2 flm_3 ou))))))

set_option maxHeartbeats 4000000 in
set_option maxRecDepth 100000 in
theorem c_L_setPoints (l : Launch) (hl9 : l.stackTraces = false) (dC : Nat → ClassId) (dI : Nat → Nat → Nat) (cI cZ cJ : ClassId) (x : Nat) (aH : Nat) (aL : Nat) (aS : Nat) (aO : Nat) (aK : Nat) (aZ : Nat) (cv : Nat) (aQ : Nat) (sz : Nat) (tcn : Int32) (mcn : Int32) (swd : Int32) (rwd : Int32) (bpt : Int32) (flm : Int32) (ou : (Nat → Int64)) (p0 : Int32) (p1 : Int32) (post : Int32 → Int32 → Int32 → (Nat → Int64) → Prop) (hw : w_L_setPoints bpt flm ou p0 p1 post) : Met l yL_setPoints wsL_setPoints ({ frames := 7, cells := 1, slots := 6, locals := 133 } : Room) (va_Pc [.ref x, .int p0, .int p1, .ref aQ] (fun U => U.heap.size = sz ∧ va_P (dC, dI) vwCl [(x, .inr (1, [.ref aH, .ref aL, .ref aS, .ref aO, .ref aK, .ref aZ, .ref cv, .int tcn, .int mcn, .int swd, .int rwd, .int bpt, .int flm])), (aQ, .inl (cJ, 1, .inr (.inl ou)))] U.heap ∧ va_K (dC, dI) vwCl [(cI, .int), (cZ, .boolean), (cJ, .long)] U ∧ va_D (fun _ => True) [(x, .inr (1, [.ref aH, .ref aL, .ref aS, .ref aO, .ref aK, .ref aZ, .ref cv, .int tcn, .int mcn, .int swd, .int rwd, .int bpt, .int flm])), (aQ, .inl (cJ, 1, .inr (.inl ou)))] ∧ nck U ∧ xk (va_A [(x, .inr (1, [.ref aH, .ref aL, .ref aS, .ref aO, .ref aK, .ref aZ, .ref cv, .int tcn, .int mcn, .int swd, .int rwd, .int bpt, .int flm])), (aQ, .inl (cJ, 1, .inr (.inl ou)))] sz) U)) (va_Qi (fun (r9 : Int32) (u9 : Int32 × Int32 × (Nat → Int64)) => post r9 u9.1 u9.2.1 u9.2.2) (fun (u9 : Int32 × Int32 × (Nat → Int64)) (t9 : State) => va_P (dC, dI) vwCl [(x, .inr (1, [.ref aH, .ref aL, .ref aS, .ref aO, .ref aK, .ref aZ, .ref cv, .int tcn, .int mcn, .int swd, .int rwd, .int u9.1, .int u9.2.1])), (aQ, .inl (cJ, 1, .inr (.inl u9.2.2)))] t9.heap ∧ va_K (dC, dI) vwCl [(cI, .int), (cZ, .boolean), (cJ, .long)] t9 ∧ va_D (va_A [(x, .inr (1, [.ref aH, .ref aL, .ref aS, .ref aO, .ref aK, .ref aZ, .ref cv, .int tcn, .int mcn, .int swd, .int rwd, .int bpt, .int flm])), (aQ, .inl (cJ, 1, .inr (.inl ou)))] sz) [(x, .inr (1, [.ref aH, .ref aL, .ref aS, .ref aO, .ref aK, .ref aZ, .ref cv, .int tcn, .int mcn, .int swd, .int rwd, .int u9.1, .int u9.2.1])), (aQ, .inl (cJ, 1, .inr (.inl u9.2.2)))]) (va_A [(x, .inr (1, [.ref aH, .ref aL, .ref aS, .ref aO, .ref aK, .ref aZ, .ref cv, .int tcn, .int mcn, .int swd, .int rwd, .int bpt, .int flm])), (aQ, .inl (cJ, 1, .inr (.inl ou)))] sz)) 1 6 (va_A [(x, .inr (1, [.ref aH, .ref aL, .ref aS, .ref aO, .ref aK, .ref aZ, .ref cv, .int tcn, .int mcn, .int swd, .int rwd, .int bpt, .int flm])), (aQ, .inl (cJ, 1, .inr (.inl ou)))] sz) := by
  refine va_MetW (cc := cL_setPoints) (maxL := 5) (ret := (some .int)) (by decide) rfl ?_
  intro p e s m args below meth c s₁ B hml hv
  obtain ⟨rfl, hsz, hP, hK, hD0, hnc, hxk⟩ := hv
  have hx := B.exec
  have hb := B.bytes
  have hr := B.returns
  have hts := atoms_spec (ws := wsL_setPoints) B.pre
  have hown : s.vm.findClass RL = some m.cls := findClass_of_methodNamed B.named
  have hlocks := B.notSynchronized
  have hinX1 : ∀ w ∈ u_ws RX1 TX1 13, w ∈ wsL_setPoints := by decide +kernel
  have hTab := vx_table (x := yL_setPoints) B (hts (.codeWith yL_setPoints cL_setPoints 5 (some .int) [(0, 10, 13, 27)]) (by decide +kernel))
  have hK2 := hK.sub (tys' := [(cI, .int), (cZ, .boolean)]) [0, 1] rfl
  subst hsz
  have hD := hD0.self (sz := s.heap.size)
  generalize hAe : va_A [(x, .inr (1, [.ref aH, .ref aL, .ref aS, .ref aO, .ref aK, .ref aZ, .ref cv, .int tcn, .int mcn, .int swd, .int rwd, .int bpt, .int flm])), (aQ, .inl (cJ, 1, .inr (.inl ou)))] s.heap.size = A at hD hxk ⊢
  have hA : ∀ q : Nat, s.heap.size ≤ q → A q := fun q h => by rw [← hAe]; exact Or.inr h
  have hS : va_S A s.heap s.heap [] := va_S.rf
  have hl := lv_entry ([.ref x, .int p0, .int p1, .ref aQ]) (n := 5) (Nat.le_of_ble_eq_true rfl)
  rw [lg_entry_eq]
  generalize (lg_sl ([.ref x, .int p0, .int p1, .ref aQ]) ++ List.replicate (5 - (lg_sl ([.ref x, .int p0, .int p1, .ref aQ])).length) Slot.unset).toArray = ls at hl ⊢
  have hl : lv_has ls 5 [(0, .ref x), (1, .int p0), (2, .int p1), (3, .ref aQ)] := hl
  refine (?_ : ∀ Q9 : State → Prop, MQ below _ _ s _ _ _ = Q9 → W p l e ({ frames := 7, cells := 1, slots := 6, locals := 133 } : Room) s m _ below meth c s.heap [] 0 0 Q9 (F0 m 0 ls [])) _ rfl
  intro Q9 hQ9
  have hw : ((w_X1_setPoints bpt flm p0 p1 (fun r1 bpt_2 flm_3 => (vp_in (0 : Int32) 1 ∧ (post (0 : Int32) bpt_2 flm_3 (vp_updL ou (0 : Int32).toNatClampNeg r1.toInt64))))) ∨ (w_X1_setPoints_x bpt flm p0 p1 (fun E5 bpt_2 flm_3 => ((E5 = "java/lang/IllegalArgumentException" ∧ (post (1 : Int32) bpt_2 flm_3 ou)))))) := hw
  refine lv_aload_n hx hb dL_setPoints_0 rfl (lv_at hl 3 rfl) ?_
  refine lv_iconst (v := 0) hx hb dL_setPoints_1 (by decide) ?_
  refine lv_aload_n hx hb dL_setPoints_2 rfl (lv_at hl 0 rfl) ?_
  refine lv_iload_n hx hb dL_setPoints_3 rfl (lv_at hl 1 rfl) ?_
  refine lv_iload_n hx hb dL_setPoints_4 rfl (lv_at hl 2 rfl) ?_
  have hPc := hP.sub (ws' := [(x, .inr (1, [.ref aH, .ref aL, .ref aS, .ref aO, .ref aK, .ref aZ, .ref cv, .int tcn, .int mcn, .int swd, .int rwd, .int bpt, .int flm]))]) [0] rfl
  have hDc := hD.sub (ws' := [(x, .inr (1, [.ref aH, .ref aL, .ref aS, .ref aO, .ref aK, .ref aZ, .ref cv, .int tcn, .int mcn, .int swd, .int rwd, .int bpt, .int flm]))]) [0] (by decide) rfl
  have hFc := va_free (wc := [(x, .inr (1, [.ref aH, .ref aL, .ref aS, .ref aO, .ref aK, .ref aZ, .ref cv, .int tcn, .int mcn, .int swd, .int rwd, .int bpt, .int flm]))]) hD hS hA [0] rfl
  rcases hw with hw | hw
  · refine va_calli (va_runV (As := [.int p0, .int p1]) (rest := [.int (0 : Int32), .ref aQ]) ⟨hx, hb, hml, hown, hts⟩ (c_X1_setPoints l dC dI cI cZ x aH aL aS aO aK aZ cv s.heap.size tcn mcn swd rwd bpt flm p0 p1 _ hw) (cwV 2 hts gL_setPoints_X1_setPoints rfl rfl rfl (by decide +kernel) ⟨Nat.le_of_ble_eq_true rfl, Nat.le_of_ble_eq_true rfl⟩) ⟨fun a U g mk q => by obtain ⟨q0, q1, qP, qK, qD⟩ := q; exact ⟨q0, q1, qP, va_K.moved (u := U) (U := U.calling g mk a) (Vm.Alike.refl U.vm) qK, qD⟩, va_recv hK2 hPc (ci := 1) (q0 := 0) rfl rfl, fun U hU hW => ⟨rfl, by rw [hU], by rw [hU]; exact hPc, va_K.moved hW.alike hK2, hDc.weaken (fun _ _ _ _ => trivial)⟩⟩ rfl rfl hl.1 rfl (lv_room (Nat.le_of_ble_eq_true rfl)) dL_setPoints_5 ⟨Nat.le_of_ble_eq_true rfl, Nat.le_of_ble_eq_true rfl⟩) hS (fun q _ h => hFc q h) hFc (fun r1 u t H1 locs ht hvm hw hB hz1 hk1 hS => ?_)
    obtain ⟨bpt_2, flm_3⟩ := u
    obtain ⟨hP1, -, hD1⟩ := hB
    have hw := And.intro hw trivial
    try dsimp only at hw
    have hw := hw.1
    rw [ht] at hP1
    obtain ⟨hP, hD⟩ := va_join (wr := [(aQ, .inl (cJ, 1, .inr (.inl ou)))]) (w1 := [(x, .inr (1, [.ref aH, .ref aL, .ref aS, .ref aO, .ref aK, .ref aZ, .ref cv, .int tcn, .int mcn, .int swd, .int rwd, .int bpt_2, .int flm_3]))]) hP hD [0] [1] rfl rfl (by decide) (by decide) hk1 hFc hP1 hD1
    generalize H1 = H at hP hS ⊢
    have hP : va_P (dC, dI) vwCl [(aQ, .inl (cJ, 1, .inr (.inl ou))), (x, .inr (1, [.ref aH, .ref aL, .ref aS, .ref aO, .ref aK, .ref aZ, .ref cv, .int tcn, .int mcn, .int swd, .int rwd, .int bpt_2, .int flm_3]))] H := hP
    have hD : va_D A [(aQ, .inl (cJ, 1, .inr (.inl ou))), (x, .inr (1, [.ref aH, .ref aL, .ref aS, .ref aO, .ref aK, .ref aZ, .ref cv, .int tcn, .int mcn, .int swd, .int rwd, .int bpt_2, .int flm_3]))] := hD
    refine lv_i2l (v := r1.toInt64) hx hb dL_setPoints_8 rfl ?_
    obtain ⟨h4, hw⟩ := hw
    refine va_last hx hb hK hP hD hS 0 2 rfl rfl h4 dL_setPoints_9 (fun H locs hP hD hS => ?_)
    have hP : va_P (dC, dI) vwCl [(aQ, .inl (cJ, 1, .inr (.inl (vp_updL ou (0 : Int32).toNatClampNeg r1.toInt64)))), (x, .inr (1, [.ref aH, .ref aL, .ref aS, .ref aO, .ref aK, .ref aZ, .ref cv, .int tcn, .int mcn, .int swd, .int rwd, .int bpt_2, .int flm_3]))] H := hP
    have hD : va_D A [(aQ, .inl (cJ, 1, .inr (.inl (vp_updL ou (0 : Int32).toNatClampNeg r1.toInt64)))), (x, .inr (1, [.ref aH, .ref aL, .ref aS, .ref aO, .ref aK, .ref aZ, .ref cv, .int tcn, .int mcn, .int swd, .int rwd, .int bpt_2, .int flm_3]))] := hD
    refine lv_goto (tgt := 17) hx hb dL_setPoints_10 (by decide) ?_
    refine lv_iconst (v := 0) hx hb dL_setPoints_17 (by decide) ?_
    have hP9 := hP.sub (ws' := [(x, .inr (1, [.ref aH, .ref aL, .ref aS, .ref aO, .ref aK, .ref aZ, .ref cv, .int tcn, .int mcn, .int swd, .int rwd, .int bpt_2, .int flm_3])), (aQ, .inl (cJ, 1, .inr (.inl (vp_updL ou (0 : Int32).toNatClampNeg r1.toInt64))))]) [1, 0] rfl
    have hD9 := hD.sub (ws' := [(x, .inr (1, [.ref aH, .ref aL, .ref aS, .ref aO, .ref aK, .ref aZ, .ref cv, .int tcn, .int mcn, .int swd, .int rwd, .int bpt_2, .int flm_3])), (aQ, .inl (cJ, 1, .inr (.inl (vp_updL ou (0 : Int32).toNatClampNeg r1.toInt64))))]) [1, 0] (by decide) rfl
    refine W.widen (k := 1) (n := 6) (by omega) (by omega) ?_
    rw [← hQ9]
    exact W.iret (v := (0 : Int32)) hx hb hr (fun t ht hW => ⟨⟨(0 : Int32), (bpt_2, flm_3, vp_updL ou (0 : Int32).toNatClampNeg r1.toInt64), rfl, hw, by rw [ht]; exact hP9, va_K.moved hW.alike hK, hD9⟩, hS.F ht⟩) hS.2.2 dL_setPoints_18
  · refine vx_calli (vx_runV (As := [.int p0, .int p1]) (rest := [.int (0 : Int32), .ref aQ]) ⟨hx, hb, hml, hown, hts⟩ (c_X1_setPoints_x l hl9 dC dI cI cZ x aH aL aS aO aK aZ cv s.heap.size tcn mcn swd rwd bpt flm p0 p1 _ hw) (cwV 2 hts gL_setPoints_X1_setPoints rfl rfl rfl (by decide +kernel) ⟨Nat.le_of_ble_eq_true rfl, Nat.le_of_ble_eq_true rfl⟩) ⟨fun a U g mk q => by obtain ⟨q0, q1, qP, qK, qD, qX⟩ := q; exact ⟨q0, q1, qP, va_K.moved (u := U) (U := U.calling g mk a) (Vm.Alike.refl U.vm) qK, qD, xk_same rfl rfl qX⟩, va_recv hK2 hPc (ci := 1) (q0 := 0) rfl rfl, fun U hU hW => ⟨rfl, by rw [hU], by rw [hU]; exact hPc, va_K.moved hW.alike hK2, hDc.weaken (fun _ _ _ _ => trivial), xk_call hS hU hW (fun q h => hFc q h) hxk⟩⟩ rfl rfl hl.1 rfl (lv_room (Nat.le_of_ble_eq_true rfl)) dL_setPoints_5 ⟨Nat.le_of_ble_eq_true rfl, Nat.le_of_ble_eq_true rfl⟩) hS (fun q _ h => hFc q h) hFc (fun q _ h => hFc q h) (fun E ce qe9 u t H1 locs ht hvm hw hB hz1 hk1 hS hce hcv hcl => ?_) (fun r1 u t H1 locs ht hvm hw hB hz1 hk1 hS => False.elim hw)
    obtain ⟨E5, bpt_2, flm_3⟩ := u
    obtain ⟨hE9, hP1, -, hD1⟩ := hB
    try dsimp only at hw
    rw [ht] at hP1
    obtain ⟨hP, hD⟩ := va_join (wr := [(aQ, .inl (cJ, 1, .inr (.inl ou)))]) (w1 := [(x, .inr (1, [.ref aH, .ref aL, .ref aS, .ref aO, .ref aK, .ref aZ, .ref cv, .int tcn, .int mcn, .int swd, .int rwd, .int bpt_2, .int flm_3]))]) hP hD [0] [1] rfl rfl (by decide) (by decide) hk1 hFc hP1 hD1
    generalize H1 = H at hP hS hce ⊢
    have hP : va_P (dC, dI) vwCl [(aQ, .inl (cJ, 1, .inr (.inl ou))), (x, .inr (1, [.ref aH, .ref aL, .ref aS, .ref aO, .ref aK, .ref aZ, .ref cv, .int tcn, .int mcn, .int swd, .int rwd, .int bpt_2, .int flm_3]))] H := hP
    have hD : va_D A [(aQ, .inl (cJ, 1, .inr (.inl ou))), (x, .inr (1, [.ref aH, .ref aL, .ref aS, .ref aO, .ref aK, .ref aZ, .ref cv, .int tcn, .int mcn, .int swd, .int rwd, .int bpt_2, .int flm_3]))] := hD
    obtain ⟨hq, hw⟩ := hw
    · have hE := hE9.trans hq
      try dsimp only at hE
      subst hE
      refine vx_catch (own := RL) (name := "java/lang/IllegalArgumentException") (E := "java/lang/IllegalArgumentException") hown [] ⟨0, 10, 13, 27⟩ [] (by rw [hTab]; rfl) (fun z hz => nomatch hz) (by decide) (by decide) (hts (.classLink RL 27 "java/lang/IllegalArgumentException") (by decide +kernel)) (va_Nw.use rfl (xk_c2 hxk)) hce hcv hcl ?_
      refine lv_astore (lv' := [(4, .ref qe9), (0, .ref x), (1, .int p0), (2, .int p1), (3, .ref aQ)]) hx hb dL_setPoints_13 hl (by decide) rfl (fun ls hl => ?_)
      refine lv_iconst (v := 1) hx hb dL_setPoints_15 (by decide) ?_
      have hP9 := hP.sub (ws' := [(x, .inr (1, [.ref aH, .ref aL, .ref aS, .ref aO, .ref aK, .ref aZ, .ref cv, .int tcn, .int mcn, .int swd, .int rwd, .int bpt_2, .int flm_3])), (aQ, .inl (cJ, 1, .inr (.inl ou)))]) [1, 0] rfl
      have hD9 := hD.sub (ws' := [(x, .inr (1, [.ref aH, .ref aL, .ref aS, .ref aO, .ref aK, .ref aZ, .ref cv, .int tcn, .int mcn, .int swd, .int rwd, .int bpt_2, .int flm_3])), (aQ, .inl (cJ, 1, .inr (.inl ou)))]) [1, 0] (by decide) rfl
      rw [← hQ9]
      exact W.iret (v := (1 : Int32)) hx hb hr (fun t ht hW => ⟨⟨(1 : Int32), (bpt_2, flm_3, ou), rfl, hw, by rw [ht]; exact hP9, va_K.moved hW.alike hK, hD9⟩, hS.F ht⟩) hS.2.2 dL_setPoints_16

def w_L_fans (tcn : Int32) (mcn : Int32) (swd : Int32) (rwd : Int32) (hd : (Nat → Int32)) (la : (Nat → Int32)) (so : (Nat → Int32)) (ki : (Nat → Int32)) (op : (Nat → Int32)) (ou : (Nat → Int64)) (p0 : Int32) (post : Int32 → (Nat → Int32) → (Nat → Int32) → (Nat → Int32) → (Nat → Int64) → Prop) : Prop := ((w_X1_fans tcn mcn swd rwd hd la so ki op p0 (fun r1 hd_2 so_3 ki_4 => (vp_in (0 : Int32) 1 ∧ (post (0 : Int32) hd_2 so_3 ki_4 (vp_updL ou (0 : Int32).toNatClampNeg r1.toInt64))))) ∨ (w_X1_fans_x tcn mcn swd rwd hd la so ki op p0 (fun E6 hd_2 so_3 ki_4 => ((E6 = "java/lang/IllegalStateException" ∧ (post (1 : Int32) hd_2 so_3 ki_4 ou))))))

set_option maxHeartbeats 4000000 in
set_option maxRecDepth 100000 in
theorem c_L_fans (l : Launch) (hl9 : l.stackTraces = false) (dC : Nat → ClassId) (dI : Nat → Nat → Nat) (cI cZ cJ : ClassId) (x : Nat) (aH : Nat) (aL : Nat) (aS : Nat) (aO : Nat) (aK : Nat) (aZ : Nat) (cv : Nat) (aQ : Nat) (sz : Nat) (tcn : Int32) (mcn : Int32) (swd : Int32) (rwd : Int32) (bpt : Int32) (flm : Int32) (hd : (Nat → Int32)) (la : (Nat → Int32)) (so : (Nat → Int32)) (ki : (Nat → Int32)) (op : (Nat → Int32)) (ou : (Nat → Int64)) (p0 : Int32) (post : Int32 → (Nat → Int32) → (Nat → Int32) → (Nat → Int32) → (Nat → Int64) → Prop) (hw : w_L_fans tcn mcn swd rwd hd la so ki op ou p0 post) : Met l yL_fans wsL_fans ({ frames := 20, cells := 1, slots := 6, locals := 464 } : Room) (va_Pc [.ref x, .int p0, .ref aQ] (fun U => U.heap.size = sz ∧ va_P (dC, dI) vwCl [(x, .inr (1, [.ref aH, .ref aL, .ref aS, .ref aO, .ref aK, .ref aZ, .ref cv, .int tcn, .int mcn, .int swd, .int rwd, .int bpt, .int flm])), (aH, .inl (cI, 34, .inl hd)), (aL, .inl (cI, 34, .inl la)), (aO, .inl (cI, 4, .inl so)), (aK, .inl (cI, 4, .inl ki)), (aZ, .inl (cZ, 4, .inl op)), (aQ, .inl (cJ, 1, .inr (.inl ou)))] U.heap ∧ va_K (dC, dI) vwCl [(cI, .int), (cZ, .boolean), (cJ, .long)] U ∧ va_D (fun _ => True) [(x, .inr (1, [.ref aH, .ref aL, .ref aS, .ref aO, .ref aK, .ref aZ, .ref cv, .int tcn, .int mcn, .int swd, .int rwd, .int bpt, .int flm])), (aH, .inl (cI, 34, .inl hd)), (aL, .inl (cI, 34, .inl la)), (aO, .inl (cI, 4, .inl so)), (aK, .inl (cI, 4, .inl ki)), (aZ, .inl (cZ, 4, .inl op)), (aQ, .inl (cJ, 1, .inr (.inl ou)))] ∧ nck U ∧ xk (va_A [(x, .inr (1, [.ref aH, .ref aL, .ref aS, .ref aO, .ref aK, .ref aZ, .ref cv, .int tcn, .int mcn, .int swd, .int rwd, .int bpt, .int flm])), (aH, .inl (cI, 34, .inl hd)), (aL, .inl (cI, 34, .inl la)), (aO, .inl (cI, 4, .inl so)), (aK, .inl (cI, 4, .inl ki)), (aZ, .inl (cZ, 4, .inl op)), (aQ, .inl (cJ, 1, .inr (.inl ou)))] sz) U)) (va_Qi (fun (r9 : Int32) (u9 : (Nat → Int32) × (Nat → Int32) × (Nat → Int32) × (Nat → Int64)) => post r9 u9.1 u9.2.1 u9.2.2.1 u9.2.2.2) (fun (u9 : (Nat → Int32) × (Nat → Int32) × (Nat → Int32) × (Nat → Int64)) (t9 : State) => va_P (dC, dI) vwCl [(x, .inr (1, [.ref aH, .ref aL, .ref aS, .ref aO, .ref aK, .ref aZ, .ref cv, .int tcn, .int mcn, .int swd, .int rwd, .int bpt, .int flm])), (aH, .inl (cI, 34, .inl u9.1)), (aL, .inl (cI, 34, .inl la)), (aO, .inl (cI, 4, .inl u9.2.1)), (aK, .inl (cI, 4, .inl u9.2.2.1)), (aZ, .inl (cZ, 4, .inl op)), (aQ, .inl (cJ, 1, .inr (.inl u9.2.2.2)))] t9.heap ∧ va_K (dC, dI) vwCl [(cI, .int), (cZ, .boolean), (cJ, .long)] t9 ∧ va_D (va_A [(x, .inr (1, [.ref aH, .ref aL, .ref aS, .ref aO, .ref aK, .ref aZ, .ref cv, .int tcn, .int mcn, .int swd, .int rwd, .int bpt, .int flm])), (aH, .inl (cI, 34, .inl hd)), (aL, .inl (cI, 34, .inl la)), (aO, .inl (cI, 4, .inl so)), (aK, .inl (cI, 4, .inl ki)), (aZ, .inl (cZ, 4, .inl op)), (aQ, .inl (cJ, 1, .inr (.inl ou)))] sz) [(x, .inr (1, [.ref aH, .ref aL, .ref aS, .ref aO, .ref aK, .ref aZ, .ref cv, .int tcn, .int mcn, .int swd, .int rwd, .int bpt, .int flm])), (aH, .inl (cI, 34, .inl u9.1)), (aL, .inl (cI, 34, .inl la)), (aO, .inl (cI, 4, .inl u9.2.1)), (aK, .inl (cI, 4, .inl u9.2.2.1)), (aZ, .inl (cZ, 4, .inl op)), (aQ, .inl (cJ, 1, .inr (.inl u9.2.2.2)))]) (va_A [(x, .inr (1, [.ref aH, .ref aL, .ref aS, .ref aO, .ref aK, .ref aZ, .ref cv, .int tcn, .int mcn, .int swd, .int rwd, .int bpt, .int flm])), (aH, .inl (cI, 34, .inl hd)), (aL, .inl (cI, 34, .inl la)), (aO, .inl (cI, 4, .inl so)), (aK, .inl (cI, 4, .inl ki)), (aZ, .inl (cZ, 4, .inl op)), (aQ, .inl (cJ, 1, .inr (.inl ou)))] sz)) 1 6 (va_A [(x, .inr (1, [.ref aH, .ref aL, .ref aS, .ref aO, .ref aK, .ref aZ, .ref cv, .int tcn, .int mcn, .int swd, .int rwd, .int bpt, .int flm])), (aH, .inl (cI, 34, .inl hd)), (aL, .inl (cI, 34, .inl la)), (aO, .inl (cI, 4, .inl so)), (aK, .inl (cI, 4, .inl ki)), (aZ, .inl (cZ, 4, .inl op)), (aQ, .inl (cJ, 1, .inr (.inl ou)))] sz) := by
  refine va_MetW (cc := cL_fans) (maxL := 4) (ret := (some .int)) (by decide) rfl ?_
  intro p e s m args below meth c s₁ B hml hv
  obtain ⟨rfl, hsz, hP, hK, hD0, hnc, hxk⟩ := hv
  have hx := B.exec
  have hb := B.bytes
  have hr := B.returns
  have hts := atoms_spec (ws := wsL_fans) B.pre
  have hown : s.vm.findClass RL = some m.cls := findClass_of_methodNamed B.named
  have hlocks := B.notSynchronized
  have hinX1 : ∀ w ∈ u_ws RX1 TX1 13, w ∈ wsL_fans := by decide +kernel
  have hTab := vx_table (x := yL_fans) B (hts (.codeWith yL_fans cL_fans 4 (some .int) [(0, 9, 12, 15)]) (by decide +kernel))
  have hK2 := hK.sub (tys' := [(cI, .int), (cZ, .boolean)]) [0, 1] rfl
  subst hsz
  have hD := hD0.self (sz := s.heap.size)
  generalize hAe : va_A [(x, .inr (1, [.ref aH, .ref aL, .ref aS, .ref aO, .ref aK, .ref aZ, .ref cv, .int tcn, .int mcn, .int swd, .int rwd, .int bpt, .int flm])), (aH, .inl (cI, 34, .inl hd)), (aL, .inl (cI, 34, .inl la)), (aO, .inl (cI, 4, .inl so)), (aK, .inl (cI, 4, .inl ki)), (aZ, .inl (cZ, 4, .inl op)), (aQ, .inl (cJ, 1, .inr (.inl ou)))] s.heap.size = A at hD hxk ⊢
  have hA : ∀ q : Nat, s.heap.size ≤ q → A q := fun q h => by rw [← hAe]; exact Or.inr h
  have hS : va_S A s.heap s.heap [] := va_S.rf
  have hl := lv_entry ([.ref x, .int p0, .ref aQ]) (n := 4) (Nat.le_of_ble_eq_true rfl)
  rw [lg_entry_eq]
  generalize (lg_sl ([.ref x, .int p0, .ref aQ]) ++ List.replicate (4 - (lg_sl ([.ref x, .int p0, .ref aQ])).length) Slot.unset).toArray = ls at hl ⊢
  have hl : lv_has ls 4 [(0, .ref x), (1, .int p0), (2, .ref aQ)] := hl
  refine (?_ : ∀ Q9 : State → Prop, MQ below _ _ s _ _ _ = Q9 → W p l e ({ frames := 20, cells := 1, slots := 6, locals := 464 } : Room) s m _ below meth c s.heap [] 0 0 Q9 (F0 m 0 ls [])) _ rfl
  intro Q9 hQ9
  have hw : ((w_X1_fans tcn mcn swd rwd hd la so ki op p0 (fun r1 hd_2 so_3 ki_4 => (vp_in (0 : Int32) 1 ∧ (post (0 : Int32) hd_2 so_3 ki_4 (vp_updL ou (0 : Int32).toNatClampNeg r1.toInt64))))) ∨ (w_X1_fans_x tcn mcn swd rwd hd la so ki op p0 (fun E6 hd_2 so_3 ki_4 => ((E6 = "java/lang/IllegalStateException" ∧ (post (1 : Int32) hd_2 so_3 ki_4 ou)))))) := hw
  refine lv_aload_n hx hb dL_fans_0 rfl (lv_at hl 2 rfl) ?_
  refine lv_iconst (v := 0) hx hb dL_fans_1 (by decide) ?_
  refine lv_aload_n hx hb dL_fans_2 rfl (lv_at hl 0 rfl) ?_
  refine lv_iload_n hx hb dL_fans_3 rfl (lv_at hl 1 rfl) ?_
  have hPc := hP.sub (ws' := [(x, .inr (1, [.ref aH, .ref aL, .ref aS, .ref aO, .ref aK, .ref aZ, .ref cv, .int tcn, .int mcn, .int swd, .int rwd, .int bpt, .int flm])), (aH, .inl (cI, 34, .inl hd)), (aL, .inl (cI, 34, .inl la)), (aO, .inl (cI, 4, .inl so)), (aK, .inl (cI, 4, .inl ki)), (aZ, .inl (cZ, 4, .inl op))]) [0, 1, 2, 3, 4, 5] rfl
  have hDc := hD.sub (ws' := [(x, .inr (1, [.ref aH, .ref aL, .ref aS, .ref aO, .ref aK, .ref aZ, .ref cv, .int tcn, .int mcn, .int swd, .int rwd, .int bpt, .int flm])), (aH, .inl (cI, 34, .inl hd)), (aL, .inl (cI, 34, .inl la)), (aO, .inl (cI, 4, .inl so)), (aK, .inl (cI, 4, .inl ki)), (aZ, .inl (cZ, 4, .inl op))]) [0, 1, 2, 3, 4, 5] (by decide) rfl
  have hFc := va_free (wc := [(x, .inr (1, [.ref aH, .ref aL, .ref aS, .ref aO, .ref aK, .ref aZ, .ref cv, .int tcn, .int mcn, .int swd, .int rwd, .int bpt, .int flm])), (aH, .inl (cI, 34, .inl hd)), (aL, .inl (cI, 34, .inl la)), (aO, .inl (cI, 4, .inl so)), (aK, .inl (cI, 4, .inl ki)), (aZ, .inl (cZ, 4, .inl op))]) hD hS hA [0, 1, 2, 3, 4, 5] rfl
  rcases hw with hw | hw
  · refine va_calli (va_runV (As := [.int p0]) (rest := [.int (0 : Int32), .ref aQ]) ⟨hx, hb, hml, hown, hts⟩ (c_X1_fans l dC dI cI cZ x aH aL aS aO aK aZ cv s.heap.size tcn mcn swd rwd bpt flm hd la so ki op p0 _ hw) (cwV 1 hts gL_fans_X1_fans rfl rfl rfl (by decide +kernel) ⟨Nat.le_of_ble_eq_true rfl, Nat.le_of_ble_eq_true rfl⟩) ⟨fun a U g mk q => by obtain ⟨q0, q1, qP, qK, qD⟩ := q; exact ⟨q0, q1, qP, va_K.moved (u := U) (U := U.calling g mk a) (Vm.Alike.refl U.vm) qK, qD⟩, va_recv hK2 hPc (ci := 1) (q0 := 0) rfl rfl, fun U hU hW => ⟨rfl, by rw [hU], by rw [hU]; exact hPc, va_K.moved hW.alike hK2, hDc.weaken (fun _ _ _ _ => trivial)⟩⟩ rfl rfl hl.1 rfl (lv_room (Nat.le_of_ble_eq_true rfl)) dL_fans_4 ⟨Nat.le_of_ble_eq_true rfl, Nat.le_of_ble_eq_true rfl⟩) hS (fun q _ h => hFc q h) hFc (fun r1 u t H1 locs ht hvm hw hB hz1 hk1 hS => ?_)
    obtain ⟨hd_2, so_3, ki_4⟩ := u
    obtain ⟨hP1, -, hD1⟩ := hB
    have hw := And.intro hw trivial
    try dsimp only at hw
    have hw := hw.1
    rw [ht] at hP1
    obtain ⟨hP, hD⟩ := va_join (wr := [(aQ, .inl (cJ, 1, .inr (.inl ou)))]) (w1 := [(x, .inr (1, [.ref aH, .ref aL, .ref aS, .ref aO, .ref aK, .ref aZ, .ref cv, .int tcn, .int mcn, .int swd, .int rwd, .int bpt, .int flm])), (aH, .inl (cI, 34, .inl hd_2)), (aL, .inl (cI, 34, .inl la)), (aO, .inl (cI, 4, .inl so_3)), (aK, .inl (cI, 4, .inl ki_4)), (aZ, .inl (cZ, 4, .inl op))]) hP hD [0, 1, 2, 3, 4, 5] [6] rfl rfl (by decide) (by decide) hk1 hFc hP1 hD1
    generalize H1 = H at hP hS ⊢
    have hP : va_P (dC, dI) vwCl [(aQ, .inl (cJ, 1, .inr (.inl ou))), (x, .inr (1, [.ref aH, .ref aL, .ref aS, .ref aO, .ref aK, .ref aZ, .ref cv, .int tcn, .int mcn, .int swd, .int rwd, .int bpt, .int flm])), (aH, .inl (cI, 34, .inl hd_2)), (aL, .inl (cI, 34, .inl la)), (aO, .inl (cI, 4, .inl so_3)), (aK, .inl (cI, 4, .inl ki_4)), (aZ, .inl (cZ, 4, .inl op))] H := hP
    have hD : va_D A [(aQ, .inl (cJ, 1, .inr (.inl ou))), (x, .inr (1, [.ref aH, .ref aL, .ref aS, .ref aO, .ref aK, .ref aZ, .ref cv, .int tcn, .int mcn, .int swd, .int rwd, .int bpt, .int flm])), (aH, .inl (cI, 34, .inl hd_2)), (aL, .inl (cI, 34, .inl la)), (aO, .inl (cI, 4, .inl so_3)), (aK, .inl (cI, 4, .inl ki_4)), (aZ, .inl (cZ, 4, .inl op))] := hD
    refine lv_i2l (v := r1.toInt64) hx hb dL_fans_7 rfl ?_
    obtain ⟨h5, hw⟩ := hw
    refine va_last hx hb hK hP hD hS 0 2 rfl rfl h5 dL_fans_8 (fun H locs hP hD hS => ?_)
    have hP : va_P (dC, dI) vwCl [(aQ, .inl (cJ, 1, .inr (.inl (vp_updL ou (0 : Int32).toNatClampNeg r1.toInt64)))), (x, .inr (1, [.ref aH, .ref aL, .ref aS, .ref aO, .ref aK, .ref aZ, .ref cv, .int tcn, .int mcn, .int swd, .int rwd, .int bpt, .int flm])), (aH, .inl (cI, 34, .inl hd_2)), (aL, .inl (cI, 34, .inl la)), (aO, .inl (cI, 4, .inl so_3)), (aK, .inl (cI, 4, .inl ki_4)), (aZ, .inl (cZ, 4, .inl op))] H := hP
    have hD : va_D A [(aQ, .inl (cJ, 1, .inr (.inl (vp_updL ou (0 : Int32).toNatClampNeg r1.toInt64)))), (x, .inr (1, [.ref aH, .ref aL, .ref aS, .ref aO, .ref aK, .ref aZ, .ref cv, .int tcn, .int mcn, .int swd, .int rwd, .int bpt, .int flm])), (aH, .inl (cI, 34, .inl hd_2)), (aL, .inl (cI, 34, .inl la)), (aO, .inl (cI, 4, .inl so_3)), (aK, .inl (cI, 4, .inl ki_4)), (aZ, .inl (cZ, 4, .inl op))] := hD
    refine lv_goto (tgt := 15) hx hb dL_fans_9 (by decide) ?_
    refine lv_iconst (v := 0) hx hb dL_fans_15 (by decide) ?_
    have hP9 := hP.sub (ws' := [(x, .inr (1, [.ref aH, .ref aL, .ref aS, .ref aO, .ref aK, .ref aZ, .ref cv, .int tcn, .int mcn, .int swd, .int rwd, .int bpt, .int flm])), (aH, .inl (cI, 34, .inl hd_2)), (aL, .inl (cI, 34, .inl la)), (aO, .inl (cI, 4, .inl so_3)), (aK, .inl (cI, 4, .inl ki_4)), (aZ, .inl (cZ, 4, .inl op)), (aQ, .inl (cJ, 1, .inr (.inl (vp_updL ou (0 : Int32).toNatClampNeg r1.toInt64))))]) [1, 2, 3, 4, 5, 6, 0] rfl
    have hD9 := hD.sub (ws' := [(x, .inr (1, [.ref aH, .ref aL, .ref aS, .ref aO, .ref aK, .ref aZ, .ref cv, .int tcn, .int mcn, .int swd, .int rwd, .int bpt, .int flm])), (aH, .inl (cI, 34, .inl hd_2)), (aL, .inl (cI, 34, .inl la)), (aO, .inl (cI, 4, .inl so_3)), (aK, .inl (cI, 4, .inl ki_4)), (aZ, .inl (cZ, 4, .inl op)), (aQ, .inl (cJ, 1, .inr (.inl (vp_updL ou (0 : Int32).toNatClampNeg r1.toInt64))))]) [1, 2, 3, 4, 5, 6, 0] (by decide) rfl
    refine W.widen (k := 1) (n := 6) (by omega) (by omega) ?_
    rw [← hQ9]
    exact W.iret (v := (0 : Int32)) hx hb hr (fun t ht hW => ⟨⟨(0 : Int32), (hd_2, so_3, ki_4, vp_updL ou (0 : Int32).toNatClampNeg r1.toInt64), rfl, hw, by rw [ht]; exact hP9, va_K.moved hW.alike hK, hD9⟩, hS.F ht⟩) hS.2.2 dL_fans_16
  · refine vx_calli (vx_runV (As := [.int p0]) (rest := [.int (0 : Int32), .ref aQ]) ⟨hx, hb, hml, hown, hts⟩ (c_X1_fans_x l hl9 dC dI cI cZ x aH aL aS aO aK aZ cv s.heap.size tcn mcn swd rwd bpt flm hd la so ki op p0 _ hw) (cwV 1 hts gL_fans_X1_fans rfl rfl rfl (by decide +kernel) ⟨Nat.le_of_ble_eq_true rfl, Nat.le_of_ble_eq_true rfl⟩) ⟨fun a U g mk q => by obtain ⟨q0, q1, qP, qK, qD, qX⟩ := q; exact ⟨q0, q1, qP, va_K.moved (u := U) (U := U.calling g mk a) (Vm.Alike.refl U.vm) qK, qD, xk_same rfl rfl qX⟩, va_recv hK2 hPc (ci := 1) (q0 := 0) rfl rfl, fun U hU hW => ⟨rfl, by rw [hU], by rw [hU]; exact hPc, va_K.moved hW.alike hK2, hDc.weaken (fun _ _ _ _ => trivial), xk_call hS hU hW (fun q h => hFc q h) hxk⟩⟩ rfl rfl hl.1 rfl (lv_room (Nat.le_of_ble_eq_true rfl)) dL_fans_4 ⟨Nat.le_of_ble_eq_true rfl, Nat.le_of_ble_eq_true rfl⟩) hS (fun q _ h => hFc q h) hFc (fun q _ h => hFc q h) (fun E ce qe9 u t H1 locs ht hvm hw hB hz1 hk1 hS hce hcv hcl => ?_) (fun r1 u t H1 locs ht hvm hw hB hz1 hk1 hS => False.elim hw)
    obtain ⟨E6, hd_2, so_3, ki_4⟩ := u
    obtain ⟨hE9, hP1, -, hD1⟩ := hB
    try dsimp only at hw
    rw [ht] at hP1
    obtain ⟨hP, hD⟩ := va_join (wr := [(aQ, .inl (cJ, 1, .inr (.inl ou)))]) (w1 := [(x, .inr (1, [.ref aH, .ref aL, .ref aS, .ref aO, .ref aK, .ref aZ, .ref cv, .int tcn, .int mcn, .int swd, .int rwd, .int bpt, .int flm])), (aH, .inl (cI, 34, .inl hd_2)), (aL, .inl (cI, 34, .inl la)), (aO, .inl (cI, 4, .inl so_3)), (aK, .inl (cI, 4, .inl ki_4)), (aZ, .inl (cZ, 4, .inl op))]) hP hD [0, 1, 2, 3, 4, 5] [6] rfl rfl (by decide) (by decide) hk1 hFc hP1 hD1
    generalize H1 = H at hP hS hce ⊢
    have hP : va_P (dC, dI) vwCl [(aQ, .inl (cJ, 1, .inr (.inl ou))), (x, .inr (1, [.ref aH, .ref aL, .ref aS, .ref aO, .ref aK, .ref aZ, .ref cv, .int tcn, .int mcn, .int swd, .int rwd, .int bpt, .int flm])), (aH, .inl (cI, 34, .inl hd_2)), (aL, .inl (cI, 34, .inl la)), (aO, .inl (cI, 4, .inl so_3)), (aK, .inl (cI, 4, .inl ki_4)), (aZ, .inl (cZ, 4, .inl op))] H := hP
    have hD : va_D A [(aQ, .inl (cJ, 1, .inr (.inl ou))), (x, .inr (1, [.ref aH, .ref aL, .ref aS, .ref aO, .ref aK, .ref aZ, .ref cv, .int tcn, .int mcn, .int swd, .int rwd, .int bpt, .int flm])), (aH, .inl (cI, 34, .inl hd_2)), (aL, .inl (cI, 34, .inl la)), (aO, .inl (cI, 4, .inl so_3)), (aK, .inl (cI, 4, .inl ki_4)), (aZ, .inl (cZ, 4, .inl op))] := hD
    obtain ⟨hq, hw⟩ := hw
    · have hE := hE9.trans hq
      try dsimp only at hE
      subst hE
      refine vx_catch (own := RL) (name := "java/lang/IllegalStateException") (E := "java/lang/IllegalStateException") hown [] ⟨0, 9, 12, 15⟩ [] (by rw [hTab]; rfl) (fun z hz => nomatch hz) (by decide) (by decide) (hts (.classLink RL 15 "java/lang/IllegalStateException") (by decide +kernel)) (va_Nw.use rfl (xk_c3 hxk)) hce hcv hcl ?_
      refine lv_astore_n (lv' := [(3, .ref qe9), (0, .ref x), (1, .int p0), (2, .ref aQ)]) hx hb dL_fans_12 rfl hl (by decide) rfl (fun ls hl => ?_)
      refine lv_iconst (v := 1) hx hb dL_fans_13 (by decide) ?_
      have hP9 := hP.sub (ws' := [(x, .inr (1, [.ref aH, .ref aL, .ref aS, .ref aO, .ref aK, .ref aZ, .ref cv, .int tcn, .int mcn, .int swd, .int rwd, .int bpt, .int flm])), (aH, .inl (cI, 34, .inl hd_2)), (aL, .inl (cI, 34, .inl la)), (aO, .inl (cI, 4, .inl so_3)), (aK, .inl (cI, 4, .inl ki_4)), (aZ, .inl (cZ, 4, .inl op)), (aQ, .inl (cJ, 1, .inr (.inl ou)))]) [1, 2, 3, 4, 5, 6, 0] rfl
      have hD9 := hD.sub (ws' := [(x, .inr (1, [.ref aH, .ref aL, .ref aS, .ref aO, .ref aK, .ref aZ, .ref cv, .int tcn, .int mcn, .int swd, .int rwd, .int bpt, .int flm])), (aH, .inl (cI, 34, .inl hd_2)), (aL, .inl (cI, 34, .inl la)), (aO, .inl (cI, 4, .inl so_3)), (aK, .inl (cI, 4, .inl ki_4)), (aZ, .inl (cZ, 4, .inl op)), (aQ, .inl (cJ, 1, .inr (.inl ou)))]) [1, 2, 3, 4, 5, 6, 0] (by decide) rfl
      rw [← hQ9]
      exact W.iret (v := (1 : Int32)) hx hb hr (fun t ht hW => ⟨⟨(1 : Int32), (hd_2, so_3, ki_4, ou), rfl, hw, by rw [ht]; exact hP9, va_K.moved hW.alike hK, hD9⟩, hS.F ht⟩) hS.2.2 dL_fans_14

def w_L_points (tcn : Int32) (mcn : Int32) (swd : Int32) (rwd : Int32) (bpt : Int32) (flm : Int32) (hd : (Nat → Int32)) (la : (Nat → Int32)) (so : (Nat → Int32)) (ki : (Nat → Int32)) (op : (Nat → Int32)) (ou : (Nat → Int64)) (p0 : Int32) (post : Int32 → (Nat → Int32) → (Nat → Int32) → (Nat → Int32) → (Nat → Int64) → Prop) : Prop := ((w_X1_points tcn mcn swd rwd bpt flm hd la so ki op p0 (fun r1 hd_2 so_3 ki_4 => (vp_in (0 : Int32) 1 ∧ (post (0 : Int32) hd_2 so_3 ki_4 (vp_updL ou (0 : Int32).toNatClampNeg r1.toInt64))))) ∨ (w_X1_points_x tcn mcn swd rwd bpt flm hd la so ki op p0 (fun E6 hd_2 so_3 ki_4 => ((E6 = "java/lang/IllegalStateException" ∧ (post (1 : Int32) hd_2 so_3 ki_4 ou))))))

set_option maxHeartbeats 4000000 in
set_option maxRecDepth 100000 in
theorem c_L_points (l : Launch) (hl9 : l.stackTraces = false) (dC : Nat → ClassId) (dI : Nat → Nat → Nat) (cI cZ cJ : ClassId) (x : Nat) (aH : Nat) (aL : Nat) (aS : Nat) (aO : Nat) (aK : Nat) (aZ : Nat) (cv : Nat) (aQ : Nat) (sz : Nat) (tcn : Int32) (mcn : Int32) (swd : Int32) (rwd : Int32) (bpt : Int32) (flm : Int32) (hd : (Nat → Int32)) (la : (Nat → Int32)) (so : (Nat → Int32)) (ki : (Nat → Int32)) (op : (Nat → Int32)) (ou : (Nat → Int64)) (p0 : Int32) (post : Int32 → (Nat → Int32) → (Nat → Int32) → (Nat → Int32) → (Nat → Int64) → Prop) (hw : w_L_points tcn mcn swd rwd bpt flm hd la so ki op ou p0 post) : Met l yL_points wsL_points ({ frames := 20, cells := 1, slots := 6, locals := 464 } : Room) (va_Pc [.ref x, .int p0, .ref aQ] (fun U => U.heap.size = sz ∧ va_P (dC, dI) vwCl [(x, .inr (1, [.ref aH, .ref aL, .ref aS, .ref aO, .ref aK, .ref aZ, .ref cv, .int tcn, .int mcn, .int swd, .int rwd, .int bpt, .int flm])), (aH, .inl (cI, 34, .inl hd)), (aL, .inl (cI, 34, .inl la)), (aO, .inl (cI, 4, .inl so)), (aK, .inl (cI, 4, .inl ki)), (aZ, .inl (cZ, 4, .inl op)), (aQ, .inl (cJ, 1, .inr (.inl ou)))] U.heap ∧ va_K (dC, dI) vwCl [(cI, .int), (cZ, .boolean), (cJ, .long)] U ∧ va_D (fun _ => True) [(x, .inr (1, [.ref aH, .ref aL, .ref aS, .ref aO, .ref aK, .ref aZ, .ref cv, .int tcn, .int mcn, .int swd, .int rwd, .int bpt, .int flm])), (aH, .inl (cI, 34, .inl hd)), (aL, .inl (cI, 34, .inl la)), (aO, .inl (cI, 4, .inl so)), (aK, .inl (cI, 4, .inl ki)), (aZ, .inl (cZ, 4, .inl op)), (aQ, .inl (cJ, 1, .inr (.inl ou)))] ∧ nck U ∧ xk (va_A [(x, .inr (1, [.ref aH, .ref aL, .ref aS, .ref aO, .ref aK, .ref aZ, .ref cv, .int tcn, .int mcn, .int swd, .int rwd, .int bpt, .int flm])), (aH, .inl (cI, 34, .inl hd)), (aL, .inl (cI, 34, .inl la)), (aO, .inl (cI, 4, .inl so)), (aK, .inl (cI, 4, .inl ki)), (aZ, .inl (cZ, 4, .inl op)), (aQ, .inl (cJ, 1, .inr (.inl ou)))] sz) U)) (va_Qi (fun (r9 : Int32) (u9 : (Nat → Int32) × (Nat → Int32) × (Nat → Int32) × (Nat → Int64)) => post r9 u9.1 u9.2.1 u9.2.2.1 u9.2.2.2) (fun (u9 : (Nat → Int32) × (Nat → Int32) × (Nat → Int32) × (Nat → Int64)) (t9 : State) => va_P (dC, dI) vwCl [(x, .inr (1, [.ref aH, .ref aL, .ref aS, .ref aO, .ref aK, .ref aZ, .ref cv, .int tcn, .int mcn, .int swd, .int rwd, .int bpt, .int flm])), (aH, .inl (cI, 34, .inl u9.1)), (aL, .inl (cI, 34, .inl la)), (aO, .inl (cI, 4, .inl u9.2.1)), (aK, .inl (cI, 4, .inl u9.2.2.1)), (aZ, .inl (cZ, 4, .inl op)), (aQ, .inl (cJ, 1, .inr (.inl u9.2.2.2)))] t9.heap ∧ va_K (dC, dI) vwCl [(cI, .int), (cZ, .boolean), (cJ, .long)] t9 ∧ va_D (va_A [(x, .inr (1, [.ref aH, .ref aL, .ref aS, .ref aO, .ref aK, .ref aZ, .ref cv, .int tcn, .int mcn, .int swd, .int rwd, .int bpt, .int flm])), (aH, .inl (cI, 34, .inl hd)), (aL, .inl (cI, 34, .inl la)), (aO, .inl (cI, 4, .inl so)), (aK, .inl (cI, 4, .inl ki)), (aZ, .inl (cZ, 4, .inl op)), (aQ, .inl (cJ, 1, .inr (.inl ou)))] sz) [(x, .inr (1, [.ref aH, .ref aL, .ref aS, .ref aO, .ref aK, .ref aZ, .ref cv, .int tcn, .int mcn, .int swd, .int rwd, .int bpt, .int flm])), (aH, .inl (cI, 34, .inl u9.1)), (aL, .inl (cI, 34, .inl la)), (aO, .inl (cI, 4, .inl u9.2.1)), (aK, .inl (cI, 4, .inl u9.2.2.1)), (aZ, .inl (cZ, 4, .inl op)), (aQ, .inl (cJ, 1, .inr (.inl u9.2.2.2)))]) (va_A [(x, .inr (1, [.ref aH, .ref aL, .ref aS, .ref aO, .ref aK, .ref aZ, .ref cv, .int tcn, .int mcn, .int swd, .int rwd, .int bpt, .int flm])), (aH, .inl (cI, 34, .inl hd)), (aL, .inl (cI, 34, .inl la)), (aO, .inl (cI, 4, .inl so)), (aK, .inl (cI, 4, .inl ki)), (aZ, .inl (cZ, 4, .inl op)), (aQ, .inl (cJ, 1, .inr (.inl ou)))] sz)) 1 6 (va_A [(x, .inr (1, [.ref aH, .ref aL, .ref aS, .ref aO, .ref aK, .ref aZ, .ref cv, .int tcn, .int mcn, .int swd, .int rwd, .int bpt, .int flm])), (aH, .inl (cI, 34, .inl hd)), (aL, .inl (cI, 34, .inl la)), (aO, .inl (cI, 4, .inl so)), (aK, .inl (cI, 4, .inl ki)), (aZ, .inl (cZ, 4, .inl op)), (aQ, .inl (cJ, 1, .inr (.inl ou)))] sz) := by
  refine va_MetW (cc := cL_points) (maxL := 4) (ret := (some .int)) (by decide) rfl ?_
  intro p e s m args below meth c s₁ B hml hv
  obtain ⟨rfl, hsz, hP, hK, hD0, hnc, hxk⟩ := hv
  have hx := B.exec
  have hb := B.bytes
  have hr := B.returns
  have hts := atoms_spec (ws := wsL_points) B.pre
  have hown : s.vm.findClass RL = some m.cls := findClass_of_methodNamed B.named
  have hlocks := B.notSynchronized
  have hinX1 : ∀ w ∈ u_ws RX1 TX1 13, w ∈ wsL_points := by decide +kernel
  have hTab := vx_table (x := yL_points) B (hts (.codeWith yL_points cL_points 4 (some .int) [(0, 9, 12, 15)]) (by decide +kernel))
  have hK2 := hK.sub (tys' := [(cI, .int), (cZ, .boolean)]) [0, 1] rfl
  subst hsz
  have hD := hD0.self (sz := s.heap.size)
  generalize hAe : va_A [(x, .inr (1, [.ref aH, .ref aL, .ref aS, .ref aO, .ref aK, .ref aZ, .ref cv, .int tcn, .int mcn, .int swd, .int rwd, .int bpt, .int flm])), (aH, .inl (cI, 34, .inl hd)), (aL, .inl (cI, 34, .inl la)), (aO, .inl (cI, 4, .inl so)), (aK, .inl (cI, 4, .inl ki)), (aZ, .inl (cZ, 4, .inl op)), (aQ, .inl (cJ, 1, .inr (.inl ou)))] s.heap.size = A at hD hxk ⊢
  have hA : ∀ q : Nat, s.heap.size ≤ q → A q := fun q h => by rw [← hAe]; exact Or.inr h
  have hS : va_S A s.heap s.heap [] := va_S.rf
  have hl := lv_entry ([.ref x, .int p0, .ref aQ]) (n := 4) (Nat.le_of_ble_eq_true rfl)
  rw [lg_entry_eq]
  generalize (lg_sl ([.ref x, .int p0, .ref aQ]) ++ List.replicate (4 - (lg_sl ([.ref x, .int p0, .ref aQ])).length) Slot.unset).toArray = ls at hl ⊢
  have hl : lv_has ls 4 [(0, .ref x), (1, .int p0), (2, .ref aQ)] := hl
  refine (?_ : ∀ Q9 : State → Prop, MQ below _ _ s _ _ _ = Q9 → W p l e ({ frames := 20, cells := 1, slots := 6, locals := 464 } : Room) s m _ below meth c s.heap [] 0 0 Q9 (F0 m 0 ls [])) _ rfl
  intro Q9 hQ9
  have hw : ((w_X1_points tcn mcn swd rwd bpt flm hd la so ki op p0 (fun r1 hd_2 so_3 ki_4 => (vp_in (0 : Int32) 1 ∧ (post (0 : Int32) hd_2 so_3 ki_4 (vp_updL ou (0 : Int32).toNatClampNeg r1.toInt64))))) ∨ (w_X1_points_x tcn mcn swd rwd bpt flm hd la so ki op p0 (fun E6 hd_2 so_3 ki_4 => ((E6 = "java/lang/IllegalStateException" ∧ (post (1 : Int32) hd_2 so_3 ki_4 ou)))))) := hw
  refine lv_aload_n hx hb dL_points_0 rfl (lv_at hl 2 rfl) ?_
  refine lv_iconst (v := 0) hx hb dL_points_1 (by decide) ?_
  refine lv_aload_n hx hb dL_points_2 rfl (lv_at hl 0 rfl) ?_
  refine lv_iload_n hx hb dL_points_3 rfl (lv_at hl 1 rfl) ?_
  have hPc := hP.sub (ws' := [(x, .inr (1, [.ref aH, .ref aL, .ref aS, .ref aO, .ref aK, .ref aZ, .ref cv, .int tcn, .int mcn, .int swd, .int rwd, .int bpt, .int flm])), (aH, .inl (cI, 34, .inl hd)), (aL, .inl (cI, 34, .inl la)), (aO, .inl (cI, 4, .inl so)), (aK, .inl (cI, 4, .inl ki)), (aZ, .inl (cZ, 4, .inl op))]) [0, 1, 2, 3, 4, 5] rfl
  have hDc := hD.sub (ws' := [(x, .inr (1, [.ref aH, .ref aL, .ref aS, .ref aO, .ref aK, .ref aZ, .ref cv, .int tcn, .int mcn, .int swd, .int rwd, .int bpt, .int flm])), (aH, .inl (cI, 34, .inl hd)), (aL, .inl (cI, 34, .inl la)), (aO, .inl (cI, 4, .inl so)), (aK, .inl (cI, 4, .inl ki)), (aZ, .inl (cZ, 4, .inl op))]) [0, 1, 2, 3, 4, 5] (by decide) rfl
  have hFc := va_free (wc := [(x, .inr (1, [.ref aH, .ref aL, .ref aS, .ref aO, .ref aK, .ref aZ, .ref cv, .int tcn, .int mcn, .int swd, .int rwd, .int bpt, .int flm])), (aH, .inl (cI, 34, .inl hd)), (aL, .inl (cI, 34, .inl la)), (aO, .inl (cI, 4, .inl so)), (aK, .inl (cI, 4, .inl ki)), (aZ, .inl (cZ, 4, .inl op))]) hD hS hA [0, 1, 2, 3, 4, 5] rfl
  rcases hw with hw | hw
  · refine va_calli (va_runV (As := [.int p0]) (rest := [.int (0 : Int32), .ref aQ]) ⟨hx, hb, hml, hown, hts⟩ (c_X1_points l dC dI cI cZ x aH aL aS aO aK aZ cv s.heap.size tcn mcn swd rwd bpt flm hd la so ki op p0 _ hw) (cwV 1 hts gL_points_X1_points rfl rfl rfl (by decide +kernel) ⟨Nat.le_of_ble_eq_true rfl, Nat.le_of_ble_eq_true rfl⟩) ⟨fun a U g mk q => by obtain ⟨q0, q1, qP, qK, qD⟩ := q; exact ⟨q0, q1, qP, va_K.moved (u := U) (U := U.calling g mk a) (Vm.Alike.refl U.vm) qK, qD⟩, va_recv hK2 hPc (ci := 1) (q0 := 0) rfl rfl, fun U hU hW => ⟨rfl, by rw [hU], by rw [hU]; exact hPc, va_K.moved hW.alike hK2, hDc.weaken (fun _ _ _ _ => trivial)⟩⟩ rfl rfl hl.1 rfl (lv_room (Nat.le_of_ble_eq_true rfl)) dL_points_4 ⟨Nat.le_of_ble_eq_true rfl, Nat.le_of_ble_eq_true rfl⟩) hS (fun q _ h => hFc q h) hFc (fun r1 u t H1 locs ht hvm hw hB hz1 hk1 hS => ?_)
    obtain ⟨hd_2, so_3, ki_4⟩ := u
    obtain ⟨hP1, -, hD1⟩ := hB
    have hw := And.intro hw trivial
    try dsimp only at hw
    have hw := hw.1
    rw [ht] at hP1
    obtain ⟨hP, hD⟩ := va_join (wr := [(aQ, .inl (cJ, 1, .inr (.inl ou)))]) (w1 := [(x, .inr (1, [.ref aH, .ref aL, .ref aS, .ref aO, .ref aK, .ref aZ, .ref cv, .int tcn, .int mcn, .int swd, .int rwd, .int bpt, .int flm])), (aH, .inl (cI, 34, .inl hd_2)), (aL, .inl (cI, 34, .inl la)), (aO, .inl (cI, 4, .inl so_3)), (aK, .inl (cI, 4, .inl ki_4)), (aZ, .inl (cZ, 4, .inl op))]) hP hD [0, 1, 2, 3, 4, 5] [6] rfl rfl (by decide) (by decide) hk1 hFc hP1 hD1
    generalize H1 = H at hP hS ⊢
    have hP : va_P (dC, dI) vwCl [(aQ, .inl (cJ, 1, .inr (.inl ou))), (x, .inr (1, [.ref aH, .ref aL, .ref aS, .ref aO, .ref aK, .ref aZ, .ref cv, .int tcn, .int mcn, .int swd, .int rwd, .int bpt, .int flm])), (aH, .inl (cI, 34, .inl hd_2)), (aL, .inl (cI, 34, .inl la)), (aO, .inl (cI, 4, .inl so_3)), (aK, .inl (cI, 4, .inl ki_4)), (aZ, .inl (cZ, 4, .inl op))] H := hP
    have hD : va_D A [(aQ, .inl (cJ, 1, .inr (.inl ou))), (x, .inr (1, [.ref aH, .ref aL, .ref aS, .ref aO, .ref aK, .ref aZ, .ref cv, .int tcn, .int mcn, .int swd, .int rwd, .int bpt, .int flm])), (aH, .inl (cI, 34, .inl hd_2)), (aL, .inl (cI, 34, .inl la)), (aO, .inl (cI, 4, .inl so_3)), (aK, .inl (cI, 4, .inl ki_4)), (aZ, .inl (cZ, 4, .inl op))] := hD
    refine lv_i2l (v := r1.toInt64) hx hb dL_points_7 rfl ?_
    obtain ⟨h5, hw⟩ := hw
    refine va_last hx hb hK hP hD hS 0 2 rfl rfl h5 dL_points_8 (fun H locs hP hD hS => ?_)
    have hP : va_P (dC, dI) vwCl [(aQ, .inl (cJ, 1, .inr (.inl (vp_updL ou (0 : Int32).toNatClampNeg r1.toInt64)))), (x, .inr (1, [.ref aH, .ref aL, .ref aS, .ref aO, .ref aK, .ref aZ, .ref cv, .int tcn, .int mcn, .int swd, .int rwd, .int bpt, .int flm])), (aH, .inl (cI, 34, .inl hd_2)), (aL, .inl (cI, 34, .inl la)), (aO, .inl (cI, 4, .inl so_3)), (aK, .inl (cI, 4, .inl ki_4)), (aZ, .inl (cZ, 4, .inl op))] H := hP
    have hD : va_D A [(aQ, .inl (cJ, 1, .inr (.inl (vp_updL ou (0 : Int32).toNatClampNeg r1.toInt64)))), (x, .inr (1, [.ref aH, .ref aL, .ref aS, .ref aO, .ref aK, .ref aZ, .ref cv, .int tcn, .int mcn, .int swd, .int rwd, .int bpt, .int flm])), (aH, .inl (cI, 34, .inl hd_2)), (aL, .inl (cI, 34, .inl la)), (aO, .inl (cI, 4, .inl so_3)), (aK, .inl (cI, 4, .inl ki_4)), (aZ, .inl (cZ, 4, .inl op))] := hD
    refine lv_goto (tgt := 15) hx hb dL_points_9 (by decide) ?_
    refine lv_iconst (v := 0) hx hb dL_points_15 (by decide) ?_
    have hP9 := hP.sub (ws' := [(x, .inr (1, [.ref aH, .ref aL, .ref aS, .ref aO, .ref aK, .ref aZ, .ref cv, .int tcn, .int mcn, .int swd, .int rwd, .int bpt, .int flm])), (aH, .inl (cI, 34, .inl hd_2)), (aL, .inl (cI, 34, .inl la)), (aO, .inl (cI, 4, .inl so_3)), (aK, .inl (cI, 4, .inl ki_4)), (aZ, .inl (cZ, 4, .inl op)), (aQ, .inl (cJ, 1, .inr (.inl (vp_updL ou (0 : Int32).toNatClampNeg r1.toInt64))))]) [1, 2, 3, 4, 5, 6, 0] rfl
    have hD9 := hD.sub (ws' := [(x, .inr (1, [.ref aH, .ref aL, .ref aS, .ref aO, .ref aK, .ref aZ, .ref cv, .int tcn, .int mcn, .int swd, .int rwd, .int bpt, .int flm])), (aH, .inl (cI, 34, .inl hd_2)), (aL, .inl (cI, 34, .inl la)), (aO, .inl (cI, 4, .inl so_3)), (aK, .inl (cI, 4, .inl ki_4)), (aZ, .inl (cZ, 4, .inl op)), (aQ, .inl (cJ, 1, .inr (.inl (vp_updL ou (0 : Int32).toNatClampNeg r1.toInt64))))]) [1, 2, 3, 4, 5, 6, 0] (by decide) rfl
    refine W.widen (k := 1) (n := 6) (by omega) (by omega) ?_
    rw [← hQ9]
    exact W.iret (v := (0 : Int32)) hx hb hr (fun t ht hW => ⟨⟨(0 : Int32), (hd_2, so_3, ki_4, vp_updL ou (0 : Int32).toNatClampNeg r1.toInt64), rfl, hw, by rw [ht]; exact hP9, va_K.moved hW.alike hK, hD9⟩, hS.F ht⟩) hS.2.2 dL_points_16
  · refine vx_calli (vx_runV (As := [.int p0]) (rest := [.int (0 : Int32), .ref aQ]) ⟨hx, hb, hml, hown, hts⟩ (c_X1_points_x l hl9 dC dI cI cZ x aH aL aS aO aK aZ cv s.heap.size tcn mcn swd rwd bpt flm hd la so ki op p0 _ hw) (cwV 1 hts gL_points_X1_points rfl rfl rfl (by decide +kernel) ⟨Nat.le_of_ble_eq_true rfl, Nat.le_of_ble_eq_true rfl⟩) ⟨fun a U g mk q => by obtain ⟨q0, q1, qP, qK, qD, qX⟩ := q; exact ⟨q0, q1, qP, va_K.moved (u := U) (U := U.calling g mk a) (Vm.Alike.refl U.vm) qK, qD, xk_same rfl rfl qX⟩, va_recv hK2 hPc (ci := 1) (q0 := 0) rfl rfl, fun U hU hW => ⟨rfl, by rw [hU], by rw [hU]; exact hPc, va_K.moved hW.alike hK2, hDc.weaken (fun _ _ _ _ => trivial), xk_call hS hU hW (fun q h => hFc q h) hxk⟩⟩ rfl rfl hl.1 rfl (lv_room (Nat.le_of_ble_eq_true rfl)) dL_points_4 ⟨Nat.le_of_ble_eq_true rfl, Nat.le_of_ble_eq_true rfl⟩) hS (fun q _ h => hFc q h) hFc (fun q _ h => hFc q h) (fun E ce qe9 u t H1 locs ht hvm hw hB hz1 hk1 hS hce hcv hcl => ?_) (fun r1 u t H1 locs ht hvm hw hB hz1 hk1 hS => False.elim hw)
    obtain ⟨E6, hd_2, so_3, ki_4⟩ := u
    obtain ⟨hE9, hP1, -, hD1⟩ := hB
    try dsimp only at hw
    rw [ht] at hP1
    obtain ⟨hP, hD⟩ := va_join (wr := [(aQ, .inl (cJ, 1, .inr (.inl ou)))]) (w1 := [(x, .inr (1, [.ref aH, .ref aL, .ref aS, .ref aO, .ref aK, .ref aZ, .ref cv, .int tcn, .int mcn, .int swd, .int rwd, .int bpt, .int flm])), (aH, .inl (cI, 34, .inl hd_2)), (aL, .inl (cI, 34, .inl la)), (aO, .inl (cI, 4, .inl so_3)), (aK, .inl (cI, 4, .inl ki_4)), (aZ, .inl (cZ, 4, .inl op))]) hP hD [0, 1, 2, 3, 4, 5] [6] rfl rfl (by decide) (by decide) hk1 hFc hP1 hD1
    generalize H1 = H at hP hS hce ⊢
    have hP : va_P (dC, dI) vwCl [(aQ, .inl (cJ, 1, .inr (.inl ou))), (x, .inr (1, [.ref aH, .ref aL, .ref aS, .ref aO, .ref aK, .ref aZ, .ref cv, .int tcn, .int mcn, .int swd, .int rwd, .int bpt, .int flm])), (aH, .inl (cI, 34, .inl hd_2)), (aL, .inl (cI, 34, .inl la)), (aO, .inl (cI, 4, .inl so_3)), (aK, .inl (cI, 4, .inl ki_4)), (aZ, .inl (cZ, 4, .inl op))] H := hP
    have hD : va_D A [(aQ, .inl (cJ, 1, .inr (.inl ou))), (x, .inr (1, [.ref aH, .ref aL, .ref aS, .ref aO, .ref aK, .ref aZ, .ref cv, .int tcn, .int mcn, .int swd, .int rwd, .int bpt, .int flm])), (aH, .inl (cI, 34, .inl hd_2)), (aL, .inl (cI, 34, .inl la)), (aO, .inl (cI, 4, .inl so_3)), (aK, .inl (cI, 4, .inl ki_4)), (aZ, .inl (cZ, 4, .inl op))] := hD
    obtain ⟨hq, hw⟩ := hw
    · have hE := hE9.trans hq
      try dsimp only at hE
      subst hE
      refine vx_catch (own := RL) (name := "java/lang/IllegalStateException") (E := "java/lang/IllegalStateException") hown [] ⟨0, 9, 12, 15⟩ [] (by rw [hTab]; rfl) (fun z hz => nomatch hz) (by decide) (by decide) (hts (.classLink RL 15 "java/lang/IllegalStateException") (by decide +kernel)) (va_Nw.use rfl (xk_c3 hxk)) hce hcv hcl ?_
      refine lv_astore_n (lv' := [(3, .ref qe9), (0, .ref x), (1, .int p0), (2, .ref aQ)]) hx hb dL_points_12 rfl hl (by decide) rfl (fun ls hl => ?_)
      refine lv_iconst (v := 1) hx hb dL_points_13 (by decide) ?_
      have hP9 := hP.sub (ws' := [(x, .inr (1, [.ref aH, .ref aL, .ref aS, .ref aO, .ref aK, .ref aZ, .ref cv, .int tcn, .int mcn, .int swd, .int rwd, .int bpt, .int flm])), (aH, .inl (cI, 34, .inl hd_2)), (aL, .inl (cI, 34, .inl la)), (aO, .inl (cI, 4, .inl so_3)), (aK, .inl (cI, 4, .inl ki_4)), (aZ, .inl (cZ, 4, .inl op)), (aQ, .inl (cJ, 1, .inr (.inl ou)))]) [1, 2, 3, 4, 5, 6, 0] rfl
      have hD9 := hD.sub (ws' := [(x, .inr (1, [.ref aH, .ref aL, .ref aS, .ref aO, .ref aK, .ref aZ, .ref cv, .int tcn, .int mcn, .int swd, .int rwd, .int bpt, .int flm])), (aH, .inl (cI, 34, .inl hd_2)), (aL, .inl (cI, 34, .inl la)), (aO, .inl (cI, 4, .inl so_3)), (aK, .inl (cI, 4, .inl ki_4)), (aZ, .inl (cZ, 4, .inl op)), (aQ, .inl (cJ, 1, .inr (.inl ou)))]) [1, 2, 3, 4, 5, 6, 0] (by decide) rfl
      rw [← hQ9]
      exact W.iret (v := (1 : Int32)) hx hb hr (fun t ht hW => ⟨⟨(1 : Int32), (hd_2, so_3, ki_4, ou), rfl, hw, by rw [ht]; exact hP9, va_K.moved hW.alike hK, hD9⟩, hS.F ht⟩) hS.2.2 dL_points_14
