def w_X1_isWind (p0 : Int32) (post : Int32 → Prop) : Prop := ((p0 < (27 : Int32) → (post (0 : Int32))) ∧ (¬ p0 < (27 : Int32) → ((((30 : Int32) < p0 → (post (0 : Int32))) ∧ (¬ (30 : Int32) < p0 → (post (1 : Int32)))))))

set_option maxHeartbeats 4000000 in
set_option maxRecDepth 100000 in
theorem c_X1_isWind (l : Launch) (dC : Nat → ClassId) (dI : Nat → Nat → Nat) (cI cZ : ClassId) (sz : Nat) (p0 : Int32) (post : Int32 → Prop) (hw : w_X1_isWind p0 post) : Met l yX1_isWind wsX1_isWind ({ frames := 0, cells := 0, slots := 0, locals := 0 } : Room) (va_Pc [.int p0] (fun U => U.heap.size = sz ∧ va_P (dC, dI) vwCl [] U.heap ∧ va_K (dC, dI) vwCl [(cI, .int), (cZ, .boolean)] U ∧ va_D (fun _ => True) [])) (va_Qi (fun (r9 : Int32) (u9 : Unit) => post r9) (fun (u9 : Unit) (t9 : State) => va_P (dC, dI) vwCl [] t9.heap ∧ va_K (dC, dI) vwCl [(cI, .int), (cZ, .boolean)] t9 ∧ va_D (va_A [] sz) []) (va_A [] sz)) 0 0 (va_A [] sz) := by
  refine Met.ofW (cc := cX1_isWind) (maxL := 1) (ret := (some .boolean)) (by decide) rfl ?_
  intro p e s m args below meth c s₁ B hml hv
  obtain ⟨rfl, hsz, hP, hK, hD0⟩ := hv
  have hx := B.exec
  have hb := B.bytes
  have hr := B.returns
  have hts := atoms_spec (ws := wsX1_isWind) B.pre
  have hown : s.vm.findClass RX1 = some m.cls := findClass_of_methodNamed B.named
  have hlocks := B.notSynchronized
  subst hsz
  have hD := hD0.self (sz := s.heap.size)
  generalize hAe : va_A [] s.heap.size = A at hD ⊢
  have hA : ∀ q : Nat, s.heap.size ≤ q → A q := fun q h => by rw [← hAe]; exact Or.inr h
  have hS : va_S A s.heap s.heap [] := va_S.rf
  have hl := lv_entry ([.int p0]) (n := 1) (Nat.le_of_ble_eq_true rfl)
  rw [lg_entry_eq]
  generalize (lg_sl ([.int p0]) ++ List.replicate (1 - (lg_sl ([.int p0])).length) Slot.unset).toArray = ls at hl ⊢
  have hl : lv_has ls 1 [(0, .int p0)] := hl
  refine (?_ : ∀ Q9 : State → Prop, MQ below _ _ s _ _ _ = Q9 → W p l e ({ frames := 0, cells := 0, slots := 0, locals := 0 } : Room) s m _ below meth c s.heap [] 0 0 Q9 (F0 m 0 ls [])) _ rfl
  intro Q9 hQ9
  have hw : ((p0 < (27 : Int32) → (post (0 : Int32))) ∧ (¬ p0 < (27 : Int32) → ((((30 : Int32) < p0 → (post (0 : Int32))) ∧ (¬ (30 : Int32) < p0 → (post (1 : Int32))))))) := hw
  refine lv_iload_n hx hb dX1_isWind_0 rfl (lv_at hl 0 rfl) ?_
  refine lv_bipush (v := 27) hx hb dX1_isWind_1 (by decide) ?_
  refine lv_icmp_lt (tgt := 16) hx hb dX1_isWind_3 (by decide) (fun c1 => ?_) (fun c1 => ?_)
  · have hw := hw.1 c1
    refine lv_iconst (v := 0) hx hb dX1_isWind_16 (by decide) ?_
    rw [← hQ9]
    exact W.zret (v := (0 : Int32)) hx hb hr rfl (fun t ht hW => ⟨⟨(0 : Int32), (), rfl, hw, by rw [ht]; exact hP, va_K.moved hW.alike hK, hD⟩, hS.F ht⟩) hS.2.2 dX1_isWind_17
  · have hw := hw.2 c1
    refine lv_iload_n hx hb dX1_isWind_6 rfl (lv_at hl 0 rfl) ?_
    refine lv_bipush (v := 30) hx hb dX1_isWind_7 (by decide) ?_
    refine lv_icmp_gt (tgt := 16) hx hb dX1_isWind_9 (by decide) (fun c2 => ?_) (fun c2 => ?_)
    · have hw := hw.1 c2
      refine lv_iconst (v := 0) hx hb dX1_isWind_16 (by decide) ?_
      rw [← hQ9]
      exact W.zret (v := (0 : Int32)) hx hb hr rfl (fun t ht hW => ⟨⟨(0 : Int32), (), rfl, hw, by rw [ht]; exact hP, va_K.moved hW.alike hK, hD⟩, hS.F ht⟩) hS.2.2 dX1_isWind_17
    · have hw := hw.2 c2
      refine lv_iconst (v := 1) hx hb dX1_isWind_12 (by decide) ?_
      refine lv_goto (tgt := 17) hx hb dX1_isWind_13 (by decide) ?_
      rw [← hQ9]
      exact W.zret (v := (1 : Int32)) hx hb hr rfl (fun t ht hW => ⟨⟨(1 : Int32), (), rfl, hw, by rw [ht]; exact hP, va_K.moved hW.alike hK, hD⟩, hS.F ht⟩) hS.2.2 dX1_isWind_17

def w_X1_setWinds_b14 (post : Int32 → Int32 → Int32 → Prop) (p0 : Int32) (p1 : Int32) (swd : Int32) (rwd : Int32) : Prop := False

def w_X1_setWinds (swd : Int32) (rwd : Int32) (p0 : Int32) (p1 : Int32) (post : Int32 → Int32 → Int32 → Prop) : Prop := w_X1_isWind p0 (fun r1 => (((r1 = 0 → (w_X1_setWinds_b14 post p0 p1 swd rwd)) ∧ (¬ r1 = 0 → (w_X1_isWind p1 (fun r3 => (((r3 = 0 → (w_X1_setWinds_b14 post p0 p1 swd rwd)) ∧ (¬ r3 = 0 → (post swd p0 p1))))))))))

set_option maxHeartbeats 4000000 in
set_option maxRecDepth 100000 in
theorem c_X1_setWinds (l : Launch) (dC : Nat → ClassId) (dI : Nat → Nat → Nat) (cI cZ : ClassId) (x : Nat) (aH : Nat) (aL : Nat) (aS : Nat) (aO : Nat) (aK : Nat) (aZ : Nat) (cv : Nat) (sz : Nat) (tcn : Int32) (mcn : Int32) (swd : Int32) (rwd : Int32) (bpt : Int32) (flm : Int32) (p0 : Int32) (p1 : Int32) (post : Int32 → Int32 → Int32 → Prop) (hw : w_X1_setWinds swd rwd p0 p1 post) : Met l yX1_setWinds wsX1_setWinds ({ frames := 6, cells := 0, slots := 0, locals := 110 } : Room) (va_Pc [.ref x, .int p0, .int p1] (fun U => U.heap.size = sz ∧ va_P (dC, dI) vwCl [(x, .inr (1, [.ref aH, .ref aL, .ref aS, .ref aO, .ref aK, .ref aZ, .ref cv, .int tcn, .int mcn, .int swd, .int rwd, .int bpt, .int flm]))] U.heap ∧ va_K (dC, dI) vwCl [(cI, .int), (cZ, .boolean)] U ∧ va_D (fun _ => True) [(x, .inr (1, [.ref aH, .ref aL, .ref aS, .ref aO, .ref aK, .ref aZ, .ref cv, .int tcn, .int mcn, .int swd, .int rwd, .int bpt, .int flm]))])) (va_Qi (fun (r9 : Int32) (u9 : Int32 × Int32) => post r9 u9.1 u9.2) (fun (u9 : Int32 × Int32) (t9 : State) => va_P (dC, dI) vwCl [(x, .inr (1, [.ref aH, .ref aL, .ref aS, .ref aO, .ref aK, .ref aZ, .ref cv, .int tcn, .int mcn, .int u9.1, .int u9.2, .int bpt, .int flm]))] t9.heap ∧ va_K (dC, dI) vwCl [(cI, .int), (cZ, .boolean)] t9 ∧ va_D (va_A [(x, .inr (1, [.ref aH, .ref aL, .ref aS, .ref aO, .ref aK, .ref aZ, .ref cv, .int tcn, .int mcn, .int swd, .int rwd, .int bpt, .int flm]))] sz) [(x, .inr (1, [.ref aH, .ref aL, .ref aS, .ref aO, .ref aK, .ref aZ, .ref cv, .int tcn, .int mcn, .int u9.1, .int u9.2, .int bpt, .int flm]))]) (va_A [(x, .inr (1, [.ref aH, .ref aL, .ref aS, .ref aO, .ref aK, .ref aZ, .ref cv, .int tcn, .int mcn, .int swd, .int rwd, .int bpt, .int flm]))] sz)) 0 0 (va_A [(x, .inr (1, [.ref aH, .ref aL, .ref aS, .ref aO, .ref aK, .ref aZ, .ref cv, .int tcn, .int mcn, .int swd, .int rwd, .int bpt, .int flm]))] sz) := by
  refine Met.ofW (cc := cX1_setWinds) (maxL := 4) (ret := (some .int)) (by decide) rfl ?_
  intro p e s m args below meth c s₁ B hml hv
  obtain ⟨rfl, hsz, hP, hK, hD0⟩ := hv
  have hx := B.exec
  have hb := B.bytes
  have hr := B.returns
  have hts := atoms_spec (ws := wsX1_setWinds) B.pre
  have hown : s.vm.findClass RX1 = some m.cls := findClass_of_methodNamed B.named
  have hlocks := B.notSynchronized
  have hinX1 : ∀ w ∈ u_ws RX1 TX1 13, w ∈ wsX1_setWinds := by decide +kernel
  subst hsz
  have hD := hD0.self (sz := s.heap.size)
  generalize hAe : va_A [(x, .inr (1, [.ref aH, .ref aL, .ref aS, .ref aO, .ref aK, .ref aZ, .ref cv, .int tcn, .int mcn, .int swd, .int rwd, .int bpt, .int flm]))] s.heap.size = A at hD ⊢
  have hA : ∀ q : Nat, s.heap.size ≤ q → A q := fun q h => by rw [← hAe]; exact Or.inr h
  have hS : va_S A s.heap s.heap [] := va_S.rf
  have hl := lv_entry ([.ref x, .int p0, .int p1]) (n := 4) (Nat.le_of_ble_eq_true rfl)
  rw [lg_entry_eq]
  generalize (lg_sl ([.ref x, .int p0, .int p1]) ++ List.replicate (4 - (lg_sl ([.ref x, .int p0, .int p1])).length) Slot.unset).toArray = ls at hl ⊢
  have hl : lv_has ls 4 [(0, .ref x), (1, .int p0), (2, .int p1)] := hl
  refine (?_ : ∀ Q9 : State → Prop, MQ below _ _ s _ _ _ = Q9 → W p l e ({ frames := 6, cells := 0, slots := 0, locals := 110 } : Room) s m _ below meth c s.heap [] 0 0 Q9 (F0 m 0 ls [])) _ rfl
  intro Q9 hQ9
  have hw : w_X1_isWind p0 (fun r1 => (((r1 = 0 → (w_X1_setWinds_b14 post p0 p1 swd rwd)) ∧ (¬ r1 = 0 → (w_X1_isWind p1 (fun r3 => (((r3 = 0 → (w_X1_setWinds_b14 post p0 p1 swd rwd)) ∧ (¬ r3 = 0 → (post swd p0 p1)))))))))) := hw
  have L14 : ∀ (swd : Int32) (rwd : Int32) (H : Heap) (locs : List Loc) (ls : Array Slot), w_X1_setWinds_b14 post p0 p1 swd rwd → va_P (dC, dI) vwCl [(x, .inr (1, [.ref aH, .ref aL, .ref aS, .ref aO, .ref aK, .ref aZ, .ref cv, .int tcn, .int mcn, .int swd, .int rwd, .int bpt, .int flm]))] H → va_D A [(x, .inr (1, [.ref aH, .ref aL, .ref aS, .ref aO, .ref aK, .ref aZ, .ref cv, .int tcn, .int mcn, .int swd, .int rwd, .int bpt, .int flm]))] → va_S A s.heap H locs → lv_has ls 4 [(0, .ref x)] → W p l e ({ frames := 6, cells := 0, slots := 0, locals := 110 } : Room) s m ([.ref x, .int p0, .int p1] : List Value).toArray below meth c H locs 0 0 Q9 (F0 m 14 ls []) := by
    intro swd rwd H locs ls hw hP hD hS hl
    exact False.elim hw
  refine lv_iload_n hx hb dX1_setWinds_0 rfl (lv_at hl 1 rfl) ?_
  have hPc := hP.sub (ws' := []) [] rfl
  have hDc := hD.sub (ws' := []) [] (by decide) rfl
  have hFc := va_free (wc := []) hD hS hA [] rfl
  refine va_calli (va_runS (As := [.int p0]) (rest := []) ⟨hx, hb, hml, hown, hts⟩ (c_X1_isWind l dC dI cI cZ s.heap.size p0 _ hw) (va_cwS 1 hts gX1_setWinds_X1_isWind rfl rfl rfl (by decide +kernel) ⟨Nat.le_of_ble_eq_true rfl, Nat.le_of_ble_eq_true rfl⟩) ⟨fun a U g mk q => by obtain ⟨q0, q1, qP, qK, qD⟩ := q; exact ⟨q0, q1, qP, va_K.moved (u := U) (U := U.calling g mk a) (Vm.Alike.refl U.vm) qK, qD⟩, fun U hU hW => ⟨rfl, by rw [hU], by rw [hU]; exact hPc, va_K.moved hW.alike hK, hDc.weaken (fun _ _ _ _ => trivial)⟩⟩ rfl rfl hl.1 rfl (lv_room (Nat.le_of_ble_eq_true rfl)) dX1_setWinds_1 ⟨Nat.le_of_ble_eq_true rfl, Nat.le_of_ble_eq_true rfl⟩) hS (fun q _ h => hFc q h) hFc (fun r1 u t H1 locs ht hvm hw hB hz1 hk1 hS => ?_)
  obtain ⟨hP1, -, hD1⟩ := hB
  have hw := And.intro hw trivial
  try dsimp only at hw
  have hw := hw.1
  rw [ht] at hP1
  obtain ⟨hP, hD⟩ := va_join (wr := [(x, .inr (1, [.ref aH, .ref aL, .ref aS, .ref aO, .ref aK, .ref aZ, .ref cv, .int tcn, .int mcn, .int swd, .int rwd, .int bpt, .int flm]))]) (w1 := []) hP hD [] [0] rfl rfl (by decide) (by decide) hk1 hFc hP1 hD1
  generalize H1 = H at hP hS ⊢
  have hP : va_P (dC, dI) vwCl [(x, .inr (1, [.ref aH, .ref aL, .ref aS, .ref aO, .ref aK, .ref aZ, .ref cv, .int tcn, .int mcn, .int swd, .int rwd, .int bpt, .int flm]))] H := hP
  have hD : va_D A [(x, .inr (1, [.ref aH, .ref aL, .ref aS, .ref aO, .ref aK, .ref aZ, .ref cv, .int tcn, .int mcn, .int swd, .int rwd, .int bpt, .int flm]))] := hD
  refine lv_if_eq (tgt := 14) hx hb dX1_setWinds_4 (by decide) (fun c2 => ?_) (fun c2 => ?_)
  · have hw := hw.1 c2
    exact L14 swd rwd _ _ _ hw hP hD hS (lv_sub hl [0] rfl)
  · have hw := hw.2 c2
    refine lv_iload_n hx hb dX1_setWinds_7 rfl (lv_at hl 2 rfl) ?_
    have hPc := hP.sub (ws' := []) [] rfl
    have hDc := hD.sub (ws' := []) [] (by decide) rfl
    have hFc := va_free (wc := []) hD hS hA [] rfl
    refine va_calli (va_runS (As := [.int p1]) (rest := []) ⟨hx, hb, hml, hown, hts⟩ (c_X1_isWind l dC dI cI cZ H.size p1 _ hw) (va_cwS 1 hts gX1_setWinds_X1_isWind rfl rfl rfl (by decide +kernel) ⟨Nat.le_of_ble_eq_true rfl, Nat.le_of_ble_eq_true rfl⟩) ⟨fun a U g mk q => by obtain ⟨q0, q1, qP, qK, qD⟩ := q; exact ⟨q0, q1, qP, va_K.moved (u := U) (U := U.calling g mk a) (Vm.Alike.refl U.vm) qK, qD⟩, fun U hU hW => ⟨rfl, by rw [hU], by rw [hU]; exact hPc, va_K.moved hW.alike hK, hDc.weaken (fun _ _ _ _ => trivial)⟩⟩ rfl rfl hl.1 rfl (lv_room (Nat.le_of_ble_eq_true rfl)) dX1_setWinds_8 ⟨Nat.le_of_ble_eq_true rfl, Nat.le_of_ble_eq_true rfl⟩) hS (fun q _ h => hFc q h) hFc (fun r3 u t H1 locs ht hvm hw hB hz1 hk1 hS => ?_)
    obtain ⟨hP1, -, hD1⟩ := hB
    have hw := And.intro hw trivial
    try dsimp only at hw
    have hw := hw.1
    rw [ht] at hP1
    obtain ⟨hP, hD⟩ := va_join (wr := [(x, .inr (1, [.ref aH, .ref aL, .ref aS, .ref aO, .ref aK, .ref aZ, .ref cv, .int tcn, .int mcn, .int swd, .int rwd, .int bpt, .int flm]))]) (w1 := []) hP hD [] [0] rfl rfl (by decide) (by decide) hk1 hFc hP1 hD1
    generalize H1 = H at hP hS ⊢
    have hP : va_P (dC, dI) vwCl [(x, .inr (1, [.ref aH, .ref aL, .ref aS, .ref aO, .ref aK, .ref aZ, .ref cv, .int tcn, .int mcn, .int swd, .int rwd, .int bpt, .int flm]))] H := hP
    have hD : va_D A [(x, .inr (1, [.ref aH, .ref aL, .ref aS, .ref aO, .ref aK, .ref aZ, .ref cv, .int tcn, .int mcn, .int swd, .int rwd, .int bpt, .int flm]))] := hD
    refine lv_if_ne (tgt := 24) hx hb dX1_setWinds_11 (by decide) (fun c4 => ?_) (fun c4 => ?_)
    · have hw := hw.2 c4
      refine lv_aload_n hx hb dX1_setWinds_24 rfl (lv_at hl 0 rfl) ?_
      refine va_get (D := (dC, dI)) (ci := 1) (v := .int swd) (C := RX1) (T := TX1) (N := 13) hx hb hts hinX1 hown hK hP 0 rfl rfl 9 (by decide) (hts (.fieldLink RX1 36 "TileHand" "seatWind" "I") (by decide +kernel)) (fun _ h9 => h9) rfl dX1_setWinds_25 ?_
      refine lv_istore_n (lv' := [(3, .int swd), (0, .ref x), (1, .int p0), (2, .int p1)]) hx hb dX1_setWinds_28 rfl hl (by decide) rfl (fun ls hl => ?_)
      refine lv_aload_n hx hb dX1_setWinds_29 rfl (lv_at hl 1 rfl) ?_
      refine lv_iload_n hx hb dX1_setWinds_30 rfl (lv_at hl 2 rfl) ?_
      refine va_put (D := (dC, dI)) (ci := 1) (v := .int p0) (ty := .int) (C := RX1) (T := TX1) (N := 13) hx hb hts hinX1 tyX1 tyX1_ok nmX1 hown hK hP hD hS 0 rfl rfl 9 (by decide) (hts (.fieldLink RX1 36 "TileHand" "seatWind" "I") (by decide +kernel)) (fun _ h9 => h9) rfl (by decide +kernel) rfl rfl (Nat.le_of_ble_eq_true rfl) dX1_setWinds_31 (fun H locs hP hD hS => ?_)
      have hP : va_P (dC, dI) vwCl [(x, .inr (1, [.ref aH, .ref aL, .ref aS, .ref aO, .ref aK, .ref aZ, .ref cv, .int tcn, .int mcn, .int p0, .int rwd, .int bpt, .int flm]))] H := hP
      have hD : va_D A [(x, .inr (1, [.ref aH, .ref aL, .ref aS, .ref aO, .ref aK, .ref aZ, .ref cv, .int tcn, .int mcn, .int p0, .int rwd, .int bpt, .int flm]))] := hD
      refine lv_aload_n hx hb dX1_setWinds_34 rfl (lv_at hl 1 rfl) ?_
      refine lv_iload_n hx hb dX1_setWinds_35 rfl (lv_at hl 3 rfl) ?_
      refine va_put (D := (dC, dI)) (ci := 1) (v := .int p1) (ty := .int) (C := RX1) (T := TX1) (N := 13) hx hb hts hinX1 tyX1 tyX1_ok nmX1 hown hK hP hD hS 0 rfl rfl 10 (by decide) (hts (.fieldLink RX1 40 "TileHand" "roundWind" "I") (by decide +kernel)) (fun _ h9 => h9) rfl (by decide +kernel) rfl rfl (Nat.le_of_ble_eq_true rfl) dX1_setWinds_36 (fun H locs hP hD hS => ?_)
      have hP : va_P (dC, dI) vwCl [(x, .inr (1, [.ref aH, .ref aL, .ref aS, .ref aO, .ref aK, .ref aZ, .ref cv, .int tcn, .int mcn, .int p0, .int p1, .int bpt, .int flm]))] H := hP
      have hD : va_D A [(x, .inr (1, [.ref aH, .ref aL, .ref aS, .ref aO, .ref aK, .ref aZ, .ref cv, .int tcn, .int mcn, .int p0, .int p1, .int bpt, .int flm]))] := hD
      refine lv_iload_n hx hb dX1_setWinds_39 rfl (lv_at hl 0 rfl) ?_
      rw [← hQ9]
      exact W.iret (v := swd) hx hb hr (fun t ht hW => ⟨⟨swd, (p0, p1), rfl, hw, by rw [ht]; exact hP, va_K.moved hW.alike hK, hD⟩, hS.F ht⟩) hS.2.2 dX1_setWinds_40
    · have hw := hw.1 c4
      exact L14 swd rwd _ _ _ hw hP hD hS (lv_sub hl [0] rfl)

def w_X1_setWinds_x_b14 (px : String → Int32 → Int32 → Prop) (p0 : Int32) (p1 : Int32) (swd : Int32) (rwd : Int32) : Prop := px "java/lang/IllegalArgumentException" swd rwd

def w_X1_setWinds_x (swd : Int32) (rwd : Int32) (p0 : Int32) (p1 : Int32) (px : String → Int32 → Int32 → Prop) : Prop := w_X1_isWind p0 (fun r1 => (((r1 = 0 → (w_X1_setWinds_x_b14 px p0 p1 swd rwd)) ∧ (¬ r1 = 0 → (w_X1_isWind p1 (fun r3 => (((r3 = 0 → (w_X1_setWinds_x_b14 px p0 p1 swd rwd)) ∧ (¬ r3 = 0 → (False))))))))))

set_option maxHeartbeats 4000000 in
set_option maxRecDepth 100000 in
theorem c_X1_setWinds_x (l : Launch) (hl9 : l.stackTraces = false) (dC : Nat → ClassId) (dI : Nat → Nat → Nat) (cI cZ : ClassId) (x : Nat) (aH : Nat) (aL : Nat) (aS : Nat) (aO : Nat) (aK : Nat) (aZ : Nat) (cv : Nat) (sz : Nat) (tcn : Int32) (mcn : Int32) (swd : Int32) (rwd : Int32) (bpt : Int32) (flm : Int32) (p0 : Int32) (p1 : Int32) (px : String → Int32 → Int32 → Prop) (hw : w_X1_setWinds_x swd rwd p0 p1 px) : vx_Met l yX1_setWinds wsX1_setWinds ({ frames := 6, cells := 1, slots := 6, locals := 110 } : Room) (va_Pc [.ref x, .int p0, .int p1] (fun U => U.heap.size = sz ∧ va_P (dC, dI) vwCl [(x, .inr (1, [.ref aH, .ref aL, .ref aS, .ref aO, .ref aK, .ref aZ, .ref cv, .int tcn, .int mcn, .int swd, .int rwd, .int bpt, .int flm]))] U.heap ∧ va_K (dC, dI) vwCl [(cI, .int), (cZ, .boolean)] U ∧ va_D (fun _ => True) [(x, .inr (1, [.ref aH, .ref aL, .ref aS, .ref aO, .ref aK, .ref aZ, .ref cv, .int tcn, .int mcn, .int swd, .int rwd, .int bpt, .int flm]))] ∧ xk (va_A [(x, .inr (1, [.ref aH, .ref aL, .ref aS, .ref aO, .ref aK, .ref aZ, .ref cv, .int tcn, .int mcn, .int swd, .int rwd, .int bpt, .int flm]))] sz) U)) (va_Qi (fun (_ : Int32) (_ : Unit) => False) (fun _ _ => True) (va_A [(x, .inr (1, [.ref aH, .ref aL, .ref aS, .ref aO, .ref aK, .ref aZ, .ref cv, .int tcn, .int mcn, .int swd, .int rwd, .int bpt, .int flm]))] sz)) (vx_X (fun (u9 : String × Int32 × Int32) => px u9.1 u9.2.1 u9.2.2) (fun (E9 : String) (u9 : String × Int32 × Int32) (t9 : State) => E9 = u9.1 ∧ va_P (dC, dI) vwCl [(x, .inr (1, [.ref aH, .ref aL, .ref aS, .ref aO, .ref aK, .ref aZ, .ref cv, .int tcn, .int mcn, .int u9.2.1, .int u9.2.2, .int bpt, .int flm]))] t9.heap ∧ va_K (dC, dI) vwCl [(cI, .int), (cZ, .boolean)] t9 ∧ va_D (va_A [(x, .inr (1, [.ref aH, .ref aL, .ref aS, .ref aO, .ref aK, .ref aZ, .ref cv, .int tcn, .int mcn, .int swd, .int rwd, .int bpt, .int flm]))] sz) [(x, .inr (1, [.ref aH, .ref aL, .ref aS, .ref aO, .ref aK, .ref aZ, .ref cv, .int tcn, .int mcn, .int u9.2.1, .int u9.2.2, .int bpt, .int flm]))]) (va_A [(x, .inr (1, [.ref aH, .ref aL, .ref aS, .ref aO, .ref aK, .ref aZ, .ref cv, .int tcn, .int mcn, .int swd, .int rwd, .int bpt, .int flm]))] sz)) 1 6 (va_A [(x, .inr (1, [.ref aH, .ref aL, .ref aS, .ref aO, .ref aK, .ref aZ, .ref cv, .int tcn, .int mcn, .int swd, .int rwd, .int bpt, .int flm]))] sz) := by
  refine vx_ofW (cc := cX1_setWinds) (maxL := 4) (ret := (some .int)) (by decide) rfl ?_
  intro p e s m args below meth c s₁ B hml hEx hv
  obtain ⟨rfl, hsz, hP, hK, hD0, hxk⟩ := hv
  have hx := B.exec
  have hb := B.bytes
  have hr := B.returns
  have hts := atoms_spec (ws := wsX1_setWinds) B.pre
  have hown : s.vm.findClass RX1 = some m.cls := findClass_of_methodNamed B.named
  have hlocks := B.notSynchronized
  have hinX1 : ∀ w ∈ u_ws RX1 TX1 13, w ∈ wsX1_setWinds := by decide +kernel
  subst hsz
  have hD := hD0.self (sz := s.heap.size)
  generalize hAe : va_A [(x, .inr (1, [.ref aH, .ref aL, .ref aS, .ref aO, .ref aK, .ref aZ, .ref cv, .int tcn, .int mcn, .int swd, .int rwd, .int bpt, .int flm]))] s.heap.size = A at hD hxk ⊢
  have hA : ∀ q : Nat, s.heap.size ≤ q → A q := fun q h => by rw [← hAe]; exact Or.inr h
  have hS : va_S A s.heap s.heap [] := va_S.rf
  have hl := lv_entry ([.ref x, .int p0, .int p1]) (n := 4) (Nat.le_of_ble_eq_true rfl)
  rw [lg_entry_eq]
  generalize (lg_sl ([.ref x, .int p0, .int p1]) ++ List.replicate (4 - (lg_sl ([.ref x, .int p0, .int p1])).length) Slot.unset).toArray = ls at hl ⊢
  have hl : lv_has ls 4 [(0, .ref x), (1, .int p0), (2, .int p1)] := hl
  refine (?_ : ∀ Q9 : State → Prop, vx_MQ below _ _ _ s _ _ _ = Q9 → W p l e ({ frames := 6, cells := 1, slots := 6, locals := 110 } : Room) s m _ below meth c s.heap [] 0 0 Q9 (F0 m 0 ls [])) _ rfl
  intro Q9 hQ9
  have hw : w_X1_isWind p0 (fun r1 => (((r1 = 0 → (w_X1_setWinds_x_b14 px p0 p1 swd rwd)) ∧ (¬ r1 = 0 → (w_X1_isWind p1 (fun r3 => (((r3 = 0 → (w_X1_setWinds_x_b14 px p0 p1 swd rwd)) ∧ (¬ r3 = 0 → (False)))))))))) := hw
  have L14 : ∀ (swd : Int32) (rwd : Int32) (H : Heap) (locs : List Loc) (ls : Array Slot), w_X1_setWinds_x_b14 px p0 p1 swd rwd → va_P (dC, dI) vwCl [(x, .inr (1, [.ref aH, .ref aL, .ref aS, .ref aO, .ref aK, .ref aZ, .ref cv, .int tcn, .int mcn, .int swd, .int rwd, .int bpt, .int flm]))] H → va_D A [(x, .inr (1, [.ref aH, .ref aL, .ref aS, .ref aO, .ref aK, .ref aZ, .ref cv, .int tcn, .int mcn, .int swd, .int rwd, .int bpt, .int flm]))] → va_S A s.heap H locs → lv_has ls 4 [(0, .ref x)] → W p l e ({ frames := 6, cells := 1, slots := 6, locals := 110 } : Room) s m ([.ref x, .int p0, .int p1] : List Value).toArray below meth c H locs 0 0 Q9 (F0 m 14 ls []) := by
    intro swd rwd H locs ls hw hP hD hS hl
    obtain ⟨sa9, hstr9⟩ := xk_s159 hxk
    rw [← hQ9]
    exact vx_throwS (own := RX1) (cls := "java/lang/IllegalArgumentException") (text := "a wind is 27 to 30") (names := ["java/lang/RuntimeException", "java/lang/Exception"]) (A := A) hx hb hl9 hown (by decide +kernel) (by decide +kernel) (hts (.classLink RX1 78 "java/lang/IllegalArgumentException") (by decide +kernel)) (hts (.initialized "java/lang/IllegalArgumentException") (by decide +kernel)) hstr9 (vx_hat (L := vx_atS RX1 82 "java/lang/IllegalArgumentException" ["java/lang/RuntimeException", "java/lang/Exception"]) (B := [.castable "java/lang/IllegalArgumentException" "java/lang/IllegalArgumentException", .declares ⟨"java/lang/RuntimeException", "<init>", "(Ljava/lang/String;)V"⟩, .declares ⟨"java/lang/Exception", "<init>", "(Ljava/lang/String;)V"⟩, .declares ⟨"java/lang/Throwable", "<init>", "(Ljava/lang/String;)V"⟩]) (fun w hw => hts w ((by decide +kernel : ∀ w ∈ (vx_atS RX1 82 "java/lang/IllegalArgumentException" ["java/lang/RuntimeException", "java/lang/Exception"]).filter goodWord, w ∈ wsX1_setWinds) w hw)) (by decide +kernel) (vx_c (va_Nw.use rfl (xk_c2 hxk)) (vx_c (va_Nw.use rfl (xk_d1 hxk)) (vx_c (va_Nw.use rfl (xk_d2 hxk)) (vx_c (va_Nw.use rfl (xk_d3 hxk)) vx_n))))) (by decide +kernel) (xk_U hxk) (xk_N hxk) hS (hl.1.trans hml.symm) dX1_setWinds_14 dX1_setWinds_17 dX1_setWinds_18 dX1_setWinds_20 dX1_setWinds_23 (fun x hx => (hEx x hx).elim) (Nat.le_of_ble_eq_true rfl) (Nat.le_of_ble_eq_true rfl) (Nat.le_of_ble_eq_true rfl) (Nat.le_of_ble_eq_true rfl) hlocks (fun t ha hz hq => ⟨("java/lang/IllegalArgumentException", swd, rwd), hw, ⟨rfl, xt_P hP hq, va_K.moved ha hK, hD⟩, xt_F hS hz hq⟩) hS.2.2 (Nat.le_of_ble_eq_true rfl) (Nat.le_of_ble_eq_true rfl)
  refine lv_iload_n hx hb dX1_setWinds_0 rfl (lv_at hl 1 rfl) ?_
  have hPc := hP.sub (ws' := []) [] rfl
  have hDc := hD.sub (ws' := []) [] (by decide) rfl
  have hFc := va_free (wc := []) hD hS hA [] rfl
  refine va_calli (va_runS (As := [.int p0]) (rest := []) ⟨hx, hb, hml, hown, hts⟩ (c_X1_isWind l dC dI cI cZ s.heap.size p0 _ hw) (va_cwS 1 hts gX1_setWinds_X1_isWind rfl rfl rfl (by decide +kernel) ⟨Nat.le_of_ble_eq_true rfl, Nat.le_of_ble_eq_true rfl⟩) ⟨fun a U g mk q => by obtain ⟨q0, q1, qP, qK, qD⟩ := q; exact ⟨q0, q1, qP, va_K.moved (u := U) (U := U.calling g mk a) (Vm.Alike.refl U.vm) qK, qD⟩, fun U hU hW => ⟨rfl, by rw [hU], by rw [hU]; exact hPc, va_K.moved hW.alike hK, hDc.weaken (fun _ _ _ _ => trivial)⟩⟩ rfl rfl hl.1 rfl (lv_room (Nat.le_of_ble_eq_true rfl)) dX1_setWinds_1 ⟨Nat.le_of_ble_eq_true rfl, Nat.le_of_ble_eq_true rfl⟩) hS (fun q _ h => hFc q h) hFc (fun r1 u t H1 locs ht hvm hw hB hz1 hk1 hS => ?_)
  obtain ⟨hP1, -, hD1⟩ := hB
  have hw := And.intro hw trivial
  try dsimp only at hw
  have hw := hw.1
  rw [ht] at hP1
  obtain ⟨hP, hD⟩ := va_join (wr := [(x, .inr (1, [.ref aH, .ref aL, .ref aS, .ref aO, .ref aK, .ref aZ, .ref cv, .int tcn, .int mcn, .int swd, .int rwd, .int bpt, .int flm]))]) (w1 := []) hP hD [] [0] rfl rfl (by decide) (by decide) hk1 hFc hP1 hD1
  generalize H1 = H at hP hS ⊢
  have hP : va_P (dC, dI) vwCl [(x, .inr (1, [.ref aH, .ref aL, .ref aS, .ref aO, .ref aK, .ref aZ, .ref cv, .int tcn, .int mcn, .int swd, .int rwd, .int bpt, .int flm]))] H := hP
  have hD : va_D A [(x, .inr (1, [.ref aH, .ref aL, .ref aS, .ref aO, .ref aK, .ref aZ, .ref cv, .int tcn, .int mcn, .int swd, .int rwd, .int bpt, .int flm]))] := hD
  refine lv_if_eq (tgt := 14) hx hb dX1_setWinds_4 (by decide) (fun c2 => ?_) (fun c2 => ?_)
  · have hw := hw.1 c2
    exact L14 swd rwd _ _ _ hw hP hD hS (lv_sub hl [0] rfl)
  · have hw := hw.2 c2
    refine lv_iload_n hx hb dX1_setWinds_7 rfl (lv_at hl 2 rfl) ?_
    have hPc := hP.sub (ws' := []) [] rfl
    have hDc := hD.sub (ws' := []) [] (by decide) rfl
    have hFc := va_free (wc := []) hD hS hA [] rfl
    refine va_calli (va_runS (As := [.int p1]) (rest := []) ⟨hx, hb, hml, hown, hts⟩ (c_X1_isWind l dC dI cI cZ H.size p1 _ hw) (va_cwS 1 hts gX1_setWinds_X1_isWind rfl rfl rfl (by decide +kernel) ⟨Nat.le_of_ble_eq_true rfl, Nat.le_of_ble_eq_true rfl⟩) ⟨fun a U g mk q => by obtain ⟨q0, q1, qP, qK, qD⟩ := q; exact ⟨q0, q1, qP, va_K.moved (u := U) (U := U.calling g mk a) (Vm.Alike.refl U.vm) qK, qD⟩, fun U hU hW => ⟨rfl, by rw [hU], by rw [hU]; exact hPc, va_K.moved hW.alike hK, hDc.weaken (fun _ _ _ _ => trivial)⟩⟩ rfl rfl hl.1 rfl (lv_room (Nat.le_of_ble_eq_true rfl)) dX1_setWinds_8 ⟨Nat.le_of_ble_eq_true rfl, Nat.le_of_ble_eq_true rfl⟩) hS (fun q _ h => hFc q h) hFc (fun r3 u t H1 locs ht hvm hw hB hz1 hk1 hS => ?_)
    obtain ⟨hP1, -, hD1⟩ := hB
    have hw := And.intro hw trivial
    try dsimp only at hw
    have hw := hw.1
    rw [ht] at hP1
    obtain ⟨hP, hD⟩ := va_join (wr := [(x, .inr (1, [.ref aH, .ref aL, .ref aS, .ref aO, .ref aK, .ref aZ, .ref cv, .int tcn, .int mcn, .int swd, .int rwd, .int bpt, .int flm]))]) (w1 := []) hP hD [] [0] rfl rfl (by decide) (by decide) hk1 hFc hP1 hD1
    generalize H1 = H at hP hS ⊢
    have hP : va_P (dC, dI) vwCl [(x, .inr (1, [.ref aH, .ref aL, .ref aS, .ref aO, .ref aK, .ref aZ, .ref cv, .int tcn, .int mcn, .int swd, .int rwd, .int bpt, .int flm]))] H := hP
    have hD : va_D A [(x, .inr (1, [.ref aH, .ref aL, .ref aS, .ref aO, .ref aK, .ref aZ, .ref cv, .int tcn, .int mcn, .int swd, .int rwd, .int bpt, .int flm]))] := hD
    refine lv_if_ne (tgt := 24) hx hb dX1_setWinds_11 (by decide) (fun c4 => ?_) (fun c4 => ?_)
    · have hw := hw.2 c4
      refine lv_aload_n hx hb dX1_setWinds_24 rfl (lv_at hl 0 rfl) ?_
      refine va_get (D := (dC, dI)) (ci := 1) (v := .int swd) (C := RX1) (T := TX1) (N := 13) hx hb hts hinX1 hown hK hP 0 rfl rfl 9 (by decide) (hts (.fieldLink RX1 36 "TileHand" "seatWind" "I") (by decide +kernel)) (fun _ h9 => h9) rfl dX1_setWinds_25 ?_
      refine lv_istore_n (lv' := [(3, .int swd), (0, .ref x), (1, .int p0), (2, .int p1)]) hx hb dX1_setWinds_28 rfl hl (by decide) rfl (fun ls hl => ?_)
      refine lv_aload_n hx hb dX1_setWinds_29 rfl (lv_at hl 1 rfl) ?_
      refine lv_iload_n hx hb dX1_setWinds_30 rfl (lv_at hl 2 rfl) ?_
      refine va_put (D := (dC, dI)) (ci := 1) (v := .int p0) (ty := .int) (C := RX1) (T := TX1) (N := 13) hx hb hts hinX1 tyX1 tyX1_ok nmX1 hown hK hP hD hS 0 rfl rfl 9 (by decide) (hts (.fieldLink RX1 36 "TileHand" "seatWind" "I") (by decide +kernel)) (fun _ h9 => h9) rfl (by decide +kernel) rfl rfl (Nat.le_of_ble_eq_true rfl) dX1_setWinds_31 (fun H locs hP hD hS => ?_)
      have hP : va_P (dC, dI) vwCl [(x, .inr (1, [.ref aH, .ref aL, .ref aS, .ref aO, .ref aK, .ref aZ, .ref cv, .int tcn, .int mcn, .int p0, .int rwd, .int bpt, .int flm]))] H := hP
      have hD : va_D A [(x, .inr (1, [.ref aH, .ref aL, .ref aS, .ref aO, .ref aK, .ref aZ, .ref cv, .int tcn, .int mcn, .int p0, .int rwd, .int bpt, .int flm]))] := hD
      refine lv_aload_n hx hb dX1_setWinds_34 rfl (lv_at hl 1 rfl) ?_
      refine lv_iload_n hx hb dX1_setWinds_35 rfl (lv_at hl 3 rfl) ?_
      refine va_put (D := (dC, dI)) (ci := 1) (v := .int p1) (ty := .int) (C := RX1) (T := TX1) (N := 13) hx hb hts hinX1 tyX1 tyX1_ok nmX1 hown hK hP hD hS 0 rfl rfl 10 (by decide) (hts (.fieldLink RX1 40 "TileHand" "roundWind" "I") (by decide +kernel)) (fun _ h9 => h9) rfl (by decide +kernel) rfl rfl (Nat.le_of_ble_eq_true rfl) dX1_setWinds_36 (fun H locs hP hD hS => ?_)
      have hP : va_P (dC, dI) vwCl [(x, .inr (1, [.ref aH, .ref aL, .ref aS, .ref aO, .ref aK, .ref aZ, .ref cv, .int tcn, .int mcn, .int p0, .int p1, .int bpt, .int flm]))] H := hP
      have hD : va_D A [(x, .inr (1, [.ref aH, .ref aL, .ref aS, .ref aO, .ref aK, .ref aZ, .ref cv, .int tcn, .int mcn, .int p0, .int p1, .int bpt, .int flm]))] := hD
      refine lv_iload_n hx hb dX1_setWinds_39 rfl (lv_at hl 0 rfl) ?_
      exact False.elim hw
    · have hw := hw.1 c4
      exact L14 swd rwd _ _ _ hw hP hD hS (lv_sub hl [0] rfl)

def w_X1_setPoints_b11 (post : Int32 → Int32 → Int32 → Prop) (p0 : Int32) (p1 : Int32) (bpt : Int32) (flm : Int32) : Prop := False

def w_X1_setPoints_b32 (post : Int32 → Int32 → Int32 → Prop) (p0 : Int32) (p1 : Int32) (bpt : Int32) (flm : Int32) : Prop := False

def w_X1_setPoints (bpt : Int32) (flm : Int32) (p0 : Int32) (p1 : Int32) (post : Int32 → Int32 → Int32 → Prop) : Prop := ((p0 < (1 : Int32) → (w_X1_setPoints_b11 post p0 p1 bpt flm)) ∧ (¬ p0 < (1 : Int32) → (((p0 ≤ (100 : Int32) → (((p1 < (1 : Int32) → (w_X1_setPoints_b32 post p0 p1 bpt flm)) ∧ (¬ p1 < (1 : Int32) → (((p1 ≤ (13 : Int32) → (post flm p0 p1)) ∧ (¬ p1 ≤ (13 : Int32) → (w_X1_setPoints_b32 post p0 p1 bpt flm)))))))) ∧ (¬ p0 ≤ (100 : Int32) → (w_X1_setPoints_b11 post p0 p1 bpt flm))))))

set_option maxHeartbeats 4000000 in
set_option maxRecDepth 100000 in
theorem c_X1_setPoints (l : Launch) (dC : Nat → ClassId) (dI : Nat → Nat → Nat) (cI cZ : ClassId) (x : Nat) (aH : Nat) (aL : Nat) (aS : Nat) (aO : Nat) (aK : Nat) (aZ : Nat) (cv : Nat) (sz : Nat) (tcn : Int32) (mcn : Int32) (swd : Int32) (rwd : Int32) (bpt : Int32) (flm : Int32) (p0 : Int32) (p1 : Int32) (post : Int32 → Int32 → Int32 → Prop) (hw : w_X1_setPoints bpt flm p0 p1 post) : Met l yX1_setPoints wsX1_setPoints ({ frames := 6, cells := 0, slots := 0, locals := 110 } : Room) (va_Pc [.ref x, .int p0, .int p1] (fun U => U.heap.size = sz ∧ va_P (dC, dI) vwCl [(x, .inr (1, [.ref aH, .ref aL, .ref aS, .ref aO, .ref aK, .ref aZ, .ref cv, .int tcn, .int mcn, .int swd, .int rwd, .int bpt, .int flm]))] U.heap ∧ va_K (dC, dI) vwCl [(cI, .int), (cZ, .boolean)] U ∧ va_D (fun _ => True) [(x, .inr (1, [.ref aH, .ref aL, .ref aS, .ref aO, .ref aK, .ref aZ, .ref cv, .int tcn, .int mcn, .int swd, .int rwd, .int bpt, .int flm]))])) (va_Qi (fun (r9 : Int32) (u9 : Int32 × Int32) => post r9 u9.1 u9.2) (fun (u9 : Int32 × Int32) (t9 : State) => va_P (dC, dI) vwCl [(x, .inr (1, [.ref aH, .ref aL, .ref aS, .ref aO, .ref aK, .ref aZ, .ref cv, .int tcn, .int mcn, .int swd, .int rwd, .int u9.1, .int u9.2]))] t9.heap ∧ va_K (dC, dI) vwCl [(cI, .int), (cZ, .boolean)] t9 ∧ va_D (va_A [(x, .inr (1, [.ref aH, .ref aL, .ref aS, .ref aO, .ref aK, .ref aZ, .ref cv, .int tcn, .int mcn, .int swd, .int rwd, .int bpt, .int flm]))] sz) [(x, .inr (1, [.ref aH, .ref aL, .ref aS, .ref aO, .ref aK, .ref aZ, .ref cv, .int tcn, .int mcn, .int swd, .int rwd, .int u9.1, .int u9.2]))]) (va_A [(x, .inr (1, [.ref aH, .ref aL, .ref aS, .ref aO, .ref aK, .ref aZ, .ref cv, .int tcn, .int mcn, .int swd, .int rwd, .int bpt, .int flm]))] sz)) 0 0 (va_A [(x, .inr (1, [.ref aH, .ref aL, .ref aS, .ref aO, .ref aK, .ref aZ, .ref cv, .int tcn, .int mcn, .int swd, .int rwd, .int bpt, .int flm]))] sz) := by
  refine Met.ofW (cc := cX1_setPoints) (maxL := 4) (ret := (some .int)) (by decide) rfl ?_
  intro p e s m args below meth c s₁ B hml hv
  obtain ⟨rfl, hsz, hP, hK, hD0⟩ := hv
  have hx := B.exec
  have hb := B.bytes
  have hr := B.returns
  have hts := atoms_spec (ws := wsX1_setPoints) B.pre
  have hown : s.vm.findClass RX1 = some m.cls := findClass_of_methodNamed B.named
  have hlocks := B.notSynchronized
  have hinX1 : ∀ w ∈ u_ws RX1 TX1 13, w ∈ wsX1_setPoints := by decide +kernel
  subst hsz
  have hD := hD0.self (sz := s.heap.size)
  generalize hAe : va_A [(x, .inr (1, [.ref aH, .ref aL, .ref aS, .ref aO, .ref aK, .ref aZ, .ref cv, .int tcn, .int mcn, .int swd, .int rwd, .int bpt, .int flm]))] s.heap.size = A at hD ⊢
  have hA : ∀ q : Nat, s.heap.size ≤ q → A q := fun q h => by rw [← hAe]; exact Or.inr h
  have hS : va_S A s.heap s.heap [] := va_S.rf
  have hl := lv_entry ([.ref x, .int p0, .int p1]) (n := 4) (Nat.le_of_ble_eq_true rfl)
  rw [lg_entry_eq]
  generalize (lg_sl ([.ref x, .int p0, .int p1]) ++ List.replicate (4 - (lg_sl ([.ref x, .int p0, .int p1])).length) Slot.unset).toArray = ls at hl ⊢
  have hl : lv_has ls 4 [(0, .ref x), (1, .int p0), (2, .int p1)] := hl
  refine (?_ : ∀ Q9 : State → Prop, MQ below _ _ s _ _ _ = Q9 → W p l e ({ frames := 6, cells := 0, slots := 0, locals := 110 } : Room) s m _ below meth c s.heap [] 0 0 Q9 (F0 m 0 ls [])) _ rfl
  intro Q9 hQ9
  have hw : ((p0 < (1 : Int32) → (w_X1_setPoints_b11 post p0 p1 bpt flm)) ∧ (¬ p0 < (1 : Int32) → (((p0 ≤ (100 : Int32) → (((p1 < (1 : Int32) → (w_X1_setPoints_b32 post p0 p1 bpt flm)) ∧ (¬ p1 < (1 : Int32) → (((p1 ≤ (13 : Int32) → (post flm p0 p1)) ∧ (¬ p1 ≤ (13 : Int32) → (w_X1_setPoints_b32 post p0 p1 bpt flm)))))))) ∧ (¬ p0 ≤ (100 : Int32) → (w_X1_setPoints_b11 post p0 p1 bpt flm)))))) := hw
  have L11 : ∀ (bpt : Int32) (flm : Int32) (H : Heap) (locs : List Loc) (ls : Array Slot), w_X1_setPoints_b11 post p0 p1 bpt flm → va_P (dC, dI) vwCl [(x, .inr (1, [.ref aH, .ref aL, .ref aS, .ref aO, .ref aK, .ref aZ, .ref cv, .int tcn, .int mcn, .int swd, .int rwd, .int bpt, .int flm]))] H → va_D A [(x, .inr (1, [.ref aH, .ref aL, .ref aS, .ref aO, .ref aK, .ref aZ, .ref cv, .int tcn, .int mcn, .int swd, .int rwd, .int bpt, .int flm]))] → va_S A s.heap H locs → lv_has ls 4 [(0, .ref x)] → W p l e ({ frames := 6, cells := 0, slots := 0, locals := 110 } : Room) s m ([.ref x, .int p0, .int p1] : List Value).toArray below meth c H locs 0 0 Q9 (F0 m 11 ls []) := by
    intro bpt flm H locs ls hw hP hD hS hl
    exact False.elim hw
  have L32 : ∀ (bpt : Int32) (flm : Int32) (H : Heap) (locs : List Loc) (ls : Array Slot), w_X1_setPoints_b32 post p0 p1 bpt flm → va_P (dC, dI) vwCl [(x, .inr (1, [.ref aH, .ref aL, .ref aS, .ref aO, .ref aK, .ref aZ, .ref cv, .int tcn, .int mcn, .int swd, .int rwd, .int bpt, .int flm]))] H → va_D A [(x, .inr (1, [.ref aH, .ref aL, .ref aS, .ref aO, .ref aK, .ref aZ, .ref cv, .int tcn, .int mcn, .int swd, .int rwd, .int bpt, .int flm]))] → va_S A s.heap H locs → lv_has ls 4 [(0, .ref x)] → W p l e ({ frames := 6, cells := 0, slots := 0, locals := 110 } : Room) s m ([.ref x, .int p0, .int p1] : List Value).toArray below meth c H locs 0 0 Q9 (F0 m 32 ls []) := by
    intro bpt flm H locs ls hw hP hD hS hl
    exact False.elim hw
  refine lv_iload_n hx hb dX1_setPoints_0 rfl (lv_at hl 1 rfl) ?_
  refine lv_iconst (v := 1) hx hb dX1_setPoints_1 (by decide) ?_
  refine lv_icmp_lt (tgt := 11) hx hb dX1_setPoints_2 (by decide) (fun c1 => ?_) (fun c1 => ?_)
  · have hw := hw.1 c1
    exact L11 bpt flm _ _ _ hw hP hD hS (lv_sub hl [0] rfl)
  · have hw := hw.2 c1
    refine lv_iload_n hx hb dX1_setPoints_5 rfl (lv_at hl 1 rfl) ?_
    refine lv_bipush (v := 100) hx hb dX1_setPoints_6 (by decide) ?_
    refine lv_icmp_le (tgt := 21) hx hb dX1_setPoints_8 (by decide) (fun c2 => ?_) (fun c2 => ?_)
    · have hw := hw.1 c2
      refine lv_iload_n hx hb dX1_setPoints_21 rfl (lv_at hl 2 rfl) ?_
      refine lv_iconst (v := 1) hx hb dX1_setPoints_22 (by decide) ?_
      refine lv_icmp_lt (tgt := 32) hx hb dX1_setPoints_23 (by decide) (fun c3 => ?_) (fun c3 => ?_)
      · have hw := hw.1 c3
        exact L32 bpt flm _ _ _ hw hP hD hS (lv_sub hl [0] rfl)
      · have hw := hw.2 c3
        refine lv_iload_n hx hb dX1_setPoints_26 rfl (lv_at hl 2 rfl) ?_
        refine lv_bipush (v := 13) hx hb dX1_setPoints_27 (by decide) ?_
        refine lv_icmp_le (tgt := 42) hx hb dX1_setPoints_29 (by decide) (fun c4 => ?_) (fun c4 => ?_)
        · have hw := hw.1 c4
          refine lv_aload_n hx hb dX1_setPoints_42 rfl (lv_at hl 0 rfl) ?_
          refine va_get (D := (dC, dI)) (ci := 1) (v := .int flm) (C := RX1) (T := TX1) (N := 13) hx hb hts hinX1 hown hK hP 0 rfl rfl 12 (by decide) (hts (.fieldLink RX1 46 "TileHand" "fanLimit" "I") (by decide +kernel)) (fun _ h9 => h9) rfl dX1_setPoints_43 ?_
          refine lv_istore_n (lv' := [(3, .int flm), (0, .ref x), (1, .int p0), (2, .int p1)]) hx hb dX1_setPoints_46 rfl hl (by decide) rfl (fun ls hl => ?_)
          refine lv_aload_n hx hb dX1_setPoints_47 rfl (lv_at hl 1 rfl) ?_
          refine lv_iload_n hx hb dX1_setPoints_48 rfl (lv_at hl 2 rfl) ?_
          refine va_put (D := (dC, dI)) (ci := 1) (v := .int p0) (ty := .int) (C := RX1) (T := TX1) (N := 13) hx hb hts hinX1 tyX1 tyX1_ok nmX1 hown hK hP hD hS 0 rfl rfl 11 (by decide) (hts (.fieldLink RX1 43 "TileHand" "basePoints" "I") (by decide +kernel)) (fun _ h9 => h9) rfl (by decide +kernel) rfl rfl (Nat.le_of_ble_eq_true rfl) dX1_setPoints_49 (fun H locs hP hD hS => ?_)
          have hP : va_P (dC, dI) vwCl [(x, .inr (1, [.ref aH, .ref aL, .ref aS, .ref aO, .ref aK, .ref aZ, .ref cv, .int tcn, .int mcn, .int swd, .int rwd, .int p0, .int flm]))] H := hP
          have hD : va_D A [(x, .inr (1, [.ref aH, .ref aL, .ref aS, .ref aO, .ref aK, .ref aZ, .ref cv, .int tcn, .int mcn, .int swd, .int rwd, .int p0, .int flm]))] := hD
          refine lv_aload_n hx hb dX1_setPoints_52 rfl (lv_at hl 1 rfl) ?_
          refine lv_iload_n hx hb dX1_setPoints_53 rfl (lv_at hl 3 rfl) ?_
          refine va_put (D := (dC, dI)) (ci := 1) (v := .int p1) (ty := .int) (C := RX1) (T := TX1) (N := 13) hx hb hts hinX1 tyX1 tyX1_ok nmX1 hown hK hP hD hS 0 rfl rfl 12 (by decide) (hts (.fieldLink RX1 46 "TileHand" "fanLimit" "I") (by decide +kernel)) (fun _ h9 => h9) rfl (by decide +kernel) rfl rfl (Nat.le_of_ble_eq_true rfl) dX1_setPoints_54 (fun H locs hP hD hS => ?_)
          have hP : va_P (dC, dI) vwCl [(x, .inr (1, [.ref aH, .ref aL, .ref aS, .ref aO, .ref aK, .ref aZ, .ref cv, .int tcn, .int mcn, .int swd, .int rwd, .int p0, .int p1]))] H := hP
          have hD : va_D A [(x, .inr (1, [.ref aH, .ref aL, .ref aS, .ref aO, .ref aK, .ref aZ, .ref cv, .int tcn, .int mcn, .int swd, .int rwd, .int p0, .int p1]))] := hD
          refine lv_iload_n hx hb dX1_setPoints_57 rfl (lv_at hl 0 rfl) ?_
          rw [← hQ9]
          exact W.iret (v := flm) hx hb hr (fun t ht hW => ⟨⟨flm, (p0, p1), rfl, hw, by rw [ht]; exact hP, va_K.moved hW.alike hK, hD⟩, hS.F ht⟩) hS.2.2 dX1_setPoints_58
        · have hw := hw.2 c4
          exact L32 bpt flm _ _ _ hw hP hD hS (lv_sub hl [0] rfl)
    · have hw := hw.2 c2
      exact L11 bpt flm _ _ _ hw hP hD hS (lv_sub hl [0] rfl)

def w_X1_setPoints_x_b11 (px : String → Int32 → Int32 → Prop) (p0 : Int32) (p1 : Int32) (bpt : Int32) (flm : Int32) : Prop := px "java/lang/IllegalArgumentException" bpt flm

def w_X1_setPoints_x_b32 (px : String → Int32 → Int32 → Prop) (p0 : Int32) (p1 : Int32) (bpt : Int32) (flm : Int32) : Prop := px "java/lang/IllegalArgumentException" bpt flm

def w_X1_setPoints_x (bpt : Int32) (flm : Int32) (p0 : Int32) (p1 : Int32) (px : String → Int32 → Int32 → Prop) : Prop := ((p0 < (1 : Int32) → (w_X1_setPoints_x_b11 px p0 p1 bpt flm)) ∧ (¬ p0 < (1 : Int32) → (((p0 ≤ (100 : Int32) → (((p1 < (1 : Int32) → (w_X1_setPoints_x_b32 px p0 p1 bpt flm)) ∧ (¬ p1 < (1 : Int32) → (((p1 ≤ (13 : Int32) → (False)) ∧ (¬ p1 ≤ (13 : Int32) → (w_X1_setPoints_x_b32 px p0 p1 bpt flm)))))))) ∧ (¬ p0 ≤ (100 : Int32) → (w_X1_setPoints_x_b11 px p0 p1 bpt flm))))))

set_option maxHeartbeats 4000000 in
set_option maxRecDepth 100000 in
theorem c_X1_setPoints_x (l : Launch) (hl9 : l.stackTraces = false) (dC : Nat → ClassId) (dI : Nat → Nat → Nat) (cI cZ : ClassId) (x : Nat) (aH : Nat) (aL : Nat) (aS : Nat) (aO : Nat) (aK : Nat) (aZ : Nat) (cv : Nat) (sz : Nat) (tcn : Int32) (mcn : Int32) (swd : Int32) (rwd : Int32) (bpt : Int32) (flm : Int32) (p0 : Int32) (p1 : Int32) (px : String → Int32 → Int32 → Prop) (hw : w_X1_setPoints_x bpt flm p0 p1 px) : vx_Met l yX1_setPoints wsX1_setPoints ({ frames := 6, cells := 1, slots := 6, locals := 110 } : Room) (va_Pc [.ref x, .int p0, .int p1] (fun U => U.heap.size = sz ∧ va_P (dC, dI) vwCl [(x, .inr (1, [.ref aH, .ref aL, .ref aS, .ref aO, .ref aK, .ref aZ, .ref cv, .int tcn, .int mcn, .int swd, .int rwd, .int bpt, .int flm]))] U.heap ∧ va_K (dC, dI) vwCl [(cI, .int), (cZ, .boolean)] U ∧ va_D (fun _ => True) [(x, .inr (1, [.ref aH, .ref aL, .ref aS, .ref aO, .ref aK, .ref aZ, .ref cv, .int tcn, .int mcn, .int swd, .int rwd, .int bpt, .int flm]))] ∧ xk (va_A [(x, .inr (1, [.ref aH, .ref aL, .ref aS, .ref aO, .ref aK, .ref aZ, .ref cv, .int tcn, .int mcn, .int swd, .int rwd, .int bpt, .int flm]))] sz) U)) (va_Qi (fun (_ : Int32) (_ : Unit) => False) (fun _ _ => True) (va_A [(x, .inr (1, [.ref aH, .ref aL, .ref aS, .ref aO, .ref aK, .ref aZ, .ref cv, .int tcn, .int mcn, .int swd, .int rwd, .int bpt, .int flm]))] sz)) (vx_X (fun (u9 : String × Int32 × Int32) => px u9.1 u9.2.1 u9.2.2) (fun (E9 : String) (u9 : String × Int32 × Int32) (t9 : State) => E9 = u9.1 ∧ va_P (dC, dI) vwCl [(x, .inr (1, [.ref aH, .ref aL, .ref aS, .ref aO, .ref aK, .ref aZ, .ref cv, .int tcn, .int mcn, .int swd, .int rwd, .int u9.2.1, .int u9.2.2]))] t9.heap ∧ va_K (dC, dI) vwCl [(cI, .int), (cZ, .boolean)] t9 ∧ va_D (va_A [(x, .inr (1, [.ref aH, .ref aL, .ref aS, .ref aO, .ref aK, .ref aZ, .ref cv, .int tcn, .int mcn, .int swd, .int rwd, .int bpt, .int flm]))] sz) [(x, .inr (1, [.ref aH, .ref aL, .ref aS, .ref aO, .ref aK, .ref aZ, .ref cv, .int tcn, .int mcn, .int swd, .int rwd, .int u9.2.1, .int u9.2.2]))]) (va_A [(x, .inr (1, [.ref aH, .ref aL, .ref aS, .ref aO, .ref aK, .ref aZ, .ref cv, .int tcn, .int mcn, .int swd, .int rwd, .int bpt, .int flm]))] sz)) 1 6 (va_A [(x, .inr (1, [.ref aH, .ref aL, .ref aS, .ref aO, .ref aK, .ref aZ, .ref cv, .int tcn, .int mcn, .int swd, .int rwd, .int bpt, .int flm]))] sz) := by
  refine vx_ofW (cc := cX1_setPoints) (maxL := 4) (ret := (some .int)) (by decide) rfl ?_
  intro p e s m args below meth c s₁ B hml hEx hv
  obtain ⟨rfl, hsz, hP, hK, hD0, hxk⟩ := hv
  have hx := B.exec
  have hb := B.bytes
  have hr := B.returns
  have hts := atoms_spec (ws := wsX1_setPoints) B.pre
  have hown : s.vm.findClass RX1 = some m.cls := findClass_of_methodNamed B.named
  have hlocks := B.notSynchronized
  have hinX1 : ∀ w ∈ u_ws RX1 TX1 13, w ∈ wsX1_setPoints := by decide +kernel
  subst hsz
  have hD := hD0.self (sz := s.heap.size)
  generalize hAe : va_A [(x, .inr (1, [.ref aH, .ref aL, .ref aS, .ref aO, .ref aK, .ref aZ, .ref cv, .int tcn, .int mcn, .int swd, .int rwd, .int bpt, .int flm]))] s.heap.size = A at hD hxk ⊢
  have hA : ∀ q : Nat, s.heap.size ≤ q → A q := fun q h => by rw [← hAe]; exact Or.inr h
  have hS : va_S A s.heap s.heap [] := va_S.rf
  have hl := lv_entry ([.ref x, .int p0, .int p1]) (n := 4) (Nat.le_of_ble_eq_true rfl)
  rw [lg_entry_eq]
  generalize (lg_sl ([.ref x, .int p0, .int p1]) ++ List.replicate (4 - (lg_sl ([.ref x, .int p0, .int p1])).length) Slot.unset).toArray = ls at hl ⊢
  have hl : lv_has ls 4 [(0, .ref x), (1, .int p0), (2, .int p1)] := hl
  refine (?_ : ∀ Q9 : State → Prop, vx_MQ below _ _ _ s _ _ _ = Q9 → W p l e ({ frames := 6, cells := 1, slots := 6, locals := 110 } : Room) s m _ below meth c s.heap [] 0 0 Q9 (F0 m 0 ls [])) _ rfl
  intro Q9 hQ9
  have hw : ((p0 < (1 : Int32) → (w_X1_setPoints_x_b11 px p0 p1 bpt flm)) ∧ (¬ p0 < (1 : Int32) → (((p0 ≤ (100 : Int32) → (((p1 < (1 : Int32) → (w_X1_setPoints_x_b32 px p0 p1 bpt flm)) ∧ (¬ p1 < (1 : Int32) → (((p1 ≤ (13 : Int32) → (False)) ∧ (¬ p1 ≤ (13 : Int32) → (w_X1_setPoints_x_b32 px p0 p1 bpt flm)))))))) ∧ (¬ p0 ≤ (100 : Int32) → (w_X1_setPoints_x_b11 px p0 p1 bpt flm)))))) := hw
  have L11 : ∀ (bpt : Int32) (flm : Int32) (H : Heap) (locs : List Loc) (ls : Array Slot), w_X1_setPoints_x_b11 px p0 p1 bpt flm → va_P (dC, dI) vwCl [(x, .inr (1, [.ref aH, .ref aL, .ref aS, .ref aO, .ref aK, .ref aZ, .ref cv, .int tcn, .int mcn, .int swd, .int rwd, .int bpt, .int flm]))] H → va_D A [(x, .inr (1, [.ref aH, .ref aL, .ref aS, .ref aO, .ref aK, .ref aZ, .ref cv, .int tcn, .int mcn, .int swd, .int rwd, .int bpt, .int flm]))] → va_S A s.heap H locs → lv_has ls 4 [(0, .ref x)] → W p l e ({ frames := 6, cells := 1, slots := 6, locals := 110 } : Room) s m ([.ref x, .int p0, .int p1] : List Value).toArray below meth c H locs 0 0 Q9 (F0 m 11 ls []) := by
    intro bpt flm H locs ls hw hP hD hS hl
    obtain ⟨sa9, hstr9⟩ := xk_s161 hxk
    rw [← hQ9]
    exact vx_throwS (own := RX1) (cls := "java/lang/IllegalArgumentException") (text := "a base is 1 to 100") (names := ["java/lang/RuntimeException", "java/lang/Exception"]) (A := A) hx hb hl9 hown (by decide +kernel) (by decide +kernel) (hts (.classLink RX1 78 "java/lang/IllegalArgumentException") (by decide +kernel)) (hts (.initialized "java/lang/IllegalArgumentException") (by decide +kernel)) hstr9 (vx_hat (L := vx_atS RX1 82 "java/lang/IllegalArgumentException" ["java/lang/RuntimeException", "java/lang/Exception"]) (B := [.castable "java/lang/IllegalArgumentException" "java/lang/IllegalArgumentException", .declares ⟨"java/lang/RuntimeException", "<init>", "(Ljava/lang/String;)V"⟩, .declares ⟨"java/lang/Exception", "<init>", "(Ljava/lang/String;)V"⟩, .declares ⟨"java/lang/Throwable", "<init>", "(Ljava/lang/String;)V"⟩]) (fun w hw => hts w ((by decide +kernel : ∀ w ∈ (vx_atS RX1 82 "java/lang/IllegalArgumentException" ["java/lang/RuntimeException", "java/lang/Exception"]).filter goodWord, w ∈ wsX1_setPoints) w hw)) (by decide +kernel) (vx_c (va_Nw.use rfl (xk_c2 hxk)) (vx_c (va_Nw.use rfl (xk_d1 hxk)) (vx_c (va_Nw.use rfl (xk_d2 hxk)) (vx_c (va_Nw.use rfl (xk_d3 hxk)) vx_n))))) (by decide +kernel) (xk_U hxk) (xk_N hxk) hS (hl.1.trans hml.symm) dX1_setPoints_11 dX1_setPoints_14 dX1_setPoints_15 dX1_setPoints_17 dX1_setPoints_20 (fun x hx => (hEx x hx).elim) (Nat.le_of_ble_eq_true rfl) (Nat.le_of_ble_eq_true rfl) (Nat.le_of_ble_eq_true rfl) (Nat.le_of_ble_eq_true rfl) hlocks (fun t ha hz hq => ⟨("java/lang/IllegalArgumentException", bpt, flm), hw, ⟨rfl, xt_P hP hq, va_K.moved ha hK, hD⟩, xt_F hS hz hq⟩) hS.2.2 (Nat.le_of_ble_eq_true rfl) (Nat.le_of_ble_eq_true rfl)
  have L32 : ∀ (bpt : Int32) (flm : Int32) (H : Heap) (locs : List Loc) (ls : Array Slot), w_X1_setPoints_x_b32 px p0 p1 bpt flm → va_P (dC, dI) vwCl [(x, .inr (1, [.ref aH, .ref aL, .ref aS, .ref aO, .ref aK, .ref aZ, .ref cv, .int tcn, .int mcn, .int swd, .int rwd, .int bpt, .int flm]))] H → va_D A [(x, .inr (1, [.ref aH, .ref aL, .ref aS, .ref aO, .ref aK, .ref aZ, .ref cv, .int tcn, .int mcn, .int swd, .int rwd, .int bpt, .int flm]))] → va_S A s.heap H locs → lv_has ls 4 [(0, .ref x)] → W p l e ({ frames := 6, cells := 1, slots := 6, locals := 110 } : Room) s m ([.ref x, .int p0, .int p1] : List Value).toArray below meth c H locs 0 0 Q9 (F0 m 32 ls []) := by
    intro bpt flm H locs ls hw hP hD hS hl
    obtain ⟨sa9, hstr9⟩ := xk_s163 hxk
    rw [← hQ9]
    exact vx_throwS (own := RX1) (cls := "java/lang/IllegalArgumentException") (text := "a limit is 1 to 13") (names := ["java/lang/RuntimeException", "java/lang/Exception"]) (A := A) hx hb hl9 hown (by decide +kernel) (by decide +kernel) (hts (.classLink RX1 78 "java/lang/IllegalArgumentException") (by decide +kernel)) (hts (.initialized "java/lang/IllegalArgumentException") (by decide +kernel)) hstr9 (vx_hat (L := vx_atS RX1 82 "java/lang/IllegalArgumentException" ["java/lang/RuntimeException", "java/lang/Exception"]) (B := [.castable "java/lang/IllegalArgumentException" "java/lang/IllegalArgumentException", .declares ⟨"java/lang/RuntimeException", "<init>", "(Ljava/lang/String;)V"⟩, .declares ⟨"java/lang/Exception", "<init>", "(Ljava/lang/String;)V"⟩, .declares ⟨"java/lang/Throwable", "<init>", "(Ljava/lang/String;)V"⟩]) (fun w hw => hts w ((by decide +kernel : ∀ w ∈ (vx_atS RX1 82 "java/lang/IllegalArgumentException" ["java/lang/RuntimeException", "java/lang/Exception"]).filter goodWord, w ∈ wsX1_setPoints) w hw)) (by decide +kernel) (vx_c (va_Nw.use rfl (xk_c2 hxk)) (vx_c (va_Nw.use rfl (xk_d1 hxk)) (vx_c (va_Nw.use rfl (xk_d2 hxk)) (vx_c (va_Nw.use rfl (xk_d3 hxk)) vx_n))))) (by decide +kernel) (xk_U hxk) (xk_N hxk) hS (hl.1.trans hml.symm) dX1_setPoints_32 dX1_setPoints_35 dX1_setPoints_36 dX1_setPoints_38 dX1_setPoints_41 (fun x hx => (hEx x hx).elim) (Nat.le_of_ble_eq_true rfl) (Nat.le_of_ble_eq_true rfl) (Nat.le_of_ble_eq_true rfl) (Nat.le_of_ble_eq_true rfl) hlocks (fun t ha hz hq => ⟨("java/lang/IllegalArgumentException", bpt, flm), hw, ⟨rfl, xt_P hP hq, va_K.moved ha hK, hD⟩, xt_F hS hz hq⟩) hS.2.2 (Nat.le_of_ble_eq_true rfl) (Nat.le_of_ble_eq_true rfl)
  refine lv_iload_n hx hb dX1_setPoints_0 rfl (lv_at hl 1 rfl) ?_
  refine lv_iconst (v := 1) hx hb dX1_setPoints_1 (by decide) ?_
  refine lv_icmp_lt (tgt := 11) hx hb dX1_setPoints_2 (by decide) (fun c1 => ?_) (fun c1 => ?_)
  · have hw := hw.1 c1
    exact L11 bpt flm _ _ _ hw hP hD hS (lv_sub hl [0] rfl)
  · have hw := hw.2 c1
    refine lv_iload_n hx hb dX1_setPoints_5 rfl (lv_at hl 1 rfl) ?_
    refine lv_bipush (v := 100) hx hb dX1_setPoints_6 (by decide) ?_
    refine lv_icmp_le (tgt := 21) hx hb dX1_setPoints_8 (by decide) (fun c2 => ?_) (fun c2 => ?_)
    · have hw := hw.1 c2
      refine lv_iload_n hx hb dX1_setPoints_21 rfl (lv_at hl 2 rfl) ?_
      refine lv_iconst (v := 1) hx hb dX1_setPoints_22 (by decide) ?_
      refine lv_icmp_lt (tgt := 32) hx hb dX1_setPoints_23 (by decide) (fun c3 => ?_) (fun c3 => ?_)
      · have hw := hw.1 c3
        exact L32 bpt flm _ _ _ hw hP hD hS (lv_sub hl [0] rfl)
      · have hw := hw.2 c3
        refine lv_iload_n hx hb dX1_setPoints_26 rfl (lv_at hl 2 rfl) ?_
        refine lv_bipush (v := 13) hx hb dX1_setPoints_27 (by decide) ?_
        refine lv_icmp_le (tgt := 42) hx hb dX1_setPoints_29 (by decide) (fun c4 => ?_) (fun c4 => ?_)
        · have hw := hw.1 c4
          refine lv_aload_n hx hb dX1_setPoints_42 rfl (lv_at hl 0 rfl) ?_
          refine va_get (D := (dC, dI)) (ci := 1) (v := .int flm) (C := RX1) (T := TX1) (N := 13) hx hb hts hinX1 hown hK hP 0 rfl rfl 12 (by decide) (hts (.fieldLink RX1 46 "TileHand" "fanLimit" "I") (by decide +kernel)) (fun _ h9 => h9) rfl dX1_setPoints_43 ?_
          refine lv_istore_n (lv' := [(3, .int flm), (0, .ref x), (1, .int p0), (2, .int p1)]) hx hb dX1_setPoints_46 rfl hl (by decide) rfl (fun ls hl => ?_)
          refine lv_aload_n hx hb dX1_setPoints_47 rfl (lv_at hl 1 rfl) ?_
          refine lv_iload_n hx hb dX1_setPoints_48 rfl (lv_at hl 2 rfl) ?_
          refine va_put (D := (dC, dI)) (ci := 1) (v := .int p0) (ty := .int) (C := RX1) (T := TX1) (N := 13) hx hb hts hinX1 tyX1 tyX1_ok nmX1 hown hK hP hD hS 0 rfl rfl 11 (by decide) (hts (.fieldLink RX1 43 "TileHand" "basePoints" "I") (by decide +kernel)) (fun _ h9 => h9) rfl (by decide +kernel) rfl rfl (Nat.le_of_ble_eq_true rfl) dX1_setPoints_49 (fun H locs hP hD hS => ?_)
          have hP : va_P (dC, dI) vwCl [(x, .inr (1, [.ref aH, .ref aL, .ref aS, .ref aO, .ref aK, .ref aZ, .ref cv, .int tcn, .int mcn, .int swd, .int rwd, .int p0, .int flm]))] H := hP
          have hD : va_D A [(x, .inr (1, [.ref aH, .ref aL, .ref aS, .ref aO, .ref aK, .ref aZ, .ref cv, .int tcn, .int mcn, .int swd, .int rwd, .int p0, .int flm]))] := hD
          refine lv_aload_n hx hb dX1_setPoints_52 rfl (lv_at hl 1 rfl) ?_
          refine lv_iload_n hx hb dX1_setPoints_53 rfl (lv_at hl 3 rfl) ?_
          refine va_put (D := (dC, dI)) (ci := 1) (v := .int p1) (ty := .int) (C := RX1) (T := TX1) (N := 13) hx hb hts hinX1 tyX1 tyX1_ok nmX1 hown hK hP hD hS 0 rfl rfl 12 (by decide) (hts (.fieldLink RX1 46 "TileHand" "fanLimit" "I") (by decide +kernel)) (fun _ h9 => h9) rfl (by decide +kernel) rfl rfl (Nat.le_of_ble_eq_true rfl) dX1_setPoints_54 (fun H locs hP hD hS => ?_)
          have hP : va_P (dC, dI) vwCl [(x, .inr (1, [.ref aH, .ref aL, .ref aS, .ref aO, .ref aK, .ref aZ, .ref cv, .int tcn, .int mcn, .int swd, .int rwd, .int p0, .int p1]))] H := hP
          have hD : va_D A [(x, .inr (1, [.ref aH, .ref aL, .ref aS, .ref aO, .ref aK, .ref aZ, .ref cv, .int tcn, .int mcn, .int swd, .int rwd, .int p0, .int p1]))] := hD
          refine lv_iload_n hx hb dX1_setPoints_57 rfl (lv_at hl 0 rfl) ?_
          exact False.elim hw
        · have hw := hw.2 c4
          exact L32 bpt flm _ _ _ hw hP hD hS (lv_sub hl [0] rfl)
    · have hw := hw.2 c2
      exact L11 bpt flm _ _ _ hw hP hD hS (lv_sub hl [0] rfl)

def w_X1_hasOpenMeld_b2 (post : Int32 → Prop) (mcn : Int32) (op : (Nat → Int32)) : Nat → Int32 → Prop
  | 0, _ => False
  | n + 1, v1 => ((mcn ≤ v1 → (post (0 : Int32))) ∧ (¬ mcn ≤ v1 → ((((4 : Int32) ≤ v1 → (post (0 : Int32))) ∧ (¬ (4 : Int32) ≤ v1 → (vp_in v1 4 ∧ ((((op v1.toNatClampNeg) = 0 → (w_X1_hasOpenMeld_b2 post mcn op n (v1 + 1))) ∧ (¬ (op v1.toNatClampNeg) = 0 → (post (1 : Int32)))))))))))

def w_X1_hasOpenMeld (mcn : Int32) (op : (Nat → Int32)) (post : Int32 → Prop) : Prop := ∃ n9, w_X1_hasOpenMeld_b2 post mcn op n9 (0 : Int32)

set_option maxHeartbeats 4000000 in
set_option maxRecDepth 100000 in
theorem c_X1_hasOpenMeld (l : Launch) (dC : Nat → ClassId) (dI : Nat → Nat → Nat) (cI cZ : ClassId) (x : Nat) (aH : Nat) (aL : Nat) (aS : Nat) (aO : Nat) (aK : Nat) (aZ : Nat) (cv : Nat) (sz : Nat) (tcn : Int32) (mcn : Int32) (swd : Int32) (rwd : Int32) (bpt : Int32) (flm : Int32) (op : (Nat → Int32)) (post : Int32 → Prop) (hw : w_X1_hasOpenMeld mcn op post) : Met l yX1_hasOpenMeld wsX1_hasOpenMeld ({ frames := 0, cells := 0, slots := 0, locals := 0 } : Room) (va_Pc [.ref x] (fun U => U.heap.size = sz ∧ va_P (dC, dI) vwCl [(x, .inr (1, [.ref aH, .ref aL, .ref aS, .ref aO, .ref aK, .ref aZ, .ref cv, .int tcn, .int mcn, .int swd, .int rwd, .int bpt, .int flm])), (aZ, .inl (cZ, 4, .inl op))] U.heap ∧ va_K (dC, dI) vwCl [(cI, .int), (cZ, .boolean)] U ∧ va_D (fun _ => True) [(x, .inr (1, [.ref aH, .ref aL, .ref aS, .ref aO, .ref aK, .ref aZ, .ref cv, .int tcn, .int mcn, .int swd, .int rwd, .int bpt, .int flm])), (aZ, .inl (cZ, 4, .inl op))])) (va_Qi (fun (r9 : Int32) (u9 : Unit) => post r9) (fun (u9 : Unit) (t9 : State) => va_P (dC, dI) vwCl [(x, .inr (1, [.ref aH, .ref aL, .ref aS, .ref aO, .ref aK, .ref aZ, .ref cv, .int tcn, .int mcn, .int swd, .int rwd, .int bpt, .int flm])), (aZ, .inl (cZ, 4, .inl op))] t9.heap ∧ va_K (dC, dI) vwCl [(cI, .int), (cZ, .boolean)] t9 ∧ va_D (va_A [(x, .inr (1, [.ref aH, .ref aL, .ref aS, .ref aO, .ref aK, .ref aZ, .ref cv, .int tcn, .int mcn, .int swd, .int rwd, .int bpt, .int flm])), (aZ, .inl (cZ, 4, .inl op))] sz) [(x, .inr (1, [.ref aH, .ref aL, .ref aS, .ref aO, .ref aK, .ref aZ, .ref cv, .int tcn, .int mcn, .int swd, .int rwd, .int bpt, .int flm])), (aZ, .inl (cZ, 4, .inl op))]) (va_A [(x, .inr (1, [.ref aH, .ref aL, .ref aS, .ref aO, .ref aK, .ref aZ, .ref cv, .int tcn, .int mcn, .int swd, .int rwd, .int bpt, .int flm])), (aZ, .inl (cZ, 4, .inl op))] sz)) 0 0 (va_A [(x, .inr (1, [.ref aH, .ref aL, .ref aS, .ref aO, .ref aK, .ref aZ, .ref cv, .int tcn, .int mcn, .int swd, .int rwd, .int bpt, .int flm])), (aZ, .inl (cZ, 4, .inl op))] sz) := by
  refine Met.ofW (cc := cX1_hasOpenMeld) (maxL := 2) (ret := (some .boolean)) (by decide) rfl ?_
  intro p e s m args below meth c s₁ B hml hv
  obtain ⟨rfl, hsz, hP, hK, hD0⟩ := hv
  have hx := B.exec
  have hb := B.bytes
  have hr := B.returns
  have hts := atoms_spec (ws := wsX1_hasOpenMeld) B.pre
  have hown : s.vm.findClass RX1 = some m.cls := findClass_of_methodNamed B.named
  have hlocks := B.notSynchronized
  have hinX1 : ∀ w ∈ u_ws RX1 TX1 13, w ∈ wsX1_hasOpenMeld := by decide +kernel
  subst hsz
  have hD := hD0.self (sz := s.heap.size)
  generalize hAe : va_A [(x, .inr (1, [.ref aH, .ref aL, .ref aS, .ref aO, .ref aK, .ref aZ, .ref cv, .int tcn, .int mcn, .int swd, .int rwd, .int bpt, .int flm])), (aZ, .inl (cZ, 4, .inl op))] s.heap.size = A at hD ⊢
  have hA : ∀ q : Nat, s.heap.size ≤ q → A q := fun q h => by rw [← hAe]; exact Or.inr h
  have hS : va_S A s.heap s.heap [] := va_S.rf
  have hl := lv_entry ([.ref x]) (n := 2) (Nat.le_of_ble_eq_true rfl)
  rw [lg_entry_eq]
  generalize (lg_sl ([.ref x]) ++ List.replicate (2 - (lg_sl ([.ref x])).length) Slot.unset).toArray = ls at hl ⊢
  have hl : lv_has ls 2 [(0, .ref x)] := hl
  refine (?_ : ∀ Q9 : State → Prop, MQ below _ _ s _ _ _ = Q9 → W p l e ({ frames := 0, cells := 0, slots := 0, locals := 0 } : Room) s m _ below meth c s.heap [] 0 0 Q9 (F0 m 0 ls [])) _ rfl
  intro Q9 hQ9
  have hw : ∃ n9, w_X1_hasOpenMeld_b2 post mcn op n9 (0 : Int32) := hw
  have L2 : ∀ (n : Nat), ∀ (v1 : Int32) (H : Heap) (locs : List Loc) (ls : Array Slot), w_X1_hasOpenMeld_b2 post mcn op n v1 → va_P (dC, dI) vwCl [(x, .inr (1, [.ref aH, .ref aL, .ref aS, .ref aO, .ref aK, .ref aZ, .ref cv, .int tcn, .int mcn, .int swd, .int rwd, .int bpt, .int flm])), (aZ, .inl (cZ, 4, .inl op))] H → va_D A [(x, .inr (1, [.ref aH, .ref aL, .ref aS, .ref aO, .ref aK, .ref aZ, .ref cv, .int tcn, .int mcn, .int swd, .int rwd, .int bpt, .int flm])), (aZ, .inl (cZ, 4, .inl op))] → va_S A s.heap H locs → lv_has ls 2 [(0, .ref x), (1, .int v1)] → W p l e ({ frames := 0, cells := 0, slots := 0, locals := 0 } : Room) s m ([.ref x] : List Value).toArray below meth c H locs 0 0 Q9 (F0 m 2 ls []) := by
    intro n
    induction n with
    | zero => intro v1 H locs ls hw _ _ _ _; exact False.elim hw
    | succ n ih =>
      intro v1 H locs ls hw hP hD hS hl
      refine lv_iload_n hx hb dX1_hasOpenMeld_2 rfl (lv_at hl 1 rfl) ?_
      refine lv_aload_n hx hb dX1_hasOpenMeld_3 rfl (lv_at hl 0 rfl) ?_
      refine va_get (D := (dC, dI)) (ci := 1) (v := .int mcn) (C := RX1) (T := TX1) (N := 13) hx hb hts hinX1 hown hK hP 0 rfl rfl 8 (by decide) (hts (.fieldLink RX1 89 "TileHand" "meldCount" "I") (by decide +kernel)) (fun _ h9 => h9) rfl dX1_hasOpenMeld_4 ?_
      refine lv_icmp_ge (tgt := 32) hx hb dX1_hasOpenMeld_7 (by decide) (fun c1 => ?_) (fun c1 => ?_)
      · have hw := hw.1 c1
        refine lv_iconst (v := 0) hx hb dX1_hasOpenMeld_32 (by decide) ?_
        rw [← hQ9]
        exact W.zret (v := (0 : Int32)) hx hb hr rfl (fun t ht hW => ⟨⟨(0 : Int32), (), rfl, hw, by rw [ht]; exact hP, va_K.moved hW.alike hK, hD⟩, hS.F ht⟩) hS.2.2 dX1_hasOpenMeld_33
      · have hw := hw.2 c1
        refine lv_iload_n hx hb dX1_hasOpenMeld_10 rfl (lv_at hl 1 rfl) ?_
        refine lv_iconst (v := 4) hx hb dX1_hasOpenMeld_11 (by decide) ?_
        refine lv_icmp_ge (tgt := 32) hx hb dX1_hasOpenMeld_12 (by decide) (fun c2 => ?_) (fun c2 => ?_)
        · have hw := hw.1 c2
          refine lv_iconst (v := 0) hx hb dX1_hasOpenMeld_32 (by decide) ?_
          rw [← hQ9]
          exact W.zret (v := (0 : Int32)) hx hb hr rfl (fun t ht hW => ⟨⟨(0 : Int32), (), rfl, hw, by rw [ht]; exact hP, va_K.moved hW.alike hK, hD⟩, hS.F ht⟩) hS.2.2 dX1_hasOpenMeld_33
        · have hw := hw.2 c2
          refine lv_aload_n hx hb dX1_hasOpenMeld_15 rfl (lv_at hl 0 rfl) ?_
          refine va_get (D := (dC, dI)) (ci := 1) (v := .ref aZ) (C := RX1) (T := TX1) (N := 13) hx hb hts hinX1 hown hK hP 0 rfl rfl 5 (by decide) (hts (.fieldLink RX1 25 "TileHand" "meldOpen" "[Z") (by decide +kernel)) (fun _ h9 => h9) rfl dX1_hasOpenMeld_16 ?_
          refine lv_iload_n hx hb dX1_hasOpenMeld_19 rfl (lv_at hl 1 rfl) ?_
          obtain ⟨h3, hw⟩ := hw
          refine va_zald hx hb hK hP 1 1 rfl rfl h3 dX1_hasOpenMeld_20 ?_
          refine lv_if_eq (tgt := 26) hx hb dX1_hasOpenMeld_21 (by decide) (fun c4 => ?_) (fun c4 => ?_)
          · have hw := hw.1 c4
            refine lv_iinc (v := v1 + 1) (lv' := [(1, .int (v1 + 1)), (0, .ref x)]) hx hb dX1_hasOpenMeld_26 hl (k := 1) rfl rfl (by decide) rfl (fun ls hl => ?_)
            refine lv_goto (tgt := 2) hx hb dX1_hasOpenMeld_29 (by decide) ?_
            exact ih (v1 + 1) _ _ _ hw hP hD hS (lv_sub hl [1, 0] rfl)
          · have hw := hw.2 c4
            refine lv_iconst (v := 1) hx hb dX1_hasOpenMeld_24 (by decide) ?_
            rw [← hQ9]
            exact W.zret (v := (1 : Int32)) hx hb hr rfl (fun t ht hW => ⟨⟨(1 : Int32), (), rfl, hw, by rw [ht]; exact hP, va_K.moved hW.alike hK, hD⟩, hS.F ht⟩) hS.2.2 dX1_hasOpenMeld_25
  refine lv_iconst (v := 0) hx hb dX1_hasOpenMeld_0 (by decide) ?_
  refine lv_istore_n (lv' := [(1, .int (0 : Int32)), (0, .ref x)]) hx hb dX1_hasOpenMeld_1 rfl hl (by decide) rfl (fun ls hl => ?_)
  obtain ⟨n9, hw⟩ := hw
  exact L2 n9 (0 : Int32) _ _ _ hw hP hD hS (lv_sub hl [1, 0] rfl)

def w_J6_bitCount_0f7a4 (p0 : Int32) (post : Int32 → Prop) : Prop := ∀ t1 : Int32, t1 = p0 - (((p0.toUInt32 >>> ((1 : Int32).toUInt32 &&& Int32.toUInt32 31)).toInt32) &&& (1431655765 : Int32)) → (∀ t2 : Int32, t2 = (t1 &&& (858993459 : Int32)) + (((t1.toUInt32 >>> ((2 : Int32).toUInt32 &&& Int32.toUInt32 31)).toInt32) &&& (858993459 : Int32)) → (∀ t3 : Int32, t3 = (t2 + ((t2.toUInt32 >>> ((4 : Int32).toUInt32 &&& Int32.toUInt32 31)).toInt32)) &&& (252645135 : Int32) → (∀ t4 : Int32, t4 = t3 + ((t3.toUInt32 >>> ((8 : Int32).toUInt32 &&& Int32.toUInt32 31)).toInt32) → (∀ t5 : Int32, t5 = t4 + ((t4.toUInt32 >>> ((16 : Int32).toUInt32 &&& Int32.toUInt32 31)).toInt32) → (post (t5 &&& (63 : Int32)))))))

set_option maxHeartbeats 4000000 in
set_option maxRecDepth 100000 in
theorem c_J6_bitCount_0f7a4 (l : Launch) (dC : Nat → ClassId) (dI : Nat → Nat → Nat) (cI cZ : ClassId) (sz : Nat) (p0 : Int32) (post : Int32 → Prop) (hw : w_J6_bitCount_0f7a4 p0 post) : Met l yJ6_bitCount_0f7a4 wsJ6_bitCount_0f7a4 ({ frames := 0, cells := 0, slots := 0, locals := 0 } : Room) (va_Pc [.int p0] (fun U => U.heap.size = sz ∧ va_P (dC, dI) vwCl [] U.heap ∧ va_K (dC, dI) vwCl [(cI, .int), (cZ, .boolean)] U ∧ va_D (fun _ => True) [])) (va_Qi (fun (r9 : Int32) (u9 : Unit) => post r9) (fun (u9 : Unit) (t9 : State) => va_P (dC, dI) vwCl [] t9.heap ∧ va_K (dC, dI) vwCl [(cI, .int), (cZ, .boolean)] t9 ∧ va_D (va_A [] sz) []) (va_A [] sz)) 0 0 (va_A [] sz) := by
  refine Met.ofW (cc := cJ6_bitCount_0f7a4) (maxL := 1) (ret := (some .int)) (by decide) rfl ?_
  intro p e s m args below meth c s₁ B hml hv
  obtain ⟨rfl, hsz, hP, hK, hD0⟩ := hv
  have hx := B.exec
  have hb := B.bytes
  have hr := B.returns
  have hts := atoms_spec (ws := wsJ6_bitCount_0f7a4) B.pre
  have hown : s.vm.findClass RJ6 = some m.cls := findClass_of_methodNamed B.named
  have hlocks := B.notSynchronized
  subst hsz
  have hD := hD0.self (sz := s.heap.size)
  generalize hAe : va_A [] s.heap.size = A at hD ⊢
  have hA : ∀ q : Nat, s.heap.size ≤ q → A q := fun q h => by rw [← hAe]; exact Or.inr h
  have hS : va_S A s.heap s.heap [] := va_S.rf
  have hl := lv_entry ([.int p0]) (n := 1) (Nat.le_of_ble_eq_true rfl)
  rw [lg_entry_eq]
  generalize (lg_sl ([.int p0]) ++ List.replicate (1 - (lg_sl ([.int p0])).length) Slot.unset).toArray = ls at hl ⊢
  have hl : lv_has ls 1 [(0, .int p0)] := hl
  refine (?_ : ∀ Q9 : State → Prop, MQ below _ _ s _ _ _ = Q9 → W p l e ({ frames := 0, cells := 0, slots := 0, locals := 0 } : Room) s m _ below meth c s.heap [] 0 0 Q9 (F0 m 0 ls [])) _ rfl
  intro Q9 hQ9
  have hw : ∀ t1 : Int32, t1 = p0 - (((p0.toUInt32 >>> ((1 : Int32).toUInt32 &&& Int32.toUInt32 31)).toInt32) &&& (1431655765 : Int32)) → (∀ t2 : Int32, t2 = (t1 &&& (858993459 : Int32)) + (((t1.toUInt32 >>> ((2 : Int32).toUInt32 &&& Int32.toUInt32 31)).toInt32) &&& (858993459 : Int32)) → (∀ t3 : Int32, t3 = (t2 + ((t2.toUInt32 >>> ((4 : Int32).toUInt32 &&& Int32.toUInt32 31)).toInt32)) &&& (252645135 : Int32) → (∀ t4 : Int32, t4 = t3 + ((t3.toUInt32 >>> ((8 : Int32).toUInt32 &&& Int32.toUInt32 31)).toInt32) → (∀ t5 : Int32, t5 = t4 + ((t4.toUInt32 >>> ((16 : Int32).toUInt32 &&& Int32.toUInt32 31)).toInt32) → (post (t5 &&& (63 : Int32))))))) := hw
  refine lv_iload_n hx hb dJ6_bitCount_0f7a4_0 rfl (lv_at hl 0 rfl) ?_
  refine lv_iload_n hx hb dJ6_bitCount_0f7a4_1 rfl (lv_at hl 0 rfl) ?_
  refine lv_iconst (v := 1) hx hb dJ6_bitCount_0f7a4_2 (by decide) ?_
  refine lv_iushr (v := (p0.toUInt32 >>> ((1 : Int32).toUInt32 &&& Int32.toUInt32 31)).toInt32) hx hb dJ6_bitCount_0f7a4_3 rfl ?_
  refine lv_ldcw (v := 1431655765) hx hb hown (hts (.constant RJ6 265 1431655765) (by decide +kernel)) dJ6_bitCount_0f7a4_4 ?_
  refine lv_iand hx hb dJ6_bitCount_0f7a4_7 ?_
  refine lv_isub hx hb dJ6_bitCount_0f7a4_8 ?_
  refine lv_topi (fun t1 et1 => ?_)
  have hw := hw t1 et1
  refine lv_istore_n (lv' := [(0, .int t1)]) hx hb dJ6_bitCount_0f7a4_9 rfl hl (by decide) rfl (fun ls hl => ?_)
  refine lv_iload_n hx hb dJ6_bitCount_0f7a4_10 rfl (lv_at hl 0 rfl) ?_
  refine lv_ldcw (v := 858993459) hx hb hown (hts (.constant RJ6 266 858993459) (by decide +kernel)) dJ6_bitCount_0f7a4_11 ?_
  refine lv_iand hx hb dJ6_bitCount_0f7a4_14 ?_
  refine lv_iload_n hx hb dJ6_bitCount_0f7a4_15 rfl (lv_at hl 0 rfl) ?_
  refine lv_iconst (v := 2) hx hb dJ6_bitCount_0f7a4_16 (by decide) ?_
  refine lv_iushr (v := (t1.toUInt32 >>> ((2 : Int32).toUInt32 &&& Int32.toUInt32 31)).toInt32) hx hb dJ6_bitCount_0f7a4_17 rfl ?_
  refine lv_ldcw (v := 858993459) hx hb hown (hts (.constant RJ6 266 858993459) (by decide +kernel)) dJ6_bitCount_0f7a4_18 ?_
  refine lv_iand hx hb dJ6_bitCount_0f7a4_21 ?_
  refine lv_iadd hx hb dJ6_bitCount_0f7a4_22 ?_
  refine lv_topi (fun t2 et2 => ?_)
  have hw := hw t2 et2
  refine lv_istore_n (lv' := [(0, .int t2)]) hx hb dJ6_bitCount_0f7a4_23 rfl hl (by decide) rfl (fun ls hl => ?_)
  refine lv_iload_n hx hb dJ6_bitCount_0f7a4_24 rfl (lv_at hl 0 rfl) ?_
  refine lv_iload_n hx hb dJ6_bitCount_0f7a4_25 rfl (lv_at hl 0 rfl) ?_
  refine lv_iconst (v := 4) hx hb dJ6_bitCount_0f7a4_26 (by decide) ?_
  refine lv_iushr (v := (t2.toUInt32 >>> ((4 : Int32).toUInt32 &&& Int32.toUInt32 31)).toInt32) hx hb dJ6_bitCount_0f7a4_27 rfl ?_
  refine lv_iadd hx hb dJ6_bitCount_0f7a4_28 ?_
  refine lv_ldcw (v := 252645135) hx hb hown (hts (.constant RJ6 267 252645135) (by decide +kernel)) dJ6_bitCount_0f7a4_29 ?_
  refine lv_iand hx hb dJ6_bitCount_0f7a4_32 ?_
  refine lv_topi (fun t3 et3 => ?_)
  have hw := hw t3 et3
  refine lv_istore_n (lv' := [(0, .int t3)]) hx hb dJ6_bitCount_0f7a4_33 rfl hl (by decide) rfl (fun ls hl => ?_)
  refine lv_iload_n hx hb dJ6_bitCount_0f7a4_34 rfl (lv_at hl 0 rfl) ?_
  refine lv_iload_n hx hb dJ6_bitCount_0f7a4_35 rfl (lv_at hl 0 rfl) ?_
  refine lv_bipush (v := 8) hx hb dJ6_bitCount_0f7a4_36 (by decide) ?_
  refine lv_iushr (v := (t3.toUInt32 >>> ((8 : Int32).toUInt32 &&& Int32.toUInt32 31)).toInt32) hx hb dJ6_bitCount_0f7a4_38 rfl ?_
  refine lv_iadd hx hb dJ6_bitCount_0f7a4_39 ?_
  refine lv_topi (fun t4 et4 => ?_)
  have hw := hw t4 et4
  refine lv_istore_n (lv' := [(0, .int t4)]) hx hb dJ6_bitCount_0f7a4_40 rfl hl (by decide) rfl (fun ls hl => ?_)
  refine lv_iload_n hx hb dJ6_bitCount_0f7a4_41 rfl (lv_at hl 0 rfl) ?_
  refine lv_iload_n hx hb dJ6_bitCount_0f7a4_42 rfl (lv_at hl 0 rfl) ?_
  refine lv_bipush (v := 16) hx hb dJ6_bitCount_0f7a4_43 (by decide) ?_
  refine lv_iushr (v := (t4.toUInt32 >>> ((16 : Int32).toUInt32 &&& Int32.toUInt32 31)).toInt32) hx hb dJ6_bitCount_0f7a4_45 rfl ?_
  refine lv_iadd hx hb dJ6_bitCount_0f7a4_46 ?_
  refine lv_topi (fun t5 et5 => ?_)
  have hw := hw t5 et5
  refine lv_istore_n (lv' := [(0, .int t5)]) hx hb dJ6_bitCount_0f7a4_47 rfl hl (by decide) rfl (fun ls hl => ?_)
  refine lv_iload_n hx hb dJ6_bitCount_0f7a4_48 rfl (lv_at hl 0 rfl) ?_
  refine lv_bipush (v := 63) hx hb dJ6_bitCount_0f7a4_49 (by decide) ?_
  refine lv_iand hx hb dJ6_bitCount_0f7a4_51 ?_
  rw [← hQ9]
  exact W.iret (v := t5 &&& (63 : Int32)) hx hb hr (fun t ht hW => ⟨⟨t5 &&& (63 : Int32), (), rfl, hw, by rw [ht]; exact hP, va_K.moved hW.alike hK, hD⟩, hS.F ht⟩) hS.2.2 dJ6_bitCount_0f7a4_52

def w_X1_tileFans_b94 (post : Int32 → Prop) (hd : (Nat → Int32)) (la : (Nat → Int32)) (v1 : Int32) (v3 : Int32) (s1 : Int32) : Prop := ((v3 = 0 → (post (s1 + 6))) ∧ (¬ v3 = 0 → (w_J6_bitCount_0f7a4 v3 (fun r4 => (((r4 = (1 : Int32) → (((v1 = 0 → (post (s1 + (6 : Int32)))) ∧ (¬ v1 = 0 → (post (s1 + (3 : Int32))))))) ∧ (¬ r4 = (1 : Int32) → (post s1))))))))

def w_X1_tileFans_b89 (post : Int32 → Prop) (hd : (Nat → Int32)) (la : (Nat → Int32)) (v1 : Int32) (v3 : Int32) : Prop := w_X1_tileFans_b94 post hd la v1 v3 (0 : Int32)

def w_X1_tileFans_b81 (post : Int32 → Prop) (hd : (Nat → Int32)) (la : (Nat → Int32)) (v1 : Int32) (v2 : Int32) (v3 : Int32) : Prop := ((v1 = 0 → (((v2 = 0 → (w_X1_tileFans_b94 post hd la v1 v3 (1 : Int32))) ∧ (¬ v2 = 0 → (w_X1_tileFans_b89 post hd la v1 v3))))) ∧ (¬ v1 = 0 → (w_X1_tileFans_b89 post hd la v1 v3)))

def w_X1_tileFans_b75 (post : Int32 → Prop) (hd : (Nat → Int32)) (la : (Nat → Int32)) (K9 : Int32 → Int32 → Int32 → Int32 → Prop) (v1 : Int32) (v2 : Int32) (v3 : Int32) (v4 : Int32) : Prop := K9 v1 v2 v3 (v4 + 1)

def w_X1_tileFans_b74 (post : Int32 → Prop) (hd : (Nat → Int32)) (la : (Nat → Int32)) (K9 : Int32 → Int32 → Int32 → Int32 → Prop) (v1 : Int32) (v3 : Int32) (v4 : Int32) (s1 : Int32) : Prop := w_X1_tileFans_b75 post hd la K9 v1 s1 v3 v4

def w_X1_tileFans_b69 (post : Int32 → Prop) (hd : (Nat → Int32)) (la : (Nat → Int32)) (K9 : Int32 → Int32 → Int32 → Int32 → Prop) (v1 : Int32) (v3 : Int32) (v4 : Int32) : Prop := w_X1_tileFans_b74 post hd la K9 v1 v3 v4 (1 : Int32)

def w_X1_tileFans_b9 (post : Int32 → Prop) (hd : (Nat → Int32)) (la : (Nat → Int32)) : Nat → Int32 → Int32 → Int32 → Int32 → Prop
  | 0, _, _, _, _ => False
  | n + 1, v1, v2, v3, v4 => (((34 : Int32) ≤ v4 → (w_X1_tileFans_b81 post hd la v1 v2 v3)) ∧ (¬ (34 : Int32) ≤ v4 → (vp_in v4 34 ∧ (vp_in v4 34 ∧ (((((hd v4.toNatClampNeg) + (la v4.toNatClampNeg)) ≤ 0 → (w_X1_tileFans_b75 post hd la (w_X1_tileFans_b9 post hd la n) v1 v2 v3 v4)) ∧ (¬ ((hd v4.toNatClampNeg) + (la v4.toNatClampNeg)) ≤ 0 → (w_X1_isHonour v4 (fun r11 => (((r11 = 0 → (∀ t13 : Int32, t13 = v3 ||| ((1 : Int32) <<< ((v4 / (9 : Int32)) &&& 31)) → (((v2 = 0 → (w_X1_isEnd v4 (fun r15 => (((r15 = 0 → (w_X1_tileFans_b74 post hd la (w_X1_tileFans_b9 post hd la n) v1 t13 v4 (0 : Int32))) ∧ (¬ r15 = 0 → (w_X1_tileFans_b69 post hd la (w_X1_tileFans_b9 post hd la n) v1 t13 v4))))))) ∧ (¬ v2 = 0 → (w_X1_tileFans_b69 post hd la (w_X1_tileFans_b9 post hd la n) v1 t13 v4)))))) ∧ (¬ r11 = 0 → (w_X1_tileFans_b75 post hd la (w_X1_tileFans_b9 post hd la n) (1 : Int32) v2 v3 v4)))))))))))))

def w_X1_tileFans (hd : (Nat → Int32)) (la : (Nat → Int32)) (post : Int32 → Prop) : Prop := ∃ n9, w_X1_tileFans_b9 post hd la n9 (0 : Int32) (0 : Int32) (0 : Int32) (0 : Int32)

set_option maxHeartbeats 4000000 in
set_option maxRecDepth 100000 in
theorem c_X1_tileFans (l : Launch) (dC : Nat → ClassId) (dI : Nat → Nat → Nat) (cI cZ : ClassId) (x : Nat) (aH : Nat) (aL : Nat) (aS : Nat) (aO : Nat) (aK : Nat) (aZ : Nat) (cv : Nat) (sz : Nat) (tcn : Int32) (mcn : Int32) (swd : Int32) (rwd : Int32) (bpt : Int32) (flm : Int32) (hd : (Nat → Int32)) (la : (Nat → Int32)) (post : Int32 → Prop) (hw : w_X1_tileFans hd la post) : Met l yX1_tileFans wsX1_tileFans ({ frames := 3, cells := 0, slots := 0, locals := 61 } : Room) (va_Pc [.ref x] (fun U => U.heap.size = sz ∧ va_P (dC, dI) vwCl [(x, .inr (1, [.ref aH, .ref aL, .ref aS, .ref aO, .ref aK, .ref aZ, .ref cv, .int tcn, .int mcn, .int swd, .int rwd, .int bpt, .int flm])), (aH, .inl (cI, 34, .inl hd)), (aL, .inl (cI, 34, .inl la))] U.heap ∧ va_K (dC, dI) vwCl [(cI, .int), (cZ, .boolean)] U ∧ va_D (fun _ => True) [(x, .inr (1, [.ref aH, .ref aL, .ref aS, .ref aO, .ref aK, .ref aZ, .ref cv, .int tcn, .int mcn, .int swd, .int rwd, .int bpt, .int flm])), (aH, .inl (cI, 34, .inl hd)), (aL, .inl (cI, 34, .inl la))])) (va_Qi (fun (r9 : Int32) (u9 : Unit) => post r9) (fun (u9 : Unit) (t9 : State) => va_P (dC, dI) vwCl [(x, .inr (1, [.ref aH, .ref aL, .ref aS, .ref aO, .ref aK, .ref aZ, .ref cv, .int tcn, .int mcn, .int swd, .int rwd, .int bpt, .int flm])), (aH, .inl (cI, 34, .inl hd)), (aL, .inl (cI, 34, .inl la))] t9.heap ∧ va_K (dC, dI) vwCl [(cI, .int), (cZ, .boolean)] t9 ∧ va_D (va_A [(x, .inr (1, [.ref aH, .ref aL, .ref aS, .ref aO, .ref aK, .ref aZ, .ref cv, .int tcn, .int mcn, .int swd, .int rwd, .int bpt, .int flm])), (aH, .inl (cI, 34, .inl hd)), (aL, .inl (cI, 34, .inl la))] sz) [(x, .inr (1, [.ref aH, .ref aL, .ref aS, .ref aO, .ref aK, .ref aZ, .ref cv, .int tcn, .int mcn, .int swd, .int rwd, .int bpt, .int flm])), (aH, .inl (cI, 34, .inl hd)), (aL, .inl (cI, 34, .inl la))]) (va_A [(x, .inr (1, [.ref aH, .ref aL, .ref aS, .ref aO, .ref aK, .ref aZ, .ref cv, .int tcn, .int mcn, .int swd, .int rwd, .int bpt, .int flm])), (aH, .inl (cI, 34, .inl hd)), (aL, .inl (cI, 34, .inl la))] sz)) 0 0 (va_A [(x, .inr (1, [.ref aH, .ref aL, .ref aS, .ref aO, .ref aK, .ref aZ, .ref cv, .int tcn, .int mcn, .int swd, .int rwd, .int bpt, .int flm])), (aH, .inl (cI, 34, .inl hd)), (aL, .inl (cI, 34, .inl la))] sz) := by
  refine Met.ofW (cc := cX1_tileFans) (maxL := 5) (ret := (some .int)) (by decide) rfl ?_
  intro p e s m args below meth c s₁ B hml hv
  obtain ⟨rfl, hsz, hP, hK, hD0⟩ := hv
  have hx := B.exec
  have hb := B.bytes
  have hr := B.returns
  have hts := atoms_spec (ws := wsX1_tileFans) B.pre
  have hown : s.vm.findClass RX1 = some m.cls := findClass_of_methodNamed B.named
  have hlocks := B.notSynchronized
  have hinX1 : ∀ w ∈ u_ws RX1 TX1 13, w ∈ wsX1_tileFans := by decide +kernel
  subst hsz
  have hD := hD0.self (sz := s.heap.size)
  generalize hAe : va_A [(x, .inr (1, [.ref aH, .ref aL, .ref aS, .ref aO, .ref aK, .ref aZ, .ref cv, .int tcn, .int mcn, .int swd, .int rwd, .int bpt, .int flm])), (aH, .inl (cI, 34, .inl hd)), (aL, .inl (cI, 34, .inl la))] s.heap.size = A at hD ⊢
  have hA : ∀ q : Nat, s.heap.size ≤ q → A q := fun q h => by rw [← hAe]; exact Or.inr h
  have hS : va_S A s.heap s.heap [] := va_S.rf
  have hl := lv_entry ([.ref x]) (n := 5) (Nat.le_of_ble_eq_true rfl)
  rw [lg_entry_eq]
  generalize (lg_sl ([.ref x]) ++ List.replicate (5 - (lg_sl ([.ref x])).length) Slot.unset).toArray = ls at hl ⊢
  have hl : lv_has ls 5 [(0, .ref x)] := hl
  refine (?_ : ∀ Q9 : State → Prop, MQ below _ _ s _ _ _ = Q9 → W p l e ({ frames := 3, cells := 0, slots := 0, locals := 61 } : Room) s m _ below meth c s.heap [] 0 0 Q9 (F0 m 0 ls [])) _ rfl
  intro Q9 hQ9
  have hw : ∃ n9, w_X1_tileFans_b9 post hd la n9 (0 : Int32) (0 : Int32) (0 : Int32) (0 : Int32) := hw
  have L94 : ∀ (v1 : Int32) (v3 : Int32) (s1 : Int32) (H : Heap) (locs : List Loc) (ls : Array Slot), w_X1_tileFans_b94 post hd la v1 v3 s1 → va_P (dC, dI) vwCl [(x, .inr (1, [.ref aH, .ref aL, .ref aS, .ref aO, .ref aK, .ref aZ, .ref cv, .int tcn, .int mcn, .int swd, .int rwd, .int bpt, .int flm])), (aH, .inl (cI, 34, .inl hd)), (aL, .inl (cI, 34, .inl la))] H → va_D A [(x, .inr (1, [.ref aH, .ref aL, .ref aS, .ref aO, .ref aK, .ref aZ, .ref cv, .int tcn, .int mcn, .int swd, .int rwd, .int bpt, .int flm])), (aH, .inl (cI, 34, .inl hd)), (aL, .inl (cI, 34, .inl la))] → va_S A s.heap H locs → lv_has ls 5 [(0, .ref x), (1, .int v1), (3, .int v3)] → W p l e ({ frames := 3, cells := 0, slots := 0, locals := 61 } : Room) s m ([.ref x] : List Value).toArray below meth c H locs 0 0 Q9 (F0 m 94 ls [.int s1]) := by
    intro v1 v3 s1 H locs ls hw hP hD hS hl
    refine lv_istore (lv' := [(4, .int s1), (0, .ref x), (1, .int v1), (3, .int v3)]) hx hb dX1_tileFans_94 hl (by decide) rfl (fun ls hl => ?_)
    refine lv_iload_n hx hb dX1_tileFans_96 rfl (lv_at hl 3 rfl) ?_
    refine lv_if_ne (tgt := 106) hx hb dX1_tileFans_97 (by decide) (fun c3 => ?_) (fun c3 => ?_)
    · have hw := hw.2 c3
      refine lv_iload_n hx hb dX1_tileFans_106 rfl (lv_at hl 3 rfl) ?_
      have hPc := hP.sub (ws' := []) [] rfl
      have hDc := hD.sub (ws' := []) [] (by decide) rfl
      have hFc := va_free (wc := []) hD hS hA [] rfl
      refine va_calli (va_runS (As := [.int v3]) (rest := []) ⟨hx, hb, hml, hown, hts⟩ (c_J6_bitCount_0f7a4 l dC dI cI cZ H.size v3 _ hw) (va_cwS 1 hts gX1_tileFans_J6_bitCount_0f7a4 rfl rfl rfl (by decide +kernel) ⟨Nat.le_of_ble_eq_true rfl, Nat.le_of_ble_eq_true rfl⟩) ⟨fun a U g mk q => by obtain ⟨q0, q1, qP, qK, qD⟩ := q; exact ⟨q0, q1, qP, va_K.moved (u := U) (U := U.calling g mk a) (Vm.Alike.refl U.vm) qK, qD⟩, fun U hU hW => ⟨rfl, by rw [hU], by rw [hU]; exact hPc, va_K.moved hW.alike hK, hDc.weaken (fun _ _ _ _ => trivial)⟩⟩ rfl rfl hl.1 rfl (lv_room (Nat.le_of_ble_eq_true rfl)) dX1_tileFans_107 ⟨Nat.le_of_ble_eq_true rfl, Nat.le_of_ble_eq_true rfl⟩) hS (fun q _ h => hFc q h) hFc (fun r4 u t H1 locs ht hvm hw hB hz1 hk1 hS => ?_)
      obtain ⟨hP1, -, hD1⟩ := hB
      have hw := And.intro hw trivial
      try dsimp only at hw
      have hw := hw.1
      rw [ht] at hP1
      obtain ⟨hP, hD⟩ := va_join (wr := [(x, .inr (1, [.ref aH, .ref aL, .ref aS, .ref aO, .ref aK, .ref aZ, .ref cv, .int tcn, .int mcn, .int swd, .int rwd, .int bpt, .int flm])), (aH, .inl (cI, 34, .inl hd)), (aL, .inl (cI, 34, .inl la))]) (w1 := []) hP hD [] [0, 1, 2] rfl rfl (by decide) (by decide) hk1 hFc hP1 hD1
      generalize H1 = H at hP hS ⊢
      have hP : va_P (dC, dI) vwCl [(x, .inr (1, [.ref aH, .ref aL, .ref aS, .ref aO, .ref aK, .ref aZ, .ref cv, .int tcn, .int mcn, .int swd, .int rwd, .int bpt, .int flm])), (aH, .inl (cI, 34, .inl hd)), (aL, .inl (cI, 34, .inl la))] H := hP
      have hD : va_D A [(x, .inr (1, [.ref aH, .ref aL, .ref aS, .ref aO, .ref aK, .ref aZ, .ref cv, .int tcn, .int mcn, .int swd, .int rwd, .int bpt, .int flm])), (aH, .inl (cI, 34, .inl hd)), (aL, .inl (cI, 34, .inl la))] := hD
      refine lv_iconst (v := 1) hx hb dX1_tileFans_110 (by decide) ?_
      refine lv_icmp_ne (tgt := 129) hx hb dX1_tileFans_111 (by decide) (fun c5 => ?_) (fun c5 => ?_)
      · have hw := hw.2 c5
        refine lv_iload hx hb dX1_tileFans_129 (lv_at hl 0 rfl) ?_
        rw [← hQ9]
        exact W.iret (v := s1) hx hb hr (fun t ht hW => ⟨⟨s1, (), rfl, hw, by rw [ht]; exact hP, va_K.moved hW.alike hK, hD⟩, hS.F ht⟩) hS.2.2 dX1_tileFans_131
      · have hw := hw.1 c5
        refine lv_iload hx hb dX1_tileFans_114 (lv_at hl 0 rfl) ?_
        refine lv_iload_n hx hb dX1_tileFans_116 rfl (lv_at hl 2 rfl) ?_
        refine lv_if_eq (tgt := 124) hx hb dX1_tileFans_117 (by decide) (fun c6 => ?_) (fun c6 => ?_)
        · have hw := hw.1 c6
          refine lv_bipush (v := 6) hx hb dX1_tileFans_124 (by decide) ?_
          refine lv_iadd hx hb dX1_tileFans_126 ?_
          refine lv_istore (lv' := [(4, .int (s1 + (6 : Int32))), (0, .ref x), (1, .int v1), (3, .int v3)]) hx hb dX1_tileFans_127 hl (by decide) rfl (fun ls hl => ?_)
          refine lv_iload hx hb dX1_tileFans_129 (lv_at hl 0 rfl) ?_
          rw [← hQ9]
          exact W.iret (v := s1 + (6 : Int32)) hx hb hr (fun t ht hW => ⟨⟨s1 + (6 : Int32), (), rfl, hw, by rw [ht]; exact hP, va_K.moved hW.alike hK, hD⟩, hS.F ht⟩) hS.2.2 dX1_tileFans_131
        · have hw := hw.2 c6
          refine lv_iconst (v := 3) hx hb dX1_tileFans_120 (by decide) ?_
          refine lv_goto (tgt := 126) hx hb dX1_tileFans_121 (by decide) ?_
          refine lv_iadd hx hb dX1_tileFans_126 ?_
          refine lv_istore (lv' := [(4, .int (s1 + (3 : Int32))), (0, .ref x), (1, .int v1), (3, .int v3)]) hx hb dX1_tileFans_127 hl (by decide) rfl (fun ls hl => ?_)
          refine lv_iload hx hb dX1_tileFans_129 (lv_at hl 0 rfl) ?_
          rw [← hQ9]
          exact W.iret (v := s1 + (3 : Int32)) hx hb hr (fun t ht hW => ⟨⟨s1 + (3 : Int32), (), rfl, hw, by rw [ht]; exact hP, va_K.moved hW.alike hK, hD⟩, hS.F ht⟩) hS.2.2 dX1_tileFans_131
    · have hw := hw.1 c3
      refine lv_iinc (v := s1 + 6) (lv' := [(4, .int (s1 + 6)), (0, .ref x), (1, .int v1), (3, .int v3)]) hx hb dX1_tileFans_100 hl (k := 0) rfl rfl (by decide) rfl (fun ls hl => ?_)
      refine lv_goto (tgt := 129) hx hb dX1_tileFans_103 (by decide) ?_
      refine lv_iload hx hb dX1_tileFans_129 (lv_at hl 0 rfl) ?_
      rw [← hQ9]
      exact W.iret (v := s1 + 6) hx hb hr (fun t ht hW => ⟨⟨s1 + 6, (), rfl, hw, by rw [ht]; exact hP, va_K.moved hW.alike hK, hD⟩, hS.F ht⟩) hS.2.2 dX1_tileFans_131
  have L89 : ∀ (v1 : Int32) (v3 : Int32) (H : Heap) (locs : List Loc) (ls : Array Slot), w_X1_tileFans_b89 post hd la v1 v3 → va_P (dC, dI) vwCl [(x, .inr (1, [.ref aH, .ref aL, .ref aS, .ref aO, .ref aK, .ref aZ, .ref cv, .int tcn, .int mcn, .int swd, .int rwd, .int bpt, .int flm])), (aH, .inl (cI, 34, .inl hd)), (aL, .inl (cI, 34, .inl la))] H → va_D A [(x, .inr (1, [.ref aH, .ref aL, .ref aS, .ref aO, .ref aK, .ref aZ, .ref cv, .int tcn, .int mcn, .int swd, .int rwd, .int bpt, .int flm])), (aH, .inl (cI, 34, .inl hd)), (aL, .inl (cI, 34, .inl la))] → va_S A s.heap H locs → lv_has ls 5 [(0, .ref x), (1, .int v1), (3, .int v3)] → W p l e ({ frames := 3, cells := 0, slots := 0, locals := 61 } : Room) s m ([.ref x] : List Value).toArray below meth c H locs 0 0 Q9 (F0 m 89 ls []) := by
    intro v1 v3 H locs ls hw hP hD hS hl
    refine lv_iconst (v := 0) hx hb dX1_tileFans_89 (by decide) ?_
    refine lv_goto (tgt := 94) hx hb dX1_tileFans_90 (by decide) ?_
    exact L94 v1 v3 (0 : Int32) _ _ _ hw hP hD hS (lv_sub hl [0, 1, 2] rfl)
  have L81 : ∀ (v1 : Int32) (v2 : Int32) (v3 : Int32) (H : Heap) (locs : List Loc) (ls : Array Slot), w_X1_tileFans_b81 post hd la v1 v2 v3 → va_P (dC, dI) vwCl [(x, .inr (1, [.ref aH, .ref aL, .ref aS, .ref aO, .ref aK, .ref aZ, .ref cv, .int tcn, .int mcn, .int swd, .int rwd, .int bpt, .int flm])), (aH, .inl (cI, 34, .inl hd)), (aL, .inl (cI, 34, .inl la))] H → va_D A [(x, .inr (1, [.ref aH, .ref aL, .ref aS, .ref aO, .ref aK, .ref aZ, .ref cv, .int tcn, .int mcn, .int swd, .int rwd, .int bpt, .int flm])), (aH, .inl (cI, 34, .inl hd)), (aL, .inl (cI, 34, .inl la))] → va_S A s.heap H locs → lv_has ls 5 [(0, .ref x), (1, .int v1), (2, .int v2), (3, .int v3)] → W p l e ({ frames := 3, cells := 0, slots := 0, locals := 61 } : Room) s m ([.ref x] : List Value).toArray below meth c H locs 0 0 Q9 (F0 m 81 ls []) := by
    intro v1 v2 v3 H locs ls hw hP hD hS hl
    refine lv_iload_n hx hb dX1_tileFans_81 rfl (lv_at hl 1 rfl) ?_
    refine lv_if_ne (tgt := 89) hx hb dX1_tileFans_82 (by decide) (fun c2 => ?_) (fun c2 => ?_)
    · have hw := hw.2 c2
      exact L89 v1 v3 _ _ _ hw hP hD hS (lv_sub hl [0, 1, 3] rfl)
    · have hw := hw.1 c2
      refine lv_iload_n hx hb dX1_tileFans_85 rfl (lv_at hl 2 rfl) ?_
      refine lv_if_eq (tgt := 93) hx hb dX1_tileFans_86 (by decide) (fun c7 => ?_) (fun c7 => ?_)
      · have hw := hw.1 c7
        refine lv_iconst (v := 1) hx hb dX1_tileFans_93 (by decide) ?_
        exact L94 v1 v3 (1 : Int32) _ _ _ hw hP hD hS (lv_sub hl [0, 1, 3] rfl)
      · have hw := hw.2 c7
        exact L89 v1 v3 _ _ _ hw hP hD hS (lv_sub hl [0, 1, 3] rfl)
  have L75 : ∀ (K9 : Int32 → Int32 → Int32 → Int32 → Prop) (hK9 : ∀ (v1 : Int32) (v2 : Int32) (v3 : Int32) (v4 : Int32) (H : Heap) (locs : List Loc) (ls : Array Slot), K9 v1 v2 v3 v4 → va_P (dC, dI) vwCl [(x, .inr (1, [.ref aH, .ref aL, .ref aS, .ref aO, .ref aK, .ref aZ, .ref cv, .int tcn, .int mcn, .int swd, .int rwd, .int bpt, .int flm])), (aH, .inl (cI, 34, .inl hd)), (aL, .inl (cI, 34, .inl la))] H → va_D A [(x, .inr (1, [.ref aH, .ref aL, .ref aS, .ref aO, .ref aK, .ref aZ, .ref cv, .int tcn, .int mcn, .int swd, .int rwd, .int bpt, .int flm])), (aH, .inl (cI, 34, .inl hd)), (aL, .inl (cI, 34, .inl la))] → va_S A s.heap H locs → lv_has ls 5 [(0, .ref x), (1, .int v1), (2, .int v2), (3, .int v3), (4, .int v4)] → W p l e ({ frames := 3, cells := 0, slots := 0, locals := 61 } : Room) s m ([.ref x] : List Value).toArray below meth c H locs 0 0 Q9 (F0 m 9 ls [])), ∀ (v1 : Int32) (v2 : Int32) (v3 : Int32) (v4 : Int32) (H : Heap) (locs : List Loc) (ls : Array Slot), w_X1_tileFans_b75 post hd la K9 v1 v2 v3 v4 → va_P (dC, dI) vwCl [(x, .inr (1, [.ref aH, .ref aL, .ref aS, .ref aO, .ref aK, .ref aZ, .ref cv, .int tcn, .int mcn, .int swd, .int rwd, .int bpt, .int flm])), (aH, .inl (cI, 34, .inl hd)), (aL, .inl (cI, 34, .inl la))] H → va_D A [(x, .inr (1, [.ref aH, .ref aL, .ref aS, .ref aO, .ref aK, .ref aZ, .ref cv, .int tcn, .int mcn, .int swd, .int rwd, .int bpt, .int flm])), (aH, .inl (cI, 34, .inl hd)), (aL, .inl (cI, 34, .inl la))] → va_S A s.heap H locs → lv_has ls 5 [(0, .ref x), (1, .int v1), (2, .int v2), (3, .int v3), (4, .int v4)] → W p l e ({ frames := 3, cells := 0, slots := 0, locals := 61 } : Room) s m ([.ref x] : List Value).toArray below meth c H locs 0 0 Q9 (F0 m 75 ls []) := by
    intro K9 hK9 v1 v2 v3 v4 H locs ls hw hP hD hS hl
    refine lv_iinc (v := v4 + 1) (lv' := [(4, .int (v4 + 1)), (0, .ref x), (1, .int v1), (2, .int v2), (3, .int v3)]) hx hb dX1_tileFans_75 hl (k := 4) rfl rfl (by decide) rfl (fun ls hl => ?_)
    refine lv_goto (tgt := 9) hx hb dX1_tileFans_78 (by decide) ?_
    exact hK9 v1 v2 v3 (v4 + 1) _ _ _ hw hP hD hS (lv_sub hl [1, 2, 3, 4, 0] rfl)
  have L74 : ∀ (K9 : Int32 → Int32 → Int32 → Int32 → Prop) (hK9 : ∀ (v1 : Int32) (v2 : Int32) (v3 : Int32) (v4 : Int32) (H : Heap) (locs : List Loc) (ls : Array Slot), K9 v1 v2 v3 v4 → va_P (dC, dI) vwCl [(x, .inr (1, [.ref aH, .ref aL, .ref aS, .ref aO, .ref aK, .ref aZ, .ref cv, .int tcn, .int mcn, .int swd, .int rwd, .int bpt, .int flm])), (aH, .inl (cI, 34, .inl hd)), (aL, .inl (cI, 34, .inl la))] H → va_D A [(x, .inr (1, [.ref aH, .ref aL, .ref aS, .ref aO, .ref aK, .ref aZ, .ref cv, .int tcn, .int mcn, .int swd, .int rwd, .int bpt, .int flm])), (aH, .inl (cI, 34, .inl hd)), (aL, .inl (cI, 34, .inl la))] → va_S A s.heap H locs → lv_has ls 5 [(0, .ref x), (1, .int v1), (2, .int v2), (3, .int v3), (4, .int v4)] → W p l e ({ frames := 3, cells := 0, slots := 0, locals := 61 } : Room) s m ([.ref x] : List Value).toArray below meth c H locs 0 0 Q9 (F0 m 9 ls [])), ∀ (v1 : Int32) (v3 : Int32) (v4 : Int32) (s1 : Int32) (H : Heap) (locs : List Loc) (ls : Array Slot), w_X1_tileFans_b74 post hd la K9 v1 v3 v4 s1 → va_P (dC, dI) vwCl [(x, .inr (1, [.ref aH, .ref aL, .ref aS, .ref aO, .ref aK, .ref aZ, .ref cv, .int tcn, .int mcn, .int swd, .int rwd, .int bpt, .int flm])), (aH, .inl (cI, 34, .inl hd)), (aL, .inl (cI, 34, .inl la))] H → va_D A [(x, .inr (1, [.ref aH, .ref aL, .ref aS, .ref aO, .ref aK, .ref aZ, .ref cv, .int tcn, .int mcn, .int swd, .int rwd, .int bpt, .int flm])), (aH, .inl (cI, 34, .inl hd)), (aL, .inl (cI, 34, .inl la))] → va_S A s.heap H locs → lv_has ls 5 [(0, .ref x), (1, .int v1), (3, .int v3), (4, .int v4)] → W p l e ({ frames := 3, cells := 0, slots := 0, locals := 61 } : Room) s m ([.ref x] : List Value).toArray below meth c H locs 0 0 Q9 (F0 m 74 ls [.int s1]) := by
    intro K9 hK9 v1 v3 v4 s1 H locs ls hw hP hD hS hl
    refine lv_istore_n (lv' := [(2, .int s1), (0, .ref x), (1, .int v1), (3, .int v3), (4, .int v4)]) hx hb dX1_tileFans_74 rfl hl (by decide) rfl (fun ls hl => ?_)
    exact L75 K9 hK9 v1 s1 v3 v4 _ _ _ hw hP hD hS (lv_sub hl [1, 2, 0, 3, 4] rfl)
  have L69 : ∀ (K9 : Int32 → Int32 → Int32 → Int32 → Prop) (hK9 : ∀ (v1 : Int32) (v2 : Int32) (v3 : Int32) (v4 : Int32) (H : Heap) (locs : List Loc) (ls : Array Slot), K9 v1 v2 v3 v4 → va_P (dC, dI) vwCl [(x, .inr (1, [.ref aH, .ref aL, .ref aS, .ref aO, .ref aK, .ref aZ, .ref cv, .int tcn, .int mcn, .int swd, .int rwd, .int bpt, .int flm])), (aH, .inl (cI, 34, .inl hd)), (aL, .inl (cI, 34, .inl la))] H → va_D A [(x, .inr (1, [.ref aH, .ref aL, .ref aS, .ref aO, .ref aK, .ref aZ, .ref cv, .int tcn, .int mcn, .int swd, .int rwd, .int bpt, .int flm])), (aH, .inl (cI, 34, .inl hd)), (aL, .inl (cI, 34, .inl la))] → va_S A s.heap H locs → lv_has ls 5 [(0, .ref x), (1, .int v1), (2, .int v2), (3, .int v3), (4, .int v4)] → W p l e ({ frames := 3, cells := 0, slots := 0, locals := 61 } : Room) s m ([.ref x] : List Value).toArray below meth c H locs 0 0 Q9 (F0 m 9 ls [])), ∀ (v1 : Int32) (v3 : Int32) (v4 : Int32) (H : Heap) (locs : List Loc) (ls : Array Slot), w_X1_tileFans_b69 post hd la K9 v1 v3 v4 → va_P (dC, dI) vwCl [(x, .inr (1, [.ref aH, .ref aL, .ref aS, .ref aO, .ref aK, .ref aZ, .ref cv, .int tcn, .int mcn, .int swd, .int rwd, .int bpt, .int flm])), (aH, .inl (cI, 34, .inl hd)), (aL, .inl (cI, 34, .inl la))] H → va_D A [(x, .inr (1, [.ref aH, .ref aL, .ref aS, .ref aO, .ref aK, .ref aZ, .ref cv, .int tcn, .int mcn, .int swd, .int rwd, .int bpt, .int flm])), (aH, .inl (cI, 34, .inl hd)), (aL, .inl (cI, 34, .inl la))] → va_S A s.heap H locs → lv_has ls 5 [(0, .ref x), (1, .int v1), (3, .int v3), (4, .int v4)] → W p l e ({ frames := 3, cells := 0, slots := 0, locals := 61 } : Room) s m ([.ref x] : List Value).toArray below meth c H locs 0 0 Q9 (F0 m 69 ls []) := by
    intro K9 hK9 v1 v3 v4 H locs ls hw hP hD hS hl
    refine lv_iconst (v := 1) hx hb dX1_tileFans_69 (by decide) ?_
    refine lv_goto (tgt := 74) hx hb dX1_tileFans_70 (by decide) ?_
    exact L74 K9 hK9 v1 v3 v4 (1 : Int32) _ _ _ hw hP hD hS (lv_sub hl [0, 1, 2, 3] rfl)
  have L9 : ∀ (n : Nat), ∀ (v1 : Int32) (v2 : Int32) (v3 : Int32) (v4 : Int32) (H : Heap) (locs : List Loc) (ls : Array Slot), w_X1_tileFans_b9 post hd la n v1 v2 v3 v4 → va_P (dC, dI) vwCl [(x, .inr (1, [.ref aH, .ref aL, .ref aS, .ref aO, .ref aK, .ref aZ, .ref cv, .int tcn, .int mcn, .int swd, .int rwd, .int bpt, .int flm])), (aH, .inl (cI, 34, .inl hd)), (aL, .inl (cI, 34, .inl la))] H → va_D A [(x, .inr (1, [.ref aH, .ref aL, .ref aS, .ref aO, .ref aK, .ref aZ, .ref cv, .int tcn, .int mcn, .int swd, .int rwd, .int bpt, .int flm])), (aH, .inl (cI, 34, .inl hd)), (aL, .inl (cI, 34, .inl la))] → va_S A s.heap H locs → lv_has ls 5 [(0, .ref x), (1, .int v1), (2, .int v2), (3, .int v3), (4, .int v4)] → W p l e ({ frames := 3, cells := 0, slots := 0, locals := 61 } : Room) s m ([.ref x] : List Value).toArray below meth c H locs 0 0 Q9 (F0 m 9 ls []) := by
    intro n
    induction n with
    | zero => intro v1 v2 v3 v4 H locs ls hw _ _ _ _; exact False.elim hw
    | succ n ih =>
      intro v1 v2 v3 v4 H locs ls hw hP hD hS hl
      refine lv_iload hx hb dX1_tileFans_9 (lv_at hl 4 rfl) ?_
      refine lv_bipush (v := 34) hx hb dX1_tileFans_11 (by decide) ?_
      refine lv_icmp_ge (tgt := 81) hx hb dX1_tileFans_13 (by decide) (fun c1 => ?_) (fun c1 => ?_)
      · have hw := hw.1 c1
        exact L81 v1 v2 v3 _ _ _ hw hP hD hS (lv_sub hl [0, 1, 2, 3] rfl)
      · have hw := hw.2 c1
        refine lv_aload_n hx hb dX1_tileFans_16 rfl (lv_at hl 0 rfl) ?_
        refine va_get (D := (dC, dI)) (ci := 1) (v := .ref aH) (C := RX1) (T := TX1) (N := 13) hx hb hts hinX1 hown hK hP 0 rfl rfl 0 (by decide) (hts (.fieldLink RX1 9 "TileHand" "hand" "[I") (by decide +kernel)) (fun _ h9 => h9) rfl dX1_tileFans_17 ?_
        refine lv_iload hx hb dX1_tileFans_20 (lv_at hl 4 rfl) ?_
        obtain ⟨h8, hw⟩ := hw
        refine va_iald hx hb hK hP 1 0 rfl rfl h8 dX1_tileFans_22 ?_
        refine lv_aload_n hx hb dX1_tileFans_23 rfl (lv_at hl 0 rfl) ?_
        refine va_get (D := (dC, dI)) (ci := 1) (v := .ref aL) (C := RX1) (T := TX1) (N := 13) hx hb hts hinX1 hown hK hP 0 rfl rfl 1 (by decide) (hts (.fieldLink RX1 13 "TileHand" "laid" "[I") (by decide +kernel)) (fun _ h9 => h9) rfl dX1_tileFans_24 ?_
        refine lv_iload hx hb dX1_tileFans_27 (lv_at hl 4 rfl) ?_
        obtain ⟨h9, hw⟩ := hw
        refine va_iald hx hb hK hP 2 0 rfl rfl h9 dX1_tileFans_29 ?_
        refine lv_iadd hx hb dX1_tileFans_30 ?_
        refine lv_if_le (tgt := 75) hx hb dX1_tileFans_31 (by decide) (fun c10 => ?_) (fun c10 => ?_)
        · have hw := hw.1 c10
          exact L75 (w_X1_tileFans_b9 post hd la n) ih v1 v2 v3 v4 _ _ _ hw hP hD hS (lv_sub hl [0, 1, 2, 3, 4] rfl)
        · have hw := hw.2 c10
          refine lv_iload hx hb dX1_tileFans_34 (lv_at hl 4 rfl) ?_
          have hPc := hP.sub (ws' := []) [] rfl
          have hDc := hD.sub (ws' := []) [] (by decide) rfl
          have hFc := va_free (wc := []) hD hS hA [] rfl
          refine va_calli (va_runS (As := [.int v4]) (rest := []) ⟨hx, hb, hml, hown, hts⟩ (c_X1_isHonour l dC dI cI cZ H.size v4 _ hw) (va_cwS 1 hts gX1_tileFans_X1_isHonour rfl rfl rfl (by decide +kernel) ⟨Nat.le_of_ble_eq_true rfl, Nat.le_of_ble_eq_true rfl⟩) ⟨fun a U g mk q => by obtain ⟨q0, q1, qP, qK, qD⟩ := q; exact ⟨q0, q1, qP, va_K.moved (u := U) (U := U.calling g mk a) (Vm.Alike.refl U.vm) qK, qD⟩, fun U hU hW => ⟨rfl, by rw [hU], by rw [hU]; exact hPc, va_K.moved hW.alike hK, hDc.weaken (fun _ _ _ _ => trivial)⟩⟩ rfl rfl hl.1 rfl (lv_room (Nat.le_of_ble_eq_true rfl)) dX1_tileFans_36 ⟨Nat.le_of_ble_eq_true rfl, Nat.le_of_ble_eq_true rfl⟩) hS (fun q _ h => hFc q h) hFc (fun r11 u t H1 locs ht hvm hw hB hz1 hk1 hS => ?_)
          obtain ⟨hP1, -, hD1⟩ := hB
          have hw := And.intro hw trivial
          try dsimp only at hw
          have hw := hw.1
          rw [ht] at hP1
          obtain ⟨hP, hD⟩ := va_join (wr := [(x, .inr (1, [.ref aH, .ref aL, .ref aS, .ref aO, .ref aK, .ref aZ, .ref cv, .int tcn, .int mcn, .int swd, .int rwd, .int bpt, .int flm])), (aH, .inl (cI, 34, .inl hd)), (aL, .inl (cI, 34, .inl la))]) (w1 := []) hP hD [] [0, 1, 2] rfl rfl (by decide) (by decide) hk1 hFc hP1 hD1
          generalize H1 = H at hP hS ⊢
          have hP : va_P (dC, dI) vwCl [(x, .inr (1, [.ref aH, .ref aL, .ref aS, .ref aO, .ref aK, .ref aZ, .ref cv, .int tcn, .int mcn, .int swd, .int rwd, .int bpt, .int flm])), (aH, .inl (cI, 34, .inl hd)), (aL, .inl (cI, 34, .inl la))] H := hP
          have hD : va_D A [(x, .inr (1, [.ref aH, .ref aL, .ref aS, .ref aO, .ref aK, .ref aZ, .ref cv, .int tcn, .int mcn, .int swd, .int rwd, .int bpt, .int flm])), (aH, .inl (cI, 34, .inl hd)), (aL, .inl (cI, 34, .inl la))] := hD
          refine lv_if_eq (tgt := 47) hx hb dX1_tileFans_39 (by decide) (fun c12 => ?_) (fun c12 => ?_)
          · have hw := hw.1 c12
            refine lv_iload_n hx hb dX1_tileFans_47 rfl (lv_at hl 3 rfl) ?_
            refine lv_iconst (v := 1) hx hb dX1_tileFans_48 (by decide) ?_
            refine lv_iload hx hb dX1_tileFans_49 (lv_at hl 4 rfl) ?_
            refine lv_bipush (v := 9) hx hb dX1_tileFans_51 (by decide) ?_
            refine lv_idiv hx hb dX1_tileFans_53 (by decide) ?_
            refine lv_ishl hx hb dX1_tileFans_54 ?_
            refine lv_ior hx hb dX1_tileFans_55 ?_
            refine lv_topi (fun t13 et13 => ?_)
            have hw := hw t13 et13
            refine lv_istore_n (lv' := [(3, .int t13), (0, .ref x), (1, .int v1), (2, .int v2), (4, .int v4)]) hx hb dX1_tileFans_56 rfl hl (by decide) rfl (fun ls hl => ?_)
            refine lv_iload_n hx hb dX1_tileFans_57 rfl (lv_at hl 3 rfl) ?_
            refine lv_if_ne (tgt := 69) hx hb dX1_tileFans_58 (by decide) (fun c14 => ?_) (fun c14 => ?_)
            · have hw := hw.2 c14
              exact L69 (w_X1_tileFans_b9 post hd la n) ih v1 t13 v4 _ _ _ hw hP hD hS (lv_sub hl [1, 2, 0, 4] rfl)
            · have hw := hw.1 c14
              refine lv_iload hx hb dX1_tileFans_61 (lv_at hl 4 rfl) ?_
              have hPc := hP.sub (ws' := []) [] rfl
              have hDc := hD.sub (ws' := []) [] (by decide) rfl
              have hFc := va_free (wc := []) hD hS hA [] rfl
              refine va_calli (va_runS (As := [.int v4]) (rest := []) ⟨hx, hb, hml, hown, hts⟩ (c_X1_isEnd l dC dI cI cZ H.size v4 _ hw) (va_cwS 1 hts gX1_tileFans_X1_isEnd rfl rfl rfl (by decide +kernel) ⟨Nat.le_of_ble_eq_true rfl, Nat.le_of_ble_eq_true rfl⟩) ⟨fun a U g mk q => by obtain ⟨q0, q1, qP, qK, qD⟩ := q; exact ⟨q0, q1, qP, va_K.moved (u := U) (U := U.calling g mk a) (Vm.Alike.refl U.vm) qK, qD⟩, fun U hU hW => ⟨rfl, by rw [hU], by rw [hU]; exact hPc, va_K.moved hW.alike hK, hDc.weaken (fun _ _ _ _ => trivial)⟩⟩ rfl rfl hl.1 rfl (lv_room (Nat.le_of_ble_eq_true rfl)) dX1_tileFans_63 ⟨Nat.le_of_ble_eq_true rfl, Nat.le_of_ble_eq_true rfl⟩) hS (fun q _ h => hFc q h) hFc (fun r15 u t H1 locs ht hvm hw hB hz1 hk1 hS => ?_)
              obtain ⟨hP1, -, hD1⟩ := hB
              have hw := And.intro hw trivial
              try dsimp only at hw
              have hw := hw.1
              rw [ht] at hP1
              obtain ⟨hP, hD⟩ := va_join (wr := [(x, .inr (1, [.ref aH, .ref aL, .ref aS, .ref aO, .ref aK, .ref aZ, .ref cv, .int tcn, .int mcn, .int swd, .int rwd, .int bpt, .int flm])), (aH, .inl (cI, 34, .inl hd)), (aL, .inl (cI, 34, .inl la))]) (w1 := []) hP hD [] [0, 1, 2] rfl rfl (by decide) (by decide) hk1 hFc hP1 hD1
              generalize H1 = H at hP hS ⊢
              have hP : va_P (dC, dI) vwCl [(x, .inr (1, [.ref aH, .ref aL, .ref aS, .ref aO, .ref aK, .ref aZ, .ref cv, .int tcn, .int mcn, .int swd, .int rwd, .int bpt, .int flm])), (aH, .inl (cI, 34, .inl hd)), (aL, .inl (cI, 34, .inl la))] H := hP
              have hD : va_D A [(x, .inr (1, [.ref aH, .ref aL, .ref aS, .ref aO, .ref aK, .ref aZ, .ref cv, .int tcn, .int mcn, .int swd, .int rwd, .int bpt, .int flm])), (aH, .inl (cI, 34, .inl hd)), (aL, .inl (cI, 34, .inl la))] := hD
              refine lv_if_eq (tgt := 73) hx hb dX1_tileFans_66 (by decide) (fun c16 => ?_) (fun c16 => ?_)
              · have hw := hw.1 c16
                refine lv_iconst (v := 0) hx hb dX1_tileFans_73 (by decide) ?_
                exact L74 (w_X1_tileFans_b9 post hd la n) ih v1 t13 v4 (0 : Int32) _ _ _ hw hP hD hS (lv_sub hl [1, 2, 0, 4] rfl)
              · have hw := hw.2 c16
                exact L69 (w_X1_tileFans_b9 post hd la n) ih v1 t13 v4 _ _ _ hw hP hD hS (lv_sub hl [1, 2, 0, 4] rfl)
          · have hw := hw.2 c12
            refine lv_iconst (v := 1) hx hb dX1_tileFans_42 (by decide) ?_
            refine lv_istore_n (lv' := [(1, .int (1 : Int32)), (0, .ref x), (2, .int v2), (3, .int v3), (4, .int v4)]) hx hb dX1_tileFans_43 rfl hl (by decide) rfl (fun ls hl => ?_)
            refine lv_goto (tgt := 75) hx hb dX1_tileFans_44 (by decide) ?_
            exact L75 (w_X1_tileFans_b9 post hd la n) ih (1 : Int32) v2 v3 v4 _ _ _ hw hP hD hS (lv_sub hl [1, 0, 2, 3, 4] rfl)
  refine lv_iconst (v := 0) hx hb dX1_tileFans_0 (by decide) ?_
  refine lv_istore_n (lv' := [(1, .int (0 : Int32)), (0, .ref x)]) hx hb dX1_tileFans_1 rfl hl (by decide) rfl (fun ls hl => ?_)
  refine lv_iconst (v := 0) hx hb dX1_tileFans_2 (by decide) ?_
  refine lv_istore_n (lv' := [(2, .int (0 : Int32)), (1, .int (0 : Int32)), (0, .ref x)]) hx hb dX1_tileFans_3 rfl hl (by decide) rfl (fun ls hl => ?_)
  refine lv_iconst (v := 0) hx hb dX1_tileFans_4 (by decide) ?_
  refine lv_istore_n (lv' := [(3, .int (0 : Int32)), (2, .int (0 : Int32)), (1, .int (0 : Int32)), (0, .ref x)]) hx hb dX1_tileFans_5 rfl hl (by decide) rfl (fun ls hl => ?_)
  refine lv_iconst (v := 0) hx hb dX1_tileFans_6 (by decide) ?_
  refine lv_istore (lv' := [(4, .int (0 : Int32)), (3, .int (0 : Int32)), (2, .int (0 : Int32)), (1, .int (0 : Int32)), (0, .ref x)]) hx hb dX1_tileFans_7 hl (by decide) rfl (fun ls hl => ?_)
  obtain ⟨n9, hw⟩ := hw
  exact L9 n9 (0 : Int32) (0 : Int32) (0 : Int32) (0 : Int32) _ _ _ hw hP hD hS (lv_sub hl [4, 3, 2, 1, 0] rfl)

def w_X1_fansNow_b26 (post : Int32 → (Nat → Int32) → (Nat → Int32) → (Nat → Int32) → Prop) (tcn : Int32) (mcn : Int32) (swd : Int32) (rwd : Int32) (la : (Nat → Int32)) (op : (Nat → Int32)) (p0 : Int32) (v3 : Int32) (hd : (Nat → Int32)) (so : (Nat → Int32)) (ki : (Nat → Int32)) : Prop := w_X1_hasOpenMeld mcn op (fun r8 => (((r8 = 0 → (post (v3 + (1 : Int32)) hd so ki)) ∧ (¬ r8 = 0 → (post v3 hd so ki)))))

def w_X1_fansNow (tcn : Int32) (mcn : Int32) (swd : Int32) (rwd : Int32) (hd : (Nat → Int32)) (la : (Nat → Int32)) (so : (Nat → Int32)) (ki : (Nat → Int32)) (op : (Nat → Int32)) (p0 : Int32) (post : Int32 → (Nat → Int32) → (Nat → Int32) → (Nat → Int32) → Prop) : Prop := w_X1_bestArrangement tcn mcn swd rwd hd so ki (fun r1 hd_2 so_3 ki_4 => (((r1 = (-1 : Int32) → (post (-1 : Int32) hd_2 so_3 ki_4)) ∧ (¬ r1 = (-1 : Int32) → (w_X1_tileFans hd_2 la (fun r6 => (((p0 = 0 → (w_X1_fansNow_b26 post tcn mcn swd rwd la op p0 (r1 + r6) hd_2 so_3 ki_4)) ∧ (¬ p0 = 0 → (w_X1_fansNow_b26 post tcn mcn swd rwd la op p0 ((r1 + r6) + 1) hd_2 so_3 ki_4))))))))))

set_option maxHeartbeats 4000000 in
set_option maxRecDepth 100000 in
theorem c_X1_fansNow (l : Launch) (dC : Nat → ClassId) (dI : Nat → Nat → Nat) (cI cZ : ClassId) (x : Nat) (aH : Nat) (aL : Nat) (aS : Nat) (aO : Nat) (aK : Nat) (aZ : Nat) (cv : Nat) (sz : Nat) (tcn : Int32) (mcn : Int32) (swd : Int32) (rwd : Int32) (bpt : Int32) (flm : Int32) (hd : (Nat → Int32)) (la : (Nat → Int32)) (so : (Nat → Int32)) (ki : (Nat → Int32)) (op : (Nat → Int32)) (p0 : Int32) (post : Int32 → (Nat → Int32) → (Nat → Int32) → (Nat → Int32) → Prop) (hw : w_X1_fansNow tcn mcn swd rwd hd la so ki op p0 post) : Met l yX1_fansNow wsX1_fansNow ({ frames := 18, cells := 0, slots := 0, locals := 419 } : Room) (va_Pc [.ref x, .int p0] (fun U => U.heap.size = sz ∧ va_P (dC, dI) vwCl [(x, .inr (1, [.ref aH, .ref aL, .ref aS, .ref aO, .ref aK, .ref aZ, .ref cv, .int tcn, .int mcn, .int swd, .int rwd, .int bpt, .int flm])), (aH, .inl (cI, 34, .inl hd)), (aL, .inl (cI, 34, .inl la)), (aO, .inl (cI, 4, .inl so)), (aK, .inl (cI, 4, .inl ki)), (aZ, .inl (cZ, 4, .inl op))] U.heap ∧ va_K (dC, dI) vwCl [(cI, .int), (cZ, .boolean)] U ∧ va_D (fun _ => True) [(x, .inr (1, [.ref aH, .ref aL, .ref aS, .ref aO, .ref aK, .ref aZ, .ref cv, .int tcn, .int mcn, .int swd, .int rwd, .int bpt, .int flm])), (aH, .inl (cI, 34, .inl hd)), (aL, .inl (cI, 34, .inl la)), (aO, .inl (cI, 4, .inl so)), (aK, .inl (cI, 4, .inl ki)), (aZ, .inl (cZ, 4, .inl op))])) (va_Qi (fun (r9 : Int32) (u9 : (Nat → Int32) × (Nat → Int32) × (Nat → Int32)) => post r9 u9.1 u9.2.1 u9.2.2) (fun (u9 : (Nat → Int32) × (Nat → Int32) × (Nat → Int32)) (t9 : State) => va_P (dC, dI) vwCl [(x, .inr (1, [.ref aH, .ref aL, .ref aS, .ref aO, .ref aK, .ref aZ, .ref cv, .int tcn, .int mcn, .int swd, .int rwd, .int bpt, .int flm])), (aH, .inl (cI, 34, .inl u9.1)), (aL, .inl (cI, 34, .inl la)), (aO, .inl (cI, 4, .inl u9.2.1)), (aK, .inl (cI, 4, .inl u9.2.2)), (aZ, .inl (cZ, 4, .inl op))] t9.heap ∧ va_K (dC, dI) vwCl [(cI, .int), (cZ, .boolean)] t9 ∧ va_D (va_A [(x, .inr (1, [.ref aH, .ref aL, .ref aS, .ref aO, .ref aK, .ref aZ, .ref cv, .int tcn, .int mcn, .int swd, .int rwd, .int bpt, .int flm])), (aH, .inl (cI, 34, .inl hd)), (aL, .inl (cI, 34, .inl la)), (aO, .inl (cI, 4, .inl so)), (aK, .inl (cI, 4, .inl ki)), (aZ, .inl (cZ, 4, .inl op))] sz) [(x, .inr (1, [.ref aH, .ref aL, .ref aS, .ref aO, .ref aK, .ref aZ, .ref cv, .int tcn, .int mcn, .int swd, .int rwd, .int bpt, .int flm])), (aH, .inl (cI, 34, .inl u9.1)), (aL, .inl (cI, 34, .inl la)), (aO, .inl (cI, 4, .inl u9.2.1)), (aK, .inl (cI, 4, .inl u9.2.2)), (aZ, .inl (cZ, 4, .inl op))]) (va_A [(x, .inr (1, [.ref aH, .ref aL, .ref aS, .ref aO, .ref aK, .ref aZ, .ref cv, .int tcn, .int mcn, .int swd, .int rwd, .int bpt, .int flm])), (aH, .inl (cI, 34, .inl hd)), (aL, .inl (cI, 34, .inl la)), (aO, .inl (cI, 4, .inl so)), (aK, .inl (cI, 4, .inl ki)), (aZ, .inl (cZ, 4, .inl op))] sz)) 0 0 (va_A [(x, .inr (1, [.ref aH, .ref aL, .ref aS, .ref aO, .ref aK, .ref aZ, .ref cv, .int tcn, .int mcn, .int swd, .int rwd, .int bpt, .int flm])), (aH, .inl (cI, 34, .inl hd)), (aL, .inl (cI, 34, .inl la)), (aO, .inl (cI, 4, .inl so)), (aK, .inl (cI, 4, .inl ki)), (aZ, .inl (cZ, 4, .inl op))] sz) := by
  refine Met.ofW (cc := cX1_fansNow) (maxL := 4) (ret := (some .int)) (by decide) rfl ?_
  intro p e s m args below meth c s₁ B hml hv
  obtain ⟨rfl, hsz, hP, hK, hD0⟩ := hv
  have hx := B.exec
  have hb := B.bytes
  have hr := B.returns
  have hts := atoms_spec (ws := wsX1_fansNow) B.pre
  have hown : s.vm.findClass RX1 = some m.cls := findClass_of_methodNamed B.named
  have hlocks := B.notSynchronized
  have hinX1 : ∀ w ∈ u_ws RX1 TX1 13, w ∈ wsX1_fansNow := by decide +kernel
  subst hsz
  have hD := hD0.self (sz := s.heap.size)
  generalize hAe : va_A [(x, .inr (1, [.ref aH, .ref aL, .ref aS, .ref aO, .ref aK, .ref aZ, .ref cv, .int tcn, .int mcn, .int swd, .int rwd, .int bpt, .int flm])), (aH, .inl (cI, 34, .inl hd)), (aL, .inl (cI, 34, .inl la)), (aO, .inl (cI, 4, .inl so)), (aK, .inl (cI, 4, .inl ki)), (aZ, .inl (cZ, 4, .inl op))] s.heap.size = A at hD ⊢
  have hA : ∀ q : Nat, s.heap.size ≤ q → A q := fun q h => by rw [← hAe]; exact Or.inr h
  have hS : va_S A s.heap s.heap [] := va_S.rf
  have hl := lv_entry ([.ref x, .int p0]) (n := 4) (Nat.le_of_ble_eq_true rfl)
  rw [lg_entry_eq]
  generalize (lg_sl ([.ref x, .int p0]) ++ List.replicate (4 - (lg_sl ([.ref x, .int p0])).length) Slot.unset).toArray = ls at hl ⊢
  have hl : lv_has ls 4 [(0, .ref x), (1, .int p0)] := hl
  refine (?_ : ∀ Q9 : State → Prop, MQ below _ _ s _ _ _ = Q9 → W p l e ({ frames := 18, cells := 0, slots := 0, locals := 419 } : Room) s m _ below meth c s.heap [] 0 0 Q9 (F0 m 0 ls [])) _ rfl
  intro Q9 hQ9
  have hw : w_X1_bestArrangement tcn mcn swd rwd hd so ki (fun r1 hd_2 so_3 ki_4 => (((r1 = (-1 : Int32) → (post (-1 : Int32) hd_2 so_3 ki_4)) ∧ (¬ r1 = (-1 : Int32) → (w_X1_tileFans hd_2 la (fun r6 => (((p0 = 0 → (w_X1_fansNow_b26 post tcn mcn swd rwd la op p0 (r1 + r6) hd_2 so_3 ki_4)) ∧ (¬ p0 = 0 → (w_X1_fansNow_b26 post tcn mcn swd rwd la op p0 ((r1 + r6) + 1) hd_2 so_3 ki_4)))))))))) := hw
  have L26 : ∀ (v3 : Int32) (hd : (Nat → Int32)) (so : (Nat → Int32)) (ki : (Nat → Int32)) (H : Heap) (locs : List Loc) (ls : Array Slot), w_X1_fansNow_b26 post tcn mcn swd rwd la op p0 v3 hd so ki → va_P (dC, dI) vwCl [(x, .inr (1, [.ref aH, .ref aL, .ref aS, .ref aO, .ref aK, .ref aZ, .ref cv, .int tcn, .int mcn, .int swd, .int rwd, .int bpt, .int flm])), (aH, .inl (cI, 34, .inl hd)), (aL, .inl (cI, 34, .inl la)), (aO, .inl (cI, 4, .inl so)), (aK, .inl (cI, 4, .inl ki)), (aZ, .inl (cZ, 4, .inl op))] H → va_D A [(x, .inr (1, [.ref aH, .ref aL, .ref aS, .ref aO, .ref aK, .ref aZ, .ref cv, .int tcn, .int mcn, .int swd, .int rwd, .int bpt, .int flm])), (aH, .inl (cI, 34, .inl hd)), (aL, .inl (cI, 34, .inl la)), (aO, .inl (cI, 4, .inl so)), (aK, .inl (cI, 4, .inl ki)), (aZ, .inl (cZ, 4, .inl op))] → va_S A s.heap H locs → lv_has ls 4 [(0, .ref x), (3, .int v3)] → W p l e ({ frames := 18, cells := 0, slots := 0, locals := 419 } : Room) s m ([.ref x, .int p0] : List Value).toArray below meth c H locs 0 0 Q9 (F0 m 26 ls []) := by
    intro v3 hd so ki H locs ls hw hP hD hS hl
    refine lv_aload_n hx hb dX1_fansNow_26 rfl (lv_at hl 0 rfl) ?_
    have hPc := hP.sub (ws' := [(x, .inr (1, [.ref aH, .ref aL, .ref aS, .ref aO, .ref aK, .ref aZ, .ref cv, .int tcn, .int mcn, .int swd, .int rwd, .int bpt, .int flm])), (aZ, .inl (cZ, 4, .inl op))]) [0, 5] rfl
    have hDc := hD.sub (ws' := [(x, .inr (1, [.ref aH, .ref aL, .ref aS, .ref aO, .ref aK, .ref aZ, .ref cv, .int tcn, .int mcn, .int swd, .int rwd, .int bpt, .int flm])), (aZ, .inl (cZ, 4, .inl op))]) [0, 5] (by decide) rfl
    have hFc := va_free (wc := [(x, .inr (1, [.ref aH, .ref aL, .ref aS, .ref aO, .ref aK, .ref aZ, .ref cv, .int tcn, .int mcn, .int swd, .int rwd, .int bpt, .int flm])), (aZ, .inl (cZ, 4, .inl op))]) hD hS hA [0, 5] rfl
    refine va_calli (va_runV (As := []) (rest := []) ⟨hx, hb, hml, hown, hts⟩ (c_X1_hasOpenMeld l dC dI cI cZ x aH aL aS aO aK aZ cv H.size tcn mcn swd rwd bpt flm op _ hw) (cwV 0 hts gX1_fansNow_X1_hasOpenMeld rfl rfl rfl (by decide +kernel) ⟨Nat.le_of_ble_eq_true rfl, Nat.le_of_ble_eq_true rfl⟩) ⟨fun a U g mk q => by obtain ⟨q0, q1, qP, qK, qD⟩ := q; exact ⟨q0, q1, qP, va_K.moved (u := U) (U := U.calling g mk a) (Vm.Alike.refl U.vm) qK, qD⟩, va_recv hK hPc (ci := 1) (q0 := 0) rfl rfl, fun U hU hW => ⟨rfl, by rw [hU], by rw [hU]; exact hPc, va_K.moved hW.alike hK, hDc.weaken (fun _ _ _ _ => trivial)⟩⟩ rfl rfl hl.1 rfl (lv_room (Nat.le_of_ble_eq_true rfl)) dX1_fansNow_27 ⟨Nat.le_of_ble_eq_true rfl, Nat.le_of_ble_eq_true rfl⟩) hS (fun q _ h => hFc q h) hFc (fun r8 u t H1 locs ht hvm hw hB hz1 hk1 hS => ?_)
    obtain ⟨hP1, -, hD1⟩ := hB
    have hw := And.intro hw trivial
    try dsimp only at hw
    have hw := hw.1
    rw [ht] at hP1
    obtain ⟨hP, hD⟩ := va_join (wr := [(aH, .inl (cI, 34, .inl hd)), (aL, .inl (cI, 34, .inl la)), (aO, .inl (cI, 4, .inl so)), (aK, .inl (cI, 4, .inl ki))]) (w1 := [(x, .inr (1, [.ref aH, .ref aL, .ref aS, .ref aO, .ref aK, .ref aZ, .ref cv, .int tcn, .int mcn, .int swd, .int rwd, .int bpt, .int flm])), (aZ, .inl (cZ, 4, .inl op))]) hP hD [0, 5] [1, 2, 3, 4] rfl rfl (by decide) (by decide) hk1 hFc hP1 hD1
    generalize H1 = H at hP hS ⊢
    have hP : va_P (dC, dI) vwCl [(aH, .inl (cI, 34, .inl hd)), (aL, .inl (cI, 34, .inl la)), (aO, .inl (cI, 4, .inl so)), (aK, .inl (cI, 4, .inl ki)), (x, .inr (1, [.ref aH, .ref aL, .ref aS, .ref aO, .ref aK, .ref aZ, .ref cv, .int tcn, .int mcn, .int swd, .int rwd, .int bpt, .int flm])), (aZ, .inl (cZ, 4, .inl op))] H := hP
    have hD : va_D A [(aH, .inl (cI, 34, .inl hd)), (aL, .inl (cI, 34, .inl la)), (aO, .inl (cI, 4, .inl so)), (aK, .inl (cI, 4, .inl ki)), (x, .inr (1, [.ref aH, .ref aL, .ref aS, .ref aO, .ref aK, .ref aZ, .ref cv, .int tcn, .int mcn, .int swd, .int rwd, .int bpt, .int flm])), (aZ, .inl (cZ, 4, .inl op))] := hD
    refine lv_if_eq (tgt := 37) hx hb dX1_fansNow_30 (by decide) (fun c9 => ?_) (fun c9 => ?_)
    · have hw := hw.1 c9
      refine lv_iload_n hx hb dX1_fansNow_37 rfl (lv_at hl 1 rfl) ?_
      refine lv_iconst (v := 1) hx hb dX1_fansNow_38 (by decide) ?_
      refine lv_iadd hx hb dX1_fansNow_39 ?_
      have hP9 := hP.sub (ws' := [(x, .inr (1, [.ref aH, .ref aL, .ref aS, .ref aO, .ref aK, .ref aZ, .ref cv, .int tcn, .int mcn, .int swd, .int rwd, .int bpt, .int flm])), (aH, .inl (cI, 34, .inl hd)), (aL, .inl (cI, 34, .inl la)), (aO, .inl (cI, 4, .inl so)), (aK, .inl (cI, 4, .inl ki)), (aZ, .inl (cZ, 4, .inl op))]) [4, 0, 1, 2, 3, 5] rfl
      have hD9 := hD.sub (ws' := [(x, .inr (1, [.ref aH, .ref aL, .ref aS, .ref aO, .ref aK, .ref aZ, .ref cv, .int tcn, .int mcn, .int swd, .int rwd, .int bpt, .int flm])), (aH, .inl (cI, 34, .inl hd)), (aL, .inl (cI, 34, .inl la)), (aO, .inl (cI, 4, .inl so)), (aK, .inl (cI, 4, .inl ki)), (aZ, .inl (cZ, 4, .inl op))]) [4, 0, 1, 2, 3, 5] (by decide) rfl
      rw [← hQ9]
      exact W.iret (v := v3 + (1 : Int32)) hx hb hr (fun t ht hW => ⟨⟨v3 + (1 : Int32), (hd, so, ki), rfl, hw, by rw [ht]; exact hP9, va_K.moved hW.alike hK, hD9⟩, hS.F ht⟩) hS.2.2 dX1_fansNow_40
    · have hw := hw.2 c9
      refine lv_iload_n hx hb dX1_fansNow_33 rfl (lv_at hl 1 rfl) ?_
      refine lv_goto (tgt := 40) hx hb dX1_fansNow_34 (by decide) ?_
      have hP9 := hP.sub (ws' := [(x, .inr (1, [.ref aH, .ref aL, .ref aS, .ref aO, .ref aK, .ref aZ, .ref cv, .int tcn, .int mcn, .int swd, .int rwd, .int bpt, .int flm])), (aH, .inl (cI, 34, .inl hd)), (aL, .inl (cI, 34, .inl la)), (aO, .inl (cI, 4, .inl so)), (aK, .inl (cI, 4, .inl ki)), (aZ, .inl (cZ, 4, .inl op))]) [4, 0, 1, 2, 3, 5] rfl
      have hD9 := hD.sub (ws' := [(x, .inr (1, [.ref aH, .ref aL, .ref aS, .ref aO, .ref aK, .ref aZ, .ref cv, .int tcn, .int mcn, .int swd, .int rwd, .int bpt, .int flm])), (aH, .inl (cI, 34, .inl hd)), (aL, .inl (cI, 34, .inl la)), (aO, .inl (cI, 4, .inl so)), (aK, .inl (cI, 4, .inl ki)), (aZ, .inl (cZ, 4, .inl op))]) [4, 0, 1, 2, 3, 5] (by decide) rfl
      rw [← hQ9]
      exact W.iret (v := v3) hx hb hr (fun t ht hW => ⟨⟨v3, (hd, so, ki), rfl, hw, by rw [ht]; exact hP9, va_K.moved hW.alike hK, hD9⟩, hS.F ht⟩) hS.2.2 dX1_fansNow_40
  refine lv_aload_n hx hb dX1_fansNow_0 rfl (lv_at hl 0 rfl) ?_
  have hPc := hP.sub (ws' := [(x, .inr (1, [.ref aH, .ref aL, .ref aS, .ref aO, .ref aK, .ref aZ, .ref cv, .int tcn, .int mcn, .int swd, .int rwd, .int bpt, .int flm])), (aH, .inl (cI, 34, .inl hd)), (aO, .inl (cI, 4, .inl so)), (aK, .inl (cI, 4, .inl ki))]) [0, 1, 3, 4] rfl
  have hDc := hD.sub (ws' := [(x, .inr (1, [.ref aH, .ref aL, .ref aS, .ref aO, .ref aK, .ref aZ, .ref cv, .int tcn, .int mcn, .int swd, .int rwd, .int bpt, .int flm])), (aH, .inl (cI, 34, .inl hd)), (aO, .inl (cI, 4, .inl so)), (aK, .inl (cI, 4, .inl ki))]) [0, 1, 3, 4] (by decide) rfl
  have hFc := va_free (wc := [(x, .inr (1, [.ref aH, .ref aL, .ref aS, .ref aO, .ref aK, .ref aZ, .ref cv, .int tcn, .int mcn, .int swd, .int rwd, .int bpt, .int flm])), (aH, .inl (cI, 34, .inl hd)), (aO, .inl (cI, 4, .inl so)), (aK, .inl (cI, 4, .inl ki))]) hD hS hA [0, 1, 3, 4] rfl
  refine va_calli (va_runV (As := []) (rest := []) ⟨hx, hb, hml, hown, hts⟩ (c_X1_bestArrangement l dC dI cI cZ x aH aL aS aO aK aZ cv s.heap.size tcn mcn swd rwd bpt flm hd so ki _ hw) (cwV 0 hts gX1_fansNow_X1_bestArrangement rfl rfl rfl (by decide +kernel) ⟨Nat.le_of_ble_eq_true rfl, Nat.le_of_ble_eq_true rfl⟩) ⟨fun a U g mk q => by obtain ⟨q0, q1, qP, qK, qD⟩ := q; exact ⟨q0, q1, qP, va_K.moved (u := U) (U := U.calling g mk a) (Vm.Alike.refl U.vm) qK, qD⟩, va_recv hK hPc (ci := 1) (q0 := 0) rfl rfl, fun U hU hW => ⟨rfl, by rw [hU], by rw [hU]; exact hPc, va_K.moved hW.alike hK, hDc.weaken (fun _ _ _ _ => trivial)⟩⟩ rfl rfl hl.1 rfl (lv_room (Nat.le_of_ble_eq_true rfl)) dX1_fansNow_1 ⟨Nat.le_of_ble_eq_true rfl, Nat.le_of_ble_eq_true rfl⟩) hS (fun q _ h => hFc q h) hFc (fun r1 u t H1 locs ht hvm hw hB hz1 hk1 hS => ?_)
  obtain ⟨hd_2, so_3, ki_4⟩ := u
  obtain ⟨hP1, -, hD1⟩ := hB
  have hw := And.intro hw trivial
  try dsimp only at hw
  have hw := hw.1
  rw [ht] at hP1
  obtain ⟨hP, hD⟩ := va_join (wr := [(aL, .inl (cI, 34, .inl la)), (aZ, .inl (cZ, 4, .inl op))]) (w1 := [(x, .inr (1, [.ref aH, .ref aL, .ref aS, .ref aO, .ref aK, .ref aZ, .ref cv, .int tcn, .int mcn, .int swd, .int rwd, .int bpt, .int flm])), (aH, .inl (cI, 34, .inl hd_2)), (aO, .inl (cI, 4, .inl so_3)), (aK, .inl (cI, 4, .inl ki_4))]) hP hD [0, 1, 3, 4] [2, 5] rfl rfl (by decide) (by decide) hk1 hFc hP1 hD1
  generalize H1 = H at hP hS ⊢
  have hP : va_P (dC, dI) vwCl [(aL, .inl (cI, 34, .inl la)), (aZ, .inl (cZ, 4, .inl op)), (x, .inr (1, [.ref aH, .ref aL, .ref aS, .ref aO, .ref aK, .ref aZ, .ref cv, .int tcn, .int mcn, .int swd, .int rwd, .int bpt, .int flm])), (aH, .inl (cI, 34, .inl hd_2)), (aO, .inl (cI, 4, .inl so_3)), (aK, .inl (cI, 4, .inl ki_4))] H := hP
  have hD : va_D A [(aL, .inl (cI, 34, .inl la)), (aZ, .inl (cZ, 4, .inl op)), (x, .inr (1, [.ref aH, .ref aL, .ref aS, .ref aO, .ref aK, .ref aZ, .ref cv, .int tcn, .int mcn, .int swd, .int rwd, .int bpt, .int flm])), (aH, .inl (cI, 34, .inl hd_2)), (aO, .inl (cI, 4, .inl so_3)), (aK, .inl (cI, 4, .inl ki_4))] := hD
  refine lv_istore_n (lv' := [(2, .int r1), (0, .ref x), (1, .int p0)]) hx hb dX1_fansNow_4 rfl hl (by decide) rfl (fun ls hl => ?_)
  refine lv_iload_n hx hb dX1_fansNow_5 rfl (lv_at hl 0 rfl) ?_
  refine lv_iconst (v := -1) hx hb dX1_fansNow_6 (by decide) ?_
  refine lv_icmp_ne (tgt := 12) hx hb dX1_fansNow_7 (by decide) (fun c5 => ?_) (fun c5 => ?_)
  · have hw := hw.2 c5
    refine lv_iload_n hx hb dX1_fansNow_12 rfl (lv_at hl 0 rfl) ?_
    refine lv_aload_n hx hb dX1_fansNow_13 rfl (lv_at hl 1 rfl) ?_
    have hPc := hP.sub (ws' := [(x, .inr (1, [.ref aH, .ref aL, .ref aS, .ref aO, .ref aK, .ref aZ, .ref cv, .int tcn, .int mcn, .int swd, .int rwd, .int bpt, .int flm])), (aH, .inl (cI, 34, .inl hd_2)), (aL, .inl (cI, 34, .inl la))]) [2, 3, 0] rfl
    have hDc := hD.sub (ws' := [(x, .inr (1, [.ref aH, .ref aL, .ref aS, .ref aO, .ref aK, .ref aZ, .ref cv, .int tcn, .int mcn, .int swd, .int rwd, .int bpt, .int flm])), (aH, .inl (cI, 34, .inl hd_2)), (aL, .inl (cI, 34, .inl la))]) [2, 3, 0] (by decide) rfl
    have hFc := va_free (wc := [(x, .inr (1, [.ref aH, .ref aL, .ref aS, .ref aO, .ref aK, .ref aZ, .ref cv, .int tcn, .int mcn, .int swd, .int rwd, .int bpt, .int flm])), (aH, .inl (cI, 34, .inl hd_2)), (aL, .inl (cI, 34, .inl la))]) hD hS hA [2, 3, 0] rfl
    refine va_calli (va_runV (As := []) (rest := [.int r1]) ⟨hx, hb, hml, hown, hts⟩ (c_X1_tileFans l dC dI cI cZ x aH aL aS aO aK aZ cv H.size tcn mcn swd rwd bpt flm hd_2 la _ hw) (cwV 0 hts gX1_fansNow_X1_tileFans rfl rfl rfl (by decide +kernel) ⟨Nat.le_of_ble_eq_true rfl, Nat.le_of_ble_eq_true rfl⟩) ⟨fun a U g mk q => by obtain ⟨q0, q1, qP, qK, qD⟩ := q; exact ⟨q0, q1, qP, va_K.moved (u := U) (U := U.calling g mk a) (Vm.Alike.refl U.vm) qK, qD⟩, va_recv hK hPc (ci := 1) (q0 := 0) rfl rfl, fun U hU hW => ⟨rfl, by rw [hU], by rw [hU]; exact hPc, va_K.moved hW.alike hK, hDc.weaken (fun _ _ _ _ => trivial)⟩⟩ rfl rfl hl.1 rfl (lv_room (Nat.le_of_ble_eq_true rfl)) dX1_fansNow_14 ⟨Nat.le_of_ble_eq_true rfl, Nat.le_of_ble_eq_true rfl⟩) hS (fun q _ h => hFc q h) hFc (fun r6 u t H1 locs ht hvm hw hB hz1 hk1 hS => ?_)
    obtain ⟨hP1, -, hD1⟩ := hB
    have hw := And.intro hw trivial
    try dsimp only at hw
    have hw := hw.1
    rw [ht] at hP1
    obtain ⟨hP, hD⟩ := va_join (wr := [(aZ, .inl (cZ, 4, .inl op)), (aO, .inl (cI, 4, .inl so_3)), (aK, .inl (cI, 4, .inl ki_4))]) (w1 := [(x, .inr (1, [.ref aH, .ref aL, .ref aS, .ref aO, .ref aK, .ref aZ, .ref cv, .int tcn, .int mcn, .int swd, .int rwd, .int bpt, .int flm])), (aH, .inl (cI, 34, .inl hd_2)), (aL, .inl (cI, 34, .inl la))]) hP hD [2, 3, 0] [1, 4, 5] rfl rfl (by decide) (by decide) hk1 hFc hP1 hD1
    generalize H1 = H at hP hS ⊢
    have hP : va_P (dC, dI) vwCl [(aZ, .inl (cZ, 4, .inl op)), (aO, .inl (cI, 4, .inl so_3)), (aK, .inl (cI, 4, .inl ki_4)), (x, .inr (1, [.ref aH, .ref aL, .ref aS, .ref aO, .ref aK, .ref aZ, .ref cv, .int tcn, .int mcn, .int swd, .int rwd, .int bpt, .int flm])), (aH, .inl (cI, 34, .inl hd_2)), (aL, .inl (cI, 34, .inl la))] H := hP
    have hD : va_D A [(aZ, .inl (cZ, 4, .inl op)), (aO, .inl (cI, 4, .inl so_3)), (aK, .inl (cI, 4, .inl ki_4)), (x, .inr (1, [.ref aH, .ref aL, .ref aS, .ref aO, .ref aK, .ref aZ, .ref cv, .int tcn, .int mcn, .int swd, .int rwd, .int bpt, .int flm])), (aH, .inl (cI, 34, .inl hd_2)), (aL, .inl (cI, 34, .inl la))] := hD
    refine lv_iadd hx hb dX1_fansNow_17 ?_
    refine lv_istore_n (lv' := [(3, .int (r1 + r6)), (2, .int r1), (0, .ref x), (1, .int p0)]) hx hb dX1_fansNow_18 rfl hl (by decide) rfl (fun ls hl => ?_)
    refine lv_iload_n hx hb dX1_fansNow_19 rfl (lv_at hl 3 rfl) ?_
    refine lv_if_eq (tgt := 26) hx hb dX1_fansNow_20 (by decide) (fun c7 => ?_) (fun c7 => ?_)
    · have hw := hw.1 c7
      have hP9 := hP.sub (ws' := [(x, .inr (1, [.ref aH, .ref aL, .ref aS, .ref aO, .ref aK, .ref aZ, .ref cv, .int tcn, .int mcn, .int swd, .int rwd, .int bpt, .int flm])), (aH, .inl (cI, 34, .inl hd_2)), (aL, .inl (cI, 34, .inl la)), (aO, .inl (cI, 4, .inl so_3)), (aK, .inl (cI, 4, .inl ki_4)), (aZ, .inl (cZ, 4, .inl op))]) [3, 4, 5, 1, 2, 0] rfl
      have hD9 := hD.sub (ws' := [(x, .inr (1, [.ref aH, .ref aL, .ref aS, .ref aO, .ref aK, .ref aZ, .ref cv, .int tcn, .int mcn, .int swd, .int rwd, .int bpt, .int flm])), (aH, .inl (cI, 34, .inl hd_2)), (aL, .inl (cI, 34, .inl la)), (aO, .inl (cI, 4, .inl so_3)), (aK, .inl (cI, 4, .inl ki_4)), (aZ, .inl (cZ, 4, .inl op))]) [3, 4, 5, 1, 2, 0] (by decide) rfl
      exact L26 (r1 + r6) hd_2 so_3 ki_4 _ _ _ hw hP9 hD9 hS (lv_sub hl [2, 0] rfl)
    · have hw := hw.2 c7
      refine lv_iinc (v := (r1 + r6) + 1) (lv' := [(3, .int ((r1 + r6) + 1)), (2, .int r1), (0, .ref x), (1, .int p0)]) hx hb dX1_fansNow_23 hl (k := 0) rfl rfl (by decide) rfl (fun ls hl => ?_)
      have hP9 := hP.sub (ws' := [(x, .inr (1, [.ref aH, .ref aL, .ref aS, .ref aO, .ref aK, .ref aZ, .ref cv, .int tcn, .int mcn, .int swd, .int rwd, .int bpt, .int flm])), (aH, .inl (cI, 34, .inl hd_2)), (aL, .inl (cI, 34, .inl la)), (aO, .inl (cI, 4, .inl so_3)), (aK, .inl (cI, 4, .inl ki_4)), (aZ, .inl (cZ, 4, .inl op))]) [3, 4, 5, 1, 2, 0] rfl
      have hD9 := hD.sub (ws' := [(x, .inr (1, [.ref aH, .ref aL, .ref aS, .ref aO, .ref aK, .ref aZ, .ref cv, .int tcn, .int mcn, .int swd, .int rwd, .int bpt, .int flm])), (aH, .inl (cI, 34, .inl hd_2)), (aL, .inl (cI, 34, .inl la)), (aO, .inl (cI, 4, .inl so_3)), (aK, .inl (cI, 4, .inl ki_4)), (aZ, .inl (cZ, 4, .inl op))]) [3, 4, 5, 1, 2, 0] (by decide) rfl
      exact L26 ((r1 + r6) + 1) hd_2 so_3 ki_4 _ _ _ hw hP9 hD9 hS (lv_sub hl [2, 0] rfl)
  · have hw := hw.1 c5
    refine lv_iconst (v := -1) hx hb dX1_fansNow_10 (by decide) ?_
    have hP9 := hP.sub (ws' := [(x, .inr (1, [.ref aH, .ref aL, .ref aS, .ref aO, .ref aK, .ref aZ, .ref cv, .int tcn, .int mcn, .int swd, .int rwd, .int bpt, .int flm])), (aH, .inl (cI, 34, .inl hd_2)), (aL, .inl (cI, 34, .inl la)), (aO, .inl (cI, 4, .inl so_3)), (aK, .inl (cI, 4, .inl ki_4)), (aZ, .inl (cZ, 4, .inl op))]) [2, 3, 0, 4, 5, 1] rfl
    have hD9 := hD.sub (ws' := [(x, .inr (1, [.ref aH, .ref aL, .ref aS, .ref aO, .ref aK, .ref aZ, .ref cv, .int tcn, .int mcn, .int swd, .int rwd, .int bpt, .int flm])), (aH, .inl (cI, 34, .inl hd_2)), (aL, .inl (cI, 34, .inl la)), (aO, .inl (cI, 4, .inl so_3)), (aK, .inl (cI, 4, .inl ki_4)), (aZ, .inl (cZ, 4, .inl op))]) [2, 3, 0, 4, 5, 1] (by decide) rfl
    rw [← hQ9]
    exact W.iret (v := (-1 : Int32)) hx hb hr (fun t ht hW => ⟨⟨(-1 : Int32), (hd_2, so_3, ki_4), rfl, hw, by rw [ht]; exact hP9, va_K.moved hW.alike hK, hD9⟩, hS.F ht⟩) hS.2.2 dX1_fansNow_11
