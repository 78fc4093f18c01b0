def w_X1_isHonour (p0 : Int32) (post : Int32 → Prop) : Prop := ((p0 < (27 : Int32) → (post (0 : Int32))) ∧ (¬ p0 < (27 : Int32) → (post (1 : Int32))))

set_option maxHeartbeats 4000000 in
set_option maxRecDepth 100000 in
theorem c_X1_isHonour (l : Launch) (dC : Nat → ClassId) (dI : Nat → Nat → Nat) (cI cZ : ClassId) (sz : Nat) (p0 : Int32) (post : Int32 → Prop) (hw : w_X1_isHonour p0 post) : Met l yX1_isHonour wsX1_isHonour ({ frames := 0, cells := 0, slots := 0, locals := 0 } : Room) (va_Pc [.int p0] (fun U => U.heap.size = sz ∧ va_P (dC, dI) vwCl [] U.heap ∧ va_K (dC, dI) vwCl [(cI, .int), (cZ, .boolean)] U ∧ va_D (fun _ => True) [])) (va_Qi (fun (r9 : Int32) (u9 : Unit) => post r9) (fun (u9 : Unit) (t9 : State) => va_P (dC, dI) vwCl [] t9.heap ∧ va_K (dC, dI) vwCl [(cI, .int), (cZ, .boolean)] t9 ∧ va_D (va_A [] sz) []) (va_A [] sz)) 0 0 (va_A [] sz) := by
  refine Met.ofW (cc := cX1_isHonour) (maxL := 1) (ret := (some .boolean)) (by decide) rfl ?_
  intro p e s m args below meth c s₁ B hml hv
  obtain ⟨rfl, hsz, hP, hK, hD0⟩ := hv
  have hx := B.exec
  have hb := B.bytes
  have hr := B.returns
  have hts := atoms_spec (ws := wsX1_isHonour) B.pre
  have hown : s.vm.findClass RX1 = some m.cls := findClass_of_methodNamed B.named
  have hlocks := B.notSynchronized
  subst hsz
  have hD := hD0.self (sz := s.heap.size)
  generalize hAe : va_A [] s.heap.size = A at hD ⊢
  have hA : ∀ q : Nat, s.heap.size ≤ q → A q := fun q h => by rw [← hAe]; exact Or.inr h
  have hS : va_S A s.heap s.heap [] := va_S.rf
  have hl := lv_entry ([.int p0]) (n := 1) (Nat.le_of_ble_eq_true rfl)
  rw [lg_entry_eq]
  generalize (lg_sl ([.int p0]) ++ List.replicate (1 - (lg_sl ([.int p0])).length) Slot.unset).toArray = ls at hl ⊢
  have hl : lv_has ls 1 [(0, .int p0)] := hl
  refine (?_ : ∀ Q9 : State → Prop, MQ below _ _ s _ _ _ = Q9 → W p l e ({ frames := 0, cells := 0, slots := 0, locals := 0 } : Room) s m _ below meth c s.heap [] 0 0 Q9 (F0 m 0 ls [])) _ rfl
  intro Q9 hQ9
  have hw : ((p0 < (27 : Int32) → (post (0 : Int32))) ∧ (¬ p0 < (27 : Int32) → (post (1 : Int32)))) := hw
  refine lv_iload_n hx hb dX1_isHonour_0 rfl (lv_at hl 0 rfl) ?_
  refine lv_bipush (v := 27) hx hb dX1_isHonour_1 (by decide) ?_
  refine lv_icmp_lt (tgt := 10) hx hb dX1_isHonour_3 (by decide) (fun c1 => ?_) (fun c1 => ?_)
  · have hw := hw.1 c1
    refine lv_iconst (v := 0) hx hb dX1_isHonour_10 (by decide) ?_
    rw [← hQ9]
    exact W.zret (v := (0 : Int32)) hx hb hr rfl (fun t ht hW => ⟨⟨(0 : Int32), (), rfl, hw, by rw [ht]; exact hP, va_K.moved hW.alike hK, hD⟩, hS.F ht⟩) hS.2.2 dX1_isHonour_11
  · have hw := hw.2 c1
    refine lv_iconst (v := 1) hx hb dX1_isHonour_6 (by decide) ?_
    refine lv_goto (tgt := 11) hx hb dX1_isHonour_7 (by decide) ?_
    rw [← hQ9]
    exact W.zret (v := (1 : Int32)) hx hb hr rfl (fun t ht hW => ⟨⟨(1 : Int32), (), rfl, hw, by rw [ht]; exact hP, va_K.moved hW.alike hK, hD⟩, hS.F ht⟩) hS.2.2 dX1_isHonour_11

def w_X1_isEnd_b22 (post : Int32 → Prop) (p0 : Int32) : Prop := post (1 : Int32)

def w_X1_isEnd (p0 : Int32) (post : Int32 → Prop) : Prop := ∀ t1 : Int32, t1 = p0 - p0 / (9 : Int32) * (9 : Int32) → (w_X1_isHonour p0 (fun r2 => (((r2 = 0 → (((t1 = 0 → (w_X1_isEnd_b22 post p0)) ∧ (¬ t1 = 0 → (((t1 = (8 : Int32) → (w_X1_isEnd_b22 post p0)) ∧ (¬ t1 = (8 : Int32) → (post (0 : Int32))))))))) ∧ (¬ r2 = 0 → (post (0 : Int32)))))))

set_option maxHeartbeats 4000000 in
set_option maxRecDepth 100000 in
theorem c_X1_isEnd (l : Launch) (dC : Nat → ClassId) (dI : Nat → Nat → Nat) (cI cZ : ClassId) (sz : Nat) (p0 : Int32) (post : Int32 → Prop) (hw : w_X1_isEnd p0 post) : Met l yX1_isEnd wsX1_isEnd ({ frames := 2, cells := 0, slots := 0, locals := 40 } : Room) (va_Pc [.int p0] (fun U => U.heap.size = sz ∧ va_P (dC, dI) vwCl [] U.heap ∧ va_K (dC, dI) vwCl [(cI, .int), (cZ, .boolean)] U ∧ va_D (fun _ => True) [])) (va_Qi (fun (r9 : Int32) (u9 : Unit) => post r9) (fun (u9 : Unit) (t9 : State) => va_P (dC, dI) vwCl [] t9.heap ∧ va_K (dC, dI) vwCl [(cI, .int), (cZ, .boolean)] t9 ∧ va_D (va_A [] sz) []) (va_A [] sz)) 0 0 (va_A [] sz) := by
  refine Met.ofW (cc := cX1_isEnd) (maxL := 2) (ret := (some .boolean)) (by decide) rfl ?_
  intro p e s m args below meth c s₁ B hml hv
  obtain ⟨rfl, hsz, hP, hK, hD0⟩ := hv
  have hx := B.exec
  have hb := B.bytes
  have hr := B.returns
  have hts := atoms_spec (ws := wsX1_isEnd) B.pre
  have hown : s.vm.findClass RX1 = some m.cls := findClass_of_methodNamed B.named
  have hlocks := B.notSynchronized
  subst hsz
  have hD := hD0.self (sz := s.heap.size)
  generalize hAe : va_A [] s.heap.size = A at hD ⊢
  have hA : ∀ q : Nat, s.heap.size ≤ q → A q := fun q h => by rw [← hAe]; exact Or.inr h
  have hS : va_S A s.heap s.heap [] := va_S.rf
  have hl := lv_entry ([.int p0]) (n := 2) (Nat.le_of_ble_eq_true rfl)
  rw [lg_entry_eq]
  generalize (lg_sl ([.int p0]) ++ List.replicate (2 - (lg_sl ([.int p0])).length) Slot.unset).toArray = ls at hl ⊢
  have hl : lv_has ls 2 [(0, .int p0)] := hl
  refine (?_ : ∀ Q9 : State → Prop, MQ below _ _ s _ _ _ = Q9 → W p l e ({ frames := 2, cells := 0, slots := 0, locals := 40 } : Room) s m _ below meth c s.heap [] 0 0 Q9 (F0 m 0 ls [])) _ rfl
  intro Q9 hQ9
  have hw : ∀ t1 : Int32, t1 = p0 - p0 / (9 : Int32) * (9 : Int32) → (w_X1_isHonour p0 (fun r2 => (((r2 = 0 → (((t1 = 0 → (w_X1_isEnd_b22 post p0)) ∧ (¬ t1 = 0 → (((t1 = (8 : Int32) → (w_X1_isEnd_b22 post p0)) ∧ (¬ t1 = (8 : Int32) → (post (0 : Int32))))))))) ∧ (¬ r2 = 0 → (post (0 : Int32))))))) := hw
  have L22 : ∀ (H : Heap) (locs : List Loc) (ls : Array Slot), w_X1_isEnd_b22 post p0 → va_P (dC, dI) vwCl [] H → va_D A [] → va_S A s.heap H locs → lv_has ls 2 [] → W p l e ({ frames := 2, cells := 0, slots := 0, locals := 40 } : Room) s m ([.int p0] : List Value).toArray below meth c H locs 0 0 Q9 (F0 m 22 ls []) := by
    intro H locs ls hw hP hD hS hl
    refine lv_iconst (v := 1) hx hb dX1_isEnd_22 (by decide) ?_
    refine lv_goto (tgt := 27) hx hb dX1_isEnd_23 (by decide) ?_
    rw [← hQ9]
    exact W.zret (v := (1 : Int32)) hx hb hr rfl (fun t ht hW => ⟨⟨(1 : Int32), (), rfl, hw, by rw [ht]; exact hP, va_K.moved hW.alike hK, hD⟩, hS.F ht⟩) hS.2.2 dX1_isEnd_27
  refine lv_iload_n hx hb dX1_isEnd_0 rfl (lv_at hl 0 rfl) ?_
  refine lv_bipush (v := 9) hx hb dX1_isEnd_1 (by decide) ?_
  refine lv_irem hx hb dX1_isEnd_3 (by decide) ?_
  refine lv_topi (fun t1 et1 => ?_)
  have hw := hw t1 et1
  refine lv_istore_n (lv' := [(1, .int t1), (0, .int p0)]) hx hb dX1_isEnd_4 rfl hl (by decide) rfl (fun ls hl => ?_)
  refine lv_iload_n hx hb dX1_isEnd_5 rfl (lv_at hl 1 rfl) ?_
  have hPc := hP.sub (ws' := []) [] rfl
  have hDc := hD.sub (ws' := []) [] (by decide) rfl
  have hFc := va_free (wc := []) hD hS hA [] rfl
  refine va_calli (va_runS (As := [.int p0]) (rest := []) ⟨hx, hb, hml, hown, hts⟩ (c_X1_isHonour l dC dI cI cZ s.heap.size p0 _ hw) (va_cwS 1 hts gX1_isEnd_X1_isHonour rfl rfl rfl (by decide +kernel) ⟨Nat.le_of_ble_eq_true rfl, Nat.le_of_ble_eq_true rfl⟩) ⟨fun a U g mk q => by obtain ⟨q0, q1, qP, qK, qD⟩ := q; exact ⟨q0, q1, qP, va_K.moved (u := U) (U := U.calling g mk a) (Vm.Alike.refl U.vm) qK, qD⟩, fun U hU hW => ⟨rfl, by rw [hU], by rw [hU]; exact hPc, va_K.moved hW.alike hK, hDc.weaken (fun _ _ _ _ => trivial)⟩⟩ rfl rfl hl.1 rfl (lv_room (Nat.le_of_ble_eq_true rfl)) dX1_isEnd_6 ⟨Nat.le_of_ble_eq_true rfl, Nat.le_of_ble_eq_true rfl⟩) hS (fun q _ h => hFc q h) hFc (fun r2 u t H1 locs ht hvm hw hB hz1 hk1 hS => ?_)
  obtain ⟨hP1, -, hD1⟩ := hB
  have hw := And.intro hw trivial
  try dsimp only at hw
  have hw := hw.1
  rw [ht] at hP1
  obtain ⟨hP, hD⟩ := va_join (wr := []) (w1 := []) hP hD [] [] rfl rfl (by decide) (by decide) hk1 hFc hP1 hD1
  generalize H1 = H at hP hS ⊢
  have hP : va_P (dC, dI) vwCl [] H := hP
  have hD : va_D A [] := hD
  refine lv_if_ne (tgt := 26) hx hb dX1_isEnd_9 (by decide) (fun c3 => ?_) (fun c3 => ?_)
  · have hw := hw.2 c3
    refine lv_iconst (v := 0) hx hb dX1_isEnd_26 (by decide) ?_
    rw [← hQ9]
    exact W.zret (v := (0 : Int32)) hx hb hr rfl (fun t ht hW => ⟨⟨(0 : Int32), (), rfl, hw, by rw [ht]; exact hP, va_K.moved hW.alike hK, hD⟩, hS.F ht⟩) hS.2.2 dX1_isEnd_27
  · have hw := hw.1 c3
    refine lv_iload_n hx hb dX1_isEnd_12 rfl (lv_at hl 0 rfl) ?_
    refine lv_if_eq (tgt := 22) hx hb dX1_isEnd_13 (by decide) (fun c4 => ?_) (fun c4 => ?_)
    · have hw := hw.1 c4
      exact L22 _ _ _ hw hP hD hS (lv_sub hl [] rfl)
    · have hw := hw.2 c4
      refine lv_iload_n hx hb dX1_isEnd_16 rfl (lv_at hl 0 rfl) ?_
      refine lv_bipush (v := 8) hx hb dX1_isEnd_17 (by decide) ?_
      refine lv_icmp_ne (tgt := 26) hx hb dX1_isEnd_19 (by decide) (fun c5 => ?_) (fun c5 => ?_)
      · have hw := hw.2 c5
        refine lv_iconst (v := 0) hx hb dX1_isEnd_26 (by decide) ?_
        rw [← hQ9]
        exact W.zret (v := (0 : Int32)) hx hb hr rfl (fun t ht hW => ⟨⟨(0 : Int32), (), rfl, hw, by rw [ht]; exact hP, va_K.moved hW.alike hK, hD⟩, hS.F ht⟩) hS.2.2 dX1_isEnd_27
      · have hw := hw.1 c5
        exact L22 _ _ _ hw hP hD hS (lv_sub hl [] rfl)

def w_X1_heldByOrphans_b50 (post : Int32 → Prop) (hd : (Nat → Int32)) (K6 : Int32 → Int32 → Int32 → Prop) (v1 : Int32) (v2 : Int32) (v3 : Int32) : Prop := K6 v1 v2 (v3 + 1)

def w_X1_heldByOrphans_b38 (post : Int32 → Prop) (hd : (Nat → Int32)) (K6 : Int32 → Int32 → Int32 → Prop) (v1 : Int32) (v2 : Int32) (v3 : Int32) : Prop := vp_in v3 34 ∧ ((((hd v3.toNatClampNeg) ≤ (1 : Int32) → (w_X1_heldByOrphans_b50 post hd K6 v1 v2 v3)) ∧ (¬ (hd v3.toNatClampNeg) ≤ (1 : Int32) → (w_X1_heldByOrphans_b50 post hd K6 v1 (1 : Int32) v3))))

def w_X1_heldByOrphans_b26 (post : Int32 → Prop) (hd : (Nat → Int32)) (K6 : Int32 → Int32 → Int32 → Prop) (v1 : Int32) (v2 : Int32) (v3 : Int32) : Prop := vp_in v3 34 ∧ ((((hd v3.toNatClampNeg) ≤ 0 → (w_X1_heldByOrphans_b38 post hd K6 v1 v2 v3)) ∧ (¬ (hd v3.toNatClampNeg) ≤ 0 → (w_X1_heldByOrphans_b38 post hd K6 (v1 + 1) v2 v3))))

def w_X1_heldByOrphans_b6 (post : Int32 → Prop) (hd : (Nat → Int32)) : Nat → Int32 → Int32 → Int32 → Prop
  | 0, _, _, _ => False
  | n + 1, v1, v2, v3 => (((34 : Int32) ≤ v3 → (post (v1 + v2))) ∧ (¬ (34 : Int32) ≤ v3 → (w_X1_isEnd v3 (fun r2 => (((r2 = 0 → (w_X1_isHonour v3 (fun r8 => (((r8 = 0 → (w_X1_heldByOrphans_b50 post hd (w_X1_heldByOrphans_b6 post hd n) v1 v2 v3)) ∧ (¬ r8 = 0 → (w_X1_heldByOrphans_b26 post hd (w_X1_heldByOrphans_b6 post hd n) v1 v2 v3))))))) ∧ (¬ r2 = 0 → (w_X1_heldByOrphans_b26 post hd (w_X1_heldByOrphans_b6 post hd n) v1 v2 v3))))))))

def w_X1_heldByOrphans (hd : (Nat → Int32)) (post : Int32 → Prop) : Prop := ∃ n9, w_X1_heldByOrphans_b6 post hd n9 (0 : Int32) (0 : Int32) (0 : Int32)

set_option maxHeartbeats 4000000 in
set_option maxRecDepth 100000 in
theorem c_X1_heldByOrphans (l : Launch) (dC : Nat → ClassId) (dI : Nat → Nat → Nat) (cI cZ : ClassId) (x : Nat) (aH : Nat) (aL : Nat) (aS : Nat) (aO : Nat) (aK : Nat) (aZ : Nat) (cv : Nat) (sz : Nat) (tcn : Int32) (mcn : Int32) (swd : Int32) (rwd : Int32) (bpt : Int32) (flm : Int32) (hd : (Nat → Int32)) (post : Int32 → Prop) (hw : w_X1_heldByOrphans hd post) : Met l yX1_heldByOrphans wsX1_heldByOrphans ({ frames := 3, cells := 0, slots := 0, locals := 61 } : Room) (va_Pc [.ref x] (fun U => U.heap.size = sz ∧ va_P (dC, dI) vwCl [(x, .inr (1, [.ref aH, .ref aL, .ref aS, .ref aO, .ref aK, .ref aZ, .ref cv, .int tcn, .int mcn, .int swd, .int rwd, .int bpt, .int flm])), (aH, .inl (cI, 34, .inl hd))] U.heap ∧ va_K (dC, dI) vwCl [(cI, .int), (cZ, .boolean)] U ∧ va_D (fun _ => True) [(x, .inr (1, [.ref aH, .ref aL, .ref aS, .ref aO, .ref aK, .ref aZ, .ref cv, .int tcn, .int mcn, .int swd, .int rwd, .int bpt, .int flm])), (aH, .inl (cI, 34, .inl hd))])) (va_Qi (fun (r9 : Int32) (u9 : Unit) => post r9) (fun (u9 : Unit) (t9 : State) => va_P (dC, dI) vwCl [(x, .inr (1, [.ref aH, .ref aL, .ref aS, .ref aO, .ref aK, .ref aZ, .ref cv, .int tcn, .int mcn, .int swd, .int rwd, .int bpt, .int flm])), (aH, .inl (cI, 34, .inl hd))] t9.heap ∧ va_K (dC, dI) vwCl [(cI, .int), (cZ, .boolean)] t9 ∧ va_D (va_A [(x, .inr (1, [.ref aH, .ref aL, .ref aS, .ref aO, .ref aK, .ref aZ, .ref cv, .int tcn, .int mcn, .int swd, .int rwd, .int bpt, .int flm])), (aH, .inl (cI, 34, .inl hd))] sz) [(x, .inr (1, [.ref aH, .ref aL, .ref aS, .ref aO, .ref aK, .ref aZ, .ref cv, .int tcn, .int mcn, .int swd, .int rwd, .int bpt, .int flm])), (aH, .inl (cI, 34, .inl hd))]) (va_A [(x, .inr (1, [.ref aH, .ref aL, .ref aS, .ref aO, .ref aK, .ref aZ, .ref cv, .int tcn, .int mcn, .int swd, .int rwd, .int bpt, .int flm])), (aH, .inl (cI, 34, .inl hd))] sz)) 0 0 (va_A [(x, .inr (1, [.ref aH, .ref aL, .ref aS, .ref aO, .ref aK, .ref aZ, .ref cv, .int tcn, .int mcn, .int swd, .int rwd, .int bpt, .int flm])), (aH, .inl (cI, 34, .inl hd))] sz) := by
  refine Met.ofW (cc := cX1_heldByOrphans) (maxL := 4) (ret := (some .int)) (by decide) rfl ?_
  intro p e s m args below meth c s₁ B hml hv
  obtain ⟨rfl, hsz, hP, hK, hD0⟩ := hv
  have hx := B.exec
  have hb := B.bytes
  have hr := B.returns
  have hts := atoms_spec (ws := wsX1_heldByOrphans) B.pre
  have hown : s.vm.findClass RX1 = some m.cls := findClass_of_methodNamed B.named
  have hlocks := B.notSynchronized
  have hinX1 : ∀ w ∈ u_ws RX1 TX1 13, w ∈ wsX1_heldByOrphans := by decide +kernel
  subst hsz
  have hD := hD0.self (sz := s.heap.size)
  generalize hAe : va_A [(x, .inr (1, [.ref aH, .ref aL, .ref aS, .ref aO, .ref aK, .ref aZ, .ref cv, .int tcn, .int mcn, .int swd, .int rwd, .int bpt, .int flm])), (aH, .inl (cI, 34, .inl hd))] s.heap.size = A at hD ⊢
  have hA : ∀ q : Nat, s.heap.size ≤ q → A q := fun q h => by rw [← hAe]; exact Or.inr h
  have hS : va_S A s.heap s.heap [] := va_S.rf
  have hl := lv_entry ([.ref x]) (n := 4) (Nat.le_of_ble_eq_true rfl)
  rw [lg_entry_eq]
  generalize (lg_sl ([.ref x]) ++ List.replicate (4 - (lg_sl ([.ref x])).length) Slot.unset).toArray = ls at hl ⊢
  have hl : lv_has ls 4 [(0, .ref x)] := hl
  refine (?_ : ∀ Q9 : State → Prop, MQ below _ _ s _ _ _ = Q9 → W p l e ({ frames := 3, cells := 0, slots := 0, locals := 61 } : Room) s m _ below meth c s.heap [] 0 0 Q9 (F0 m 0 ls [])) _ rfl
  intro Q9 hQ9
  have hw : ∃ n9, w_X1_heldByOrphans_b6 post hd n9 (0 : Int32) (0 : Int32) (0 : Int32) := hw
  have L50 : ∀ (K6 : Int32 → Int32 → Int32 → Prop) (hK6 : ∀ (v1 : Int32) (v2 : Int32) (v3 : Int32) (H : Heap) (locs : List Loc) (ls : Array Slot), K6 v1 v2 v3 → va_P (dC, dI) vwCl [(x, .inr (1, [.ref aH, .ref aL, .ref aS, .ref aO, .ref aK, .ref aZ, .ref cv, .int tcn, .int mcn, .int swd, .int rwd, .int bpt, .int flm])), (aH, .inl (cI, 34, .inl hd))] H → va_D A [(x, .inr (1, [.ref aH, .ref aL, .ref aS, .ref aO, .ref aK, .ref aZ, .ref cv, .int tcn, .int mcn, .int swd, .int rwd, .int bpt, .int flm])), (aH, .inl (cI, 34, .inl hd))] → va_S A s.heap H locs → lv_has ls 4 [(0, .ref x), (1, .int v1), (2, .int v2), (3, .int v3)] → W p l e ({ frames := 3, cells := 0, slots := 0, locals := 61 } : Room) s m ([.ref x] : List Value).toArray below meth c H locs 0 0 Q9 (F0 m 6 ls [])), ∀ (v1 : Int32) (v2 : Int32) (v3 : Int32) (H : Heap) (locs : List Loc) (ls : Array Slot), w_X1_heldByOrphans_b50 post hd K6 v1 v2 v3 → va_P (dC, dI) vwCl [(x, .inr (1, [.ref aH, .ref aL, .ref aS, .ref aO, .ref aK, .ref aZ, .ref cv, .int tcn, .int mcn, .int swd, .int rwd, .int bpt, .int flm])), (aH, .inl (cI, 34, .inl hd))] H → va_D A [(x, .inr (1, [.ref aH, .ref aL, .ref aS, .ref aO, .ref aK, .ref aZ, .ref cv, .int tcn, .int mcn, .int swd, .int rwd, .int bpt, .int flm])), (aH, .inl (cI, 34, .inl hd))] → va_S A s.heap H locs → lv_has ls 4 [(0, .ref x), (1, .int v1), (2, .int v2), (3, .int v3)] → W p l e ({ frames := 3, cells := 0, slots := 0, locals := 61 } : Room) s m ([.ref x] : List Value).toArray below meth c H locs 0 0 Q9 (F0 m 50 ls []) := by
    intro K6 hK6 v1 v2 v3 H locs ls hw hP hD hS hl
    refine lv_iinc (v := v3 + 1) (lv' := [(3, .int (v3 + 1)), (0, .ref x), (1, .int v1), (2, .int v2)]) hx hb dX1_heldByOrphans_50 hl (k := 3) rfl rfl (by decide) rfl (fun ls hl => ?_)
    refine lv_goto (tgt := 6) hx hb dX1_heldByOrphans_53 (by decide) ?_
    exact hK6 v1 v2 (v3 + 1) _ _ _ hw hP hD hS (lv_sub hl [1, 2, 3, 0] rfl)
  have L38 : ∀ (K6 : Int32 → Int32 → Int32 → Prop) (hK6 : ∀ (v1 : Int32) (v2 : Int32) (v3 : Int32) (H : Heap) (locs : List Loc) (ls : Array Slot), K6 v1 v2 v3 → va_P (dC, dI) vwCl [(x, .inr (1, [.ref aH, .ref aL, .ref aS, .ref aO, .ref aK, .ref aZ, .ref cv, .int tcn, .int mcn, .int swd, .int rwd, .int bpt, .int flm])), (aH, .inl (cI, 34, .inl hd))] H → va_D A [(x, .inr (1, [.ref aH, .ref aL, .ref aS, .ref aO, .ref aK, .ref aZ, .ref cv, .int tcn, .int mcn, .int swd, .int rwd, .int bpt, .int flm])), (aH, .inl (cI, 34, .inl hd))] → va_S A s.heap H locs → lv_has ls 4 [(0, .ref x), (1, .int v1), (2, .int v2), (3, .int v3)] → W p l e ({ frames := 3, cells := 0, slots := 0, locals := 61 } : Room) s m ([.ref x] : List Value).toArray below meth c H locs 0 0 Q9 (F0 m 6 ls [])), ∀ (v1 : Int32) (v2 : Int32) (v3 : Int32) (H : Heap) (locs : List Loc) (ls : Array Slot), w_X1_heldByOrphans_b38 post hd K6 v1 v2 v3 → va_P (dC, dI) vwCl [(x, .inr (1, [.ref aH, .ref aL, .ref aS, .ref aO, .ref aK, .ref aZ, .ref cv, .int tcn, .int mcn, .int swd, .int rwd, .int bpt, .int flm])), (aH, .inl (cI, 34, .inl hd))] H → va_D A [(x, .inr (1, [.ref aH, .ref aL, .ref aS, .ref aO, .ref aK, .ref aZ, .ref cv, .int tcn, .int mcn, .int swd, .int rwd, .int bpt, .int flm])), (aH, .inl (cI, 34, .inl hd))] → va_S A s.heap H locs → lv_has ls 4 [(0, .ref x), (1, .int v1), (2, .int v2), (3, .int v3)] → W p l e ({ frames := 3, cells := 0, slots := 0, locals := 61 } : Room) s m ([.ref x] : List Value).toArray below meth c H locs 0 0 Q9 (F0 m 38 ls []) := by
    intro K6 hK6 v1 v2 v3 H locs ls hw hP hD hS hl
    refine lv_aload_n hx hb dX1_heldByOrphans_38 rfl (lv_at hl 0 rfl) ?_
    refine va_get (D := (dC, dI)) (ci := 1) (v := .ref aH) (C := RX1) (T := TX1) (N := 13) hx hb hts hinX1 hown hK hP 0 rfl rfl 0 (by decide) (hts (.fieldLink RX1 9 "TileHand" "hand" "[I") (by decide +kernel)) (fun _ h9 => h9) rfl dX1_heldByOrphans_39 ?_
    refine lv_iload_n hx hb dX1_heldByOrphans_42 rfl (lv_at hl 3 rfl) ?_
    obtain ⟨h6, hw⟩ := hw
    refine va_iald hx hb hK hP 1 0 rfl rfl h6 dX1_heldByOrphans_43 ?_
    refine lv_iconst (v := 1) hx hb dX1_heldByOrphans_44 (by decide) ?_
    refine lv_icmp_le (tgt := 50) hx hb dX1_heldByOrphans_45 (by decide) (fun c7 => ?_) (fun c7 => ?_)
    · have hw := hw.1 c7
      exact L50 K6 hK6 v1 v2 v3 _ _ _ hw hP hD hS (lv_sub hl [0, 1, 2, 3] rfl)
    · have hw := hw.2 c7
      refine lv_iconst (v := 1) hx hb dX1_heldByOrphans_48 (by decide) ?_
      refine lv_istore_n (lv' := [(2, .int (1 : Int32)), (0, .ref x), (1, .int v1), (3, .int v3)]) hx hb dX1_heldByOrphans_49 rfl hl (by decide) rfl (fun ls hl => ?_)
      exact L50 K6 hK6 v1 (1 : Int32) v3 _ _ _ hw hP hD hS (lv_sub hl [1, 2, 0, 3] rfl)
  have L26 : ∀ (K6 : Int32 → Int32 → Int32 → Prop) (hK6 : ∀ (v1 : Int32) (v2 : Int32) (v3 : Int32) (H : Heap) (locs : List Loc) (ls : Array Slot), K6 v1 v2 v3 → va_P (dC, dI) vwCl [(x, .inr (1, [.ref aH, .ref aL, .ref aS, .ref aO, .ref aK, .ref aZ, .ref cv, .int tcn, .int mcn, .int swd, .int rwd, .int bpt, .int flm])), (aH, .inl (cI, 34, .inl hd))] H → va_D A [(x, .inr (1, [.ref aH, .ref aL, .ref aS, .ref aO, .ref aK, .ref aZ, .ref cv, .int tcn, .int mcn, .int swd, .int rwd, .int bpt, .int flm])), (aH, .inl (cI, 34, .inl hd))] → va_S A s.heap H locs → lv_has ls 4 [(0, .ref x), (1, .int v1), (2, .int v2), (3, .int v3)] → W p l e ({ frames := 3, cells := 0, slots := 0, locals := 61 } : Room) s m ([.ref x] : List Value).toArray below meth c H locs 0 0 Q9 (F0 m 6 ls [])), ∀ (v1 : Int32) (v2 : Int32) (v3 : Int32) (H : Heap) (locs : List Loc) (ls : Array Slot), w_X1_heldByOrphans_b26 post hd K6 v1 v2 v3 → va_P (dC, dI) vwCl [(x, .inr (1, [.ref aH, .ref aL, .ref aS, .ref aO, .ref aK, .ref aZ, .ref cv, .int tcn, .int mcn, .int swd, .int rwd, .int bpt, .int flm])), (aH, .inl (cI, 34, .inl hd))] H → va_D A [(x, .inr (1, [.ref aH, .ref aL, .ref aS, .ref aO, .ref aK, .ref aZ, .ref cv, .int tcn, .int mcn, .int swd, .int rwd, .int bpt, .int flm])), (aH, .inl (cI, 34, .inl hd))] → va_S A s.heap H locs → lv_has ls 4 [(0, .ref x), (1, .int v1), (2, .int v2), (3, .int v3)] → W p l e ({ frames := 3, cells := 0, slots := 0, locals := 61 } : Room) s m ([.ref x] : List Value).toArray below meth c H locs 0 0 Q9 (F0 m 26 ls []) := by
    intro K6 hK6 v1 v2 v3 H locs ls hw hP hD hS hl
    refine lv_aload_n hx hb dX1_heldByOrphans_26 rfl (lv_at hl 0 rfl) ?_
    refine va_get (D := (dC, dI)) (ci := 1) (v := .ref aH) (C := RX1) (T := TX1) (N := 13) hx hb hts hinX1 hown hK hP 0 rfl rfl 0 (by decide) (hts (.fieldLink RX1 9 "TileHand" "hand" "[I") (by decide +kernel)) (fun _ h9 => h9) rfl dX1_heldByOrphans_27 ?_
    refine lv_iload_n hx hb dX1_heldByOrphans_30 rfl (lv_at hl 3 rfl) ?_
    obtain ⟨h4, hw⟩ := hw
    refine va_iald hx hb hK hP 1 0 rfl rfl h4 dX1_heldByOrphans_31 ?_
    refine lv_if_le (tgt := 38) hx hb dX1_heldByOrphans_32 (by decide) (fun c5 => ?_) (fun c5 => ?_)
    · have hw := hw.1 c5
      exact L38 K6 hK6 v1 v2 v3 _ _ _ hw hP hD hS (lv_sub hl [0, 1, 2, 3] rfl)
    · have hw := hw.2 c5
      refine lv_iinc (v := v1 + 1) (lv' := [(1, .int (v1 + 1)), (0, .ref x), (2, .int v2), (3, .int v3)]) hx hb dX1_heldByOrphans_35 hl (k := 1) rfl rfl (by decide) rfl (fun ls hl => ?_)
      exact L38 K6 hK6 (v1 + 1) v2 v3 _ _ _ hw hP hD hS (lv_sub hl [1, 0, 2, 3] rfl)
  have L6 : ∀ (n : Nat), ∀ (v1 : Int32) (v2 : Int32) (v3 : Int32) (H : Heap) (locs : List Loc) (ls : Array Slot), w_X1_heldByOrphans_b6 post hd n v1 v2 v3 → va_P (dC, dI) vwCl [(x, .inr (1, [.ref aH, .ref aL, .ref aS, .ref aO, .ref aK, .ref aZ, .ref cv, .int tcn, .int mcn, .int swd, .int rwd, .int bpt, .int flm])), (aH, .inl (cI, 34, .inl hd))] H → va_D A [(x, .inr (1, [.ref aH, .ref aL, .ref aS, .ref aO, .ref aK, .ref aZ, .ref cv, .int tcn, .int mcn, .int swd, .int rwd, .int bpt, .int flm])), (aH, .inl (cI, 34, .inl hd))] → va_S A s.heap H locs → lv_has ls 4 [(0, .ref x), (1, .int v1), (2, .int v2), (3, .int v3)] → W p l e ({ frames := 3, cells := 0, slots := 0, locals := 61 } : Room) s m ([.ref x] : List Value).toArray below meth c H locs 0 0 Q9 (F0 m 6 ls []) := by
    intro n
    induction n with
    | zero => intro v1 v2 v3 H locs ls hw _ _ _ _; exact False.elim hw
    | succ n ih =>
      intro v1 v2 v3 H locs ls hw hP hD hS hl
      refine lv_iload_n hx hb dX1_heldByOrphans_6 rfl (lv_at hl 3 rfl) ?_
      refine lv_bipush (v := 34) hx hb dX1_heldByOrphans_7 (by decide) ?_
      refine lv_icmp_ge (tgt := 56) hx hb dX1_heldByOrphans_9 (by decide) (fun c1 => ?_) (fun c1 => ?_)
      · have hw := hw.1 c1
        refine lv_iload_n hx hb dX1_heldByOrphans_56 rfl (lv_at hl 1 rfl) ?_
        refine lv_iload_n hx hb dX1_heldByOrphans_57 rfl (lv_at hl 2 rfl) ?_
        refine lv_iadd hx hb dX1_heldByOrphans_58 ?_
        rw [← hQ9]
        exact W.iret (v := v1 + v2) hx hb hr (fun t ht hW => ⟨⟨v1 + v2, (), rfl, hw, by rw [ht]; exact hP, va_K.moved hW.alike hK, hD⟩, hS.F ht⟩) hS.2.2 dX1_heldByOrphans_59
      · have hw := hw.2 c1
        refine lv_iload_n hx hb dX1_heldByOrphans_12 rfl (lv_at hl 3 rfl) ?_
        have hPc := hP.sub (ws' := []) [] rfl
        have hDc := hD.sub (ws' := []) [] (by decide) rfl
        have hFc := va_free (wc := []) hD hS hA [] rfl
        refine va_calli (va_runS (As := [.int v3]) (rest := []) ⟨hx, hb, hml, hown, hts⟩ (c_X1_isEnd l dC dI cI cZ H.size v3 _ hw) (va_cwS 1 hts gX1_heldByOrphans_X1_isEnd rfl rfl rfl (by decide +kernel) ⟨Nat.le_of_ble_eq_true rfl, Nat.le_of_ble_eq_true rfl⟩) ⟨fun a U g mk q => by obtain ⟨q0, q1, qP, qK, qD⟩ := q; exact ⟨q0, q1, qP, va_K.moved (u := U) (U := U.calling g mk a) (Vm.Alike.refl U.vm) qK, qD⟩, fun U hU hW => ⟨rfl, by rw [hU], by rw [hU]; exact hPc, va_K.moved hW.alike hK, hDc.weaken (fun _ _ _ _ => trivial)⟩⟩ rfl rfl hl.1 rfl (lv_room (Nat.le_of_ble_eq_true rfl)) dX1_heldByOrphans_13 ⟨Nat.le_of_ble_eq_true rfl, Nat.le_of_ble_eq_true rfl⟩) hS (fun q _ h => hFc q h) hFc (fun r2 u t H1 locs ht hvm hw hB hz1 hk1 hS => ?_)
        obtain ⟨hP1, -, hD1⟩ := hB
        have hw := And.intro hw trivial
        try dsimp only at hw
        have hw := hw.1
        rw [ht] at hP1
        obtain ⟨hP, hD⟩ := va_join (wr := [(x, .inr (1, [.ref aH, .ref aL, .ref aS, .ref aO, .ref aK, .ref aZ, .ref cv, .int tcn, .int mcn, .int swd, .int rwd, .int bpt, .int flm])), (aH, .inl (cI, 34, .inl hd))]) (w1 := []) hP hD [] [0, 1] rfl rfl (by decide) (by decide) hk1 hFc hP1 hD1
        generalize H1 = H at hP hS ⊢
        have hP : va_P (dC, dI) vwCl [(x, .inr (1, [.ref aH, .ref aL, .ref aS, .ref aO, .ref aK, .ref aZ, .ref cv, .int tcn, .int mcn, .int swd, .int rwd, .int bpt, .int flm])), (aH, .inl (cI, 34, .inl hd))] H := hP
        have hD : va_D A [(x, .inr (1, [.ref aH, .ref aL, .ref aS, .ref aO, .ref aK, .ref aZ, .ref cv, .int tcn, .int mcn, .int swd, .int rwd, .int bpt, .int flm])), (aH, .inl (cI, 34, .inl hd))] := hD
        refine lv_if_ne (tgt := 26) hx hb dX1_heldByOrphans_16 (by decide) (fun c3 => ?_) (fun c3 => ?_)
        · have hw := hw.2 c3
          exact L26 (w_X1_heldByOrphans_b6 post hd n) ih v1 v2 v3 _ _ _ hw hP hD hS (lv_sub hl [0, 1, 2, 3] rfl)
        · have hw := hw.1 c3
          refine lv_iload_n hx hb dX1_heldByOrphans_19 rfl (lv_at hl 3 rfl) ?_
          have hPc := hP.sub (ws' := []) [] rfl
          have hDc := hD.sub (ws' := []) [] (by decide) rfl
          have hFc := va_free (wc := []) hD hS hA [] rfl
          refine va_calli (va_runS (As := [.int v3]) (rest := []) ⟨hx, hb, hml, hown, hts⟩ (c_X1_isHonour l dC dI cI cZ H.size v3 _ hw) (va_cwS 1 hts gX1_heldByOrphans_X1_isHonour rfl rfl rfl (by decide +kernel) ⟨Nat.le_of_ble_eq_true rfl, Nat.le_of_ble_eq_true rfl⟩) ⟨fun a U g mk q => by obtain ⟨q0, q1, qP, qK, qD⟩ := q; exact ⟨q0, q1, qP, va_K.moved (u := U) (U := U.calling g mk a) (Vm.Alike.refl U.vm) qK, qD⟩, fun U hU hW => ⟨rfl, by rw [hU], by rw [hU]; exact hPc, va_K.moved hW.alike hK, hDc.weaken (fun _ _ _ _ => trivial)⟩⟩ rfl rfl hl.1 rfl (lv_room (Nat.le_of_ble_eq_true rfl)) dX1_heldByOrphans_20 ⟨Nat.le_of_ble_eq_true rfl, Nat.le_of_ble_eq_true rfl⟩) hS (fun q _ h => hFc q h) hFc (fun r8 u t H1 locs ht hvm hw hB hz1 hk1 hS => ?_)
          obtain ⟨hP1, -, hD1⟩ := hB
          have hw := And.intro hw trivial
          try dsimp only at hw
          have hw := hw.1
          rw [ht] at hP1
          obtain ⟨hP, hD⟩ := va_join (wr := [(x, .inr (1, [.ref aH, .ref aL, .ref aS, .ref aO, .ref aK, .ref aZ, .ref cv, .int tcn, .int mcn, .int swd, .int rwd, .int bpt, .int flm])), (aH, .inl (cI, 34, .inl hd))]) (w1 := []) hP hD [] [0, 1] rfl rfl (by decide) (by decide) hk1 hFc hP1 hD1
          generalize H1 = H at hP hS ⊢
          have hP : va_P (dC, dI) vwCl [(x, .inr (1, [.ref aH, .ref aL, .ref aS, .ref aO, .ref aK, .ref aZ, .ref cv, .int tcn, .int mcn, .int swd, .int rwd, .int bpt, .int flm])), (aH, .inl (cI, 34, .inl hd))] H := hP
          have hD : va_D A [(x, .inr (1, [.ref aH, .ref aL, .ref aS, .ref aO, .ref aK, .ref aZ, .ref cv, .int tcn, .int mcn, .int swd, .int rwd, .int bpt, .int flm])), (aH, .inl (cI, 34, .inl hd))] := hD
          refine lv_if_eq (tgt := 50) hx hb dX1_heldByOrphans_23 (by decide) (fun c9 => ?_) (fun c9 => ?_)
          · have hw := hw.1 c9
            exact L50 (w_X1_heldByOrphans_b6 post hd n) ih v1 v2 v3 _ _ _ hw hP hD hS (lv_sub hl [0, 1, 2, 3] rfl)
          · have hw := hw.2 c9
            exact L26 (w_X1_heldByOrphans_b6 post hd n) ih v1 v2 v3 _ _ _ hw hP hD hS (lv_sub hl [0, 1, 2, 3] rfl)
  refine lv_iconst (v := 0) hx hb dX1_heldByOrphans_0 (by decide) ?_
  refine lv_istore_n (lv' := [(1, .int (0 : Int32)), (0, .ref x)]) hx hb dX1_heldByOrphans_1 rfl hl (by decide) rfl (fun ls hl => ?_)
  refine lv_iconst (v := 0) hx hb dX1_heldByOrphans_2 (by decide) ?_
  refine lv_istore_n (lv' := [(2, .int (0 : Int32)), (1, .int (0 : Int32)), (0, .ref x)]) hx hb dX1_heldByOrphans_3 rfl hl (by decide) rfl (fun ls hl => ?_)
  refine lv_iconst (v := 0) hx hb dX1_heldByOrphans_4 (by decide) ?_
  refine lv_istore_n (lv' := [(3, .int (0 : Int32)), (2, .int (0 : Int32)), (1, .int (0 : Int32)), (0, .ref x)]) hx hb dX1_heldByOrphans_5 rfl hl (by decide) rfl (fun ls hl => ?_)
  obtain ⟨n9, hw⟩ := hw
  exact L6 n9 (0 : Int32) (0 : Int32) (0 : Int32) _ _ _ hw hP hD hS (lv_sub hl [3, 2, 1, 0] rfl)

def w_X1_heldByPairs_b47 (post : Int32 → Prop) (hd : (Nat → Int32)) (v1 : Int32) (v2 : Int32) : Prop := ∀ t2 : Int32, t2 = (if (7 : Int32) < v1 then (7 : Int32) else v1) → (post (((2 : Int32) * t2) + (if ((7 : Int32) - t2) < v2 then ((7 : Int32) - t2) else v2)))

def w_X1_heldByPairs_b41 (post : Int32 → Prop) (hd : (Nat → Int32)) (K6 : Int32 → Int32 → Int32 → Prop) (v1 : Int32) (v2 : Int32) (v3 : Int32) : Prop := K6 v1 v2 (v3 + 1)

def w_X1_heldByPairs_b6 (post : Int32 → Prop) (hd : (Nat → Int32)) : Nat → Int32 → Int32 → Int32 → Prop
  | 0, _, _, _ => False
  | n + 1, v1, v2, v3 => (((34 : Int32) ≤ v3 → (w_X1_heldByPairs_b47 post hd v1 v2)) ∧ (¬ (34 : Int32) ≤ v3 → (vp_in v3 34 ∧ ((((hd v3.toNatClampNeg) < (2 : Int32) → (vp_in v3 34 ∧ ((((hd v3.toNatClampNeg) = (1 : Int32) → (w_X1_heldByPairs_b41 post hd (w_X1_heldByPairs_b6 post hd n) v1 (v2 + 1) v3)) ∧ (¬ (hd v3.toNatClampNeg) = (1 : Int32) → (w_X1_heldByPairs_b41 post hd (w_X1_heldByPairs_b6 post hd n) v1 v2 v3)))))) ∧ (¬ (hd v3.toNatClampNeg) < (2 : Int32) → (w_X1_heldByPairs_b41 post hd (w_X1_heldByPairs_b6 post hd n) (v1 + 1) v2 v3)))))))

def w_X1_heldByPairs (hd : (Nat → Int32)) (post : Int32 → Prop) : Prop := ∃ n9, w_X1_heldByPairs_b6 post hd n9 (0 : Int32) (0 : Int32) (0 : Int32)

set_option maxHeartbeats 4000000 in
set_option maxRecDepth 100000 in
theorem c_X1_heldByPairs (l : Launch) (dC : Nat → ClassId) (dI : Nat → Nat → Nat) (cI cZ : ClassId) (x : Nat) (aH : Nat) (aL : Nat) (aS : Nat) (aO : Nat) (aK : Nat) (aZ : Nat) (cv : Nat) (sz : Nat) (tcn : Int32) (mcn : Int32) (swd : Int32) (rwd : Int32) (bpt : Int32) (flm : Int32) (hd : (Nat → Int32)) (post : Int32 → Prop) (hw : w_X1_heldByPairs hd post) : Met l yX1_heldByPairs wsX1_heldByPairs ({ frames := 2, cells := 0, slots := 0, locals := 40 } : Room) (va_Pc [.ref x] (fun U => U.heap.size = sz ∧ va_P (dC, dI) vwCl [(x, .inr (1, [.ref aH, .ref aL, .ref aS, .ref aO, .ref aK, .ref aZ, .ref cv, .int tcn, .int mcn, .int swd, .int rwd, .int bpt, .int flm])), (aH, .inl (cI, 34, .inl hd))] U.heap ∧ va_K (dC, dI) vwCl [(cI, .int), (cZ, .boolean)] U ∧ va_D (fun _ => True) [(x, .inr (1, [.ref aH, .ref aL, .ref aS, .ref aO, .ref aK, .ref aZ, .ref cv, .int tcn, .int mcn, .int swd, .int rwd, .int bpt, .int flm])), (aH, .inl (cI, 34, .inl hd))])) (va_Qi (fun (r9 : Int32) (u9 : Unit) => post r9) (fun (u9 : Unit) (t9 : State) => va_P (dC, dI) vwCl [(x, .inr (1, [.ref aH, .ref aL, .ref aS, .ref aO, .ref aK, .ref aZ, .ref cv, .int tcn, .int mcn, .int swd, .int rwd, .int bpt, .int flm])), (aH, .inl (cI, 34, .inl hd))] t9.heap ∧ va_K (dC, dI) vwCl [(cI, .int), (cZ, .boolean)] t9 ∧ va_D (va_A [(x, .inr (1, [.ref aH, .ref aL, .ref aS, .ref aO, .ref aK, .ref aZ, .ref cv, .int tcn, .int mcn, .int swd, .int rwd, .int bpt, .int flm])), (aH, .inl (cI, 34, .inl hd))] sz) [(x, .inr (1, [.ref aH, .ref aL, .ref aS, .ref aO, .ref aK, .ref aZ, .ref cv, .int tcn, .int mcn, .int swd, .int rwd, .int bpt, .int flm])), (aH, .inl (cI, 34, .inl hd))]) (va_A [(x, .inr (1, [.ref aH, .ref aL, .ref aS, .ref aO, .ref aK, .ref aZ, .ref cv, .int tcn, .int mcn, .int swd, .int rwd, .int bpt, .int flm])), (aH, .inl (cI, 34, .inl hd))] sz)) 0 0 (va_A [(x, .inr (1, [.ref aH, .ref aL, .ref aS, .ref aO, .ref aK, .ref aZ, .ref cv, .int tcn, .int mcn, .int swd, .int rwd, .int bpt, .int flm])), (aH, .inl (cI, 34, .inl hd))] sz) := by
  refine Met.ofW (cc := cX1_heldByPairs) (maxL := 4) (ret := (some .int)) (by decide) rfl ?_
  intro p e s m args below meth c s₁ B hml hv
  obtain ⟨rfl, hsz, hP, hK, hD0⟩ := hv
  have hx := B.exec
  have hb := B.bytes
  have hr := B.returns
  have hts := atoms_spec (ws := wsX1_heldByPairs) B.pre
  have hown : s.vm.findClass RX1 = some m.cls := findClass_of_methodNamed B.named
  have hlocks := B.notSynchronized
  have hinX1 : ∀ w ∈ u_ws RX1 TX1 13, w ∈ wsX1_heldByPairs := by decide +kernel
  subst hsz
  have hD := hD0.self (sz := s.heap.size)
  generalize hAe : va_A [(x, .inr (1, [.ref aH, .ref aL, .ref aS, .ref aO, .ref aK, .ref aZ, .ref cv, .int tcn, .int mcn, .int swd, .int rwd, .int bpt, .int flm])), (aH, .inl (cI, 34, .inl hd))] s.heap.size = A at hD ⊢
  have hA : ∀ q : Nat, s.heap.size ≤ q → A q := fun q h => by rw [← hAe]; exact Or.inr h
  have hS : va_S A s.heap s.heap [] := va_S.rf
  have hl := lv_entry ([.ref x]) (n := 4) (Nat.le_of_ble_eq_true rfl)
  rw [lg_entry_eq]
  generalize (lg_sl ([.ref x]) ++ List.replicate (4 - (lg_sl ([.ref x])).length) Slot.unset).toArray = ls at hl ⊢
  have hl : lv_has ls 4 [(0, .ref x)] := hl
  refine (?_ : ∀ Q9 : State → Prop, MQ below _ _ s _ _ _ = Q9 → W p l e ({ frames := 2, cells := 0, slots := 0, locals := 40 } : Room) s m _ below meth c s.heap [] 0 0 Q9 (F0 m 0 ls [])) _ rfl
  intro Q9 hQ9
  have hw : ∃ n9, w_X1_heldByPairs_b6 post hd n9 (0 : Int32) (0 : Int32) (0 : Int32) := hw
  have L47 : ∀ (v1 : Int32) (v2 : Int32) (H : Heap) (locs : List Loc) (ls : Array Slot), w_X1_heldByPairs_b47 post hd v1 v2 → va_P (dC, dI) vwCl [(x, .inr (1, [.ref aH, .ref aL, .ref aS, .ref aO, .ref aK, .ref aZ, .ref cv, .int tcn, .int mcn, .int swd, .int rwd, .int bpt, .int flm])), (aH, .inl (cI, 34, .inl hd))] H → va_D A [(x, .inr (1, [.ref aH, .ref aL, .ref aS, .ref aO, .ref aK, .ref aZ, .ref cv, .int tcn, .int mcn, .int swd, .int rwd, .int bpt, .int flm])), (aH, .inl (cI, 34, .inl hd))] → va_S A s.heap H locs → lv_has ls 4 [(0, .ref x), (1, .int v1), (2, .int v2)] → W p l e ({ frames := 2, cells := 0, slots := 0, locals := 40 } : Room) s m ([.ref x] : List Value).toArray below meth c H locs 0 0 Q9 (F0 m 47 ls []) := by
    intro v1 v2 H locs ls hw hP hD hS hl
    refine lv_iload_n hx hb dX1_heldByPairs_47 rfl (lv_at hl 1 rfl) ?_
    refine lv_bipush (v := 7) hx hb dX1_heldByPairs_48 (by decide) ?_
    refine va_mmin hx hb (hml.trans hl.1.symm) hown (hts (.methodLink RX1 143 Lib.Math.min.name) (by decide +kernel)) (hts (.static Lib.Math.min.name) (by decide +kernel)) (hts (.initialized "java/lang/Math") (by decide +kernel)) (hts (.code Lib.Math.min.name Lib.Math.min.code 2 (some .int)) (by decide +kernel)) (Nat.le_of_ble_eq_true rfl) (Nat.le_of_ble_eq_true rfl) (Nat.le_of_ble_eq_true rfl) (Nat.le_of_ble_eq_true rfl) dX1_heldByPairs_50 ?_
    refine lv_topi (fun t2 et2 => ?_)
    have hw := hw t2 et2
    refine lv_istore_n (lv' := [(1, .int t2), (0, .ref x), (2, .int v2)]) hx hb dX1_heldByPairs_53 rfl hl (by decide) rfl (fun ls hl => ?_)
    refine lv_iconst (v := 2) hx hb dX1_heldByPairs_54 (by decide) ?_
    refine lv_iload_n hx hb dX1_heldByPairs_55 rfl (lv_at hl 0 rfl) ?_
    refine lv_imul hx hb dX1_heldByPairs_56 ?_
    refine lv_iload_n hx hb dX1_heldByPairs_57 rfl (lv_at hl 2 rfl) ?_
    refine lv_bipush (v := 7) hx hb dX1_heldByPairs_58 (by decide) ?_
    refine lv_iload_n hx hb dX1_heldByPairs_60 rfl (lv_at hl 0 rfl) ?_
    refine lv_isub hx hb dX1_heldByPairs_61 ?_
    refine va_mmin hx hb (hml.trans hl.1.symm) hown (hts (.methodLink RX1 143 Lib.Math.min.name) (by decide +kernel)) (hts (.static Lib.Math.min.name) (by decide +kernel)) (hts (.initialized "java/lang/Math") (by decide +kernel)) (hts (.code Lib.Math.min.name Lib.Math.min.code 2 (some .int)) (by decide +kernel)) (Nat.le_of_ble_eq_true rfl) (Nat.le_of_ble_eq_true rfl) (Nat.le_of_ble_eq_true rfl) (Nat.le_of_ble_eq_true rfl) dX1_heldByPairs_62 ?_
    refine lv_iadd hx hb dX1_heldByPairs_65 ?_
    rw [← hQ9]
    exact W.iret (v := ((2 : Int32) * t2) + (if ((7 : Int32) - t2) < v2 then ((7 : Int32) - t2) else v2)) hx hb hr (fun t ht hW => ⟨⟨((2 : Int32) * t2) + (if ((7 : Int32) - t2) < v2 then ((7 : Int32) - t2) else v2), (), rfl, hw, by rw [ht]; exact hP, va_K.moved hW.alike hK, hD⟩, hS.F ht⟩) hS.2.2 dX1_heldByPairs_66
  have L41 : ∀ (K6 : Int32 → Int32 → Int32 → Prop) (hK6 : ∀ (v1 : Int32) (v2 : Int32) (v3 : Int32) (H : Heap) (locs : List Loc) (ls : Array Slot), K6 v1 v2 v3 → va_P (dC, dI) vwCl [(x, .inr (1, [.ref aH, .ref aL, .ref aS, .ref aO, .ref aK, .ref aZ, .ref cv, .int tcn, .int mcn, .int swd, .int rwd, .int bpt, .int flm])), (aH, .inl (cI, 34, .inl hd))] H → va_D A [(x, .inr (1, [.ref aH, .ref aL, .ref aS, .ref aO, .ref aK, .ref aZ, .ref cv, .int tcn, .int mcn, .int swd, .int rwd, .int bpt, .int flm])), (aH, .inl (cI, 34, .inl hd))] → va_S A s.heap H locs → lv_has ls 4 [(0, .ref x), (1, .int v1), (2, .int v2), (3, .int v3)] → W p l e ({ frames := 2, cells := 0, slots := 0, locals := 40 } : Room) s m ([.ref x] : List Value).toArray below meth c H locs 0 0 Q9 (F0 m 6 ls [])), ∀ (v1 : Int32) (v2 : Int32) (v3 : Int32) (H : Heap) (locs : List Loc) (ls : Array Slot), w_X1_heldByPairs_b41 post hd K6 v1 v2 v3 → va_P (dC, dI) vwCl [(x, .inr (1, [.ref aH, .ref aL, .ref aS, .ref aO, .ref aK, .ref aZ, .ref cv, .int tcn, .int mcn, .int swd, .int rwd, .int bpt, .int flm])), (aH, .inl (cI, 34, .inl hd))] H → va_D A [(x, .inr (1, [.ref aH, .ref aL, .ref aS, .ref aO, .ref aK, .ref aZ, .ref cv, .int tcn, .int mcn, .int swd, .int rwd, .int bpt, .int flm])), (aH, .inl (cI, 34, .inl hd))] → va_S A s.heap H locs → lv_has ls 4 [(0, .ref x), (1, .int v1), (2, .int v2), (3, .int v3)] → W p l e ({ frames := 2, cells := 0, slots := 0, locals := 40 } : Room) s m ([.ref x] : List Value).toArray below meth c H locs 0 0 Q9 (F0 m 41 ls []) := by
    intro K6 hK6 v1 v2 v3 H locs ls hw hP hD hS hl
    refine lv_iinc (v := v3 + 1) (lv' := [(3, .int (v3 + 1)), (0, .ref x), (1, .int v1), (2, .int v2)]) hx hb dX1_heldByPairs_41 hl (k := 3) rfl rfl (by decide) rfl (fun ls hl => ?_)
    refine lv_goto (tgt := 6) hx hb dX1_heldByPairs_44 (by decide) ?_
    exact hK6 v1 v2 (v3 + 1) _ _ _ hw hP hD hS (lv_sub hl [1, 2, 3, 0] rfl)
  have L6 : ∀ (n : Nat), ∀ (v1 : Int32) (v2 : Int32) (v3 : Int32) (H : Heap) (locs : List Loc) (ls : Array Slot), w_X1_heldByPairs_b6 post hd n v1 v2 v3 → va_P (dC, dI) vwCl [(x, .inr (1, [.ref aH, .ref aL, .ref aS, .ref aO, .ref aK, .ref aZ, .ref cv, .int tcn, .int mcn, .int swd, .int rwd, .int bpt, .int flm])), (aH, .inl (cI, 34, .inl hd))] H → va_D A [(x, .inr (1, [.ref aH, .ref aL, .ref aS, .ref aO, .ref aK, .ref aZ, .ref cv, .int tcn, .int mcn, .int swd, .int rwd, .int bpt, .int flm])), (aH, .inl (cI, 34, .inl hd))] → va_S A s.heap H locs → lv_has ls 4 [(0, .ref x), (1, .int v1), (2, .int v2), (3, .int v3)] → W p l e ({ frames := 2, cells := 0, slots := 0, locals := 40 } : Room) s m ([.ref x] : List Value).toArray below meth c H locs 0 0 Q9 (F0 m 6 ls []) := by
    intro n
    induction n with
    | zero => intro v1 v2 v3 H locs ls hw _ _ _ _; exact False.elim hw
    | succ n ih =>
      intro v1 v2 v3 H locs ls hw hP hD hS hl
      refine lv_iload_n hx hb dX1_heldByPairs_6 rfl (lv_at hl 3 rfl) ?_
      refine lv_bipush (v := 34) hx hb dX1_heldByPairs_7 (by decide) ?_
      refine lv_icmp_ge (tgt := 47) hx hb dX1_heldByPairs_9 (by decide) (fun c1 => ?_) (fun c1 => ?_)
      · have hw := hw.1 c1
        exact L47 v1 v2 _ _ _ hw hP hD hS (lv_sub hl [0, 1, 2] rfl)
      · have hw := hw.2 c1
        refine lv_aload_n hx hb dX1_heldByPairs_12 rfl (lv_at hl 0 rfl) ?_
        refine va_get (D := (dC, dI)) (ci := 1) (v := .ref aH) (C := RX1) (T := TX1) (N := 13) hx hb hts hinX1 hown hK hP 0 rfl rfl 0 (by decide) (hts (.fieldLink RX1 9 "TileHand" "hand" "[I") (by decide +kernel)) (fun _ h9 => h9) rfl dX1_heldByPairs_13 ?_
        refine lv_iload_n hx hb dX1_heldByPairs_16 rfl (lv_at hl 3 rfl) ?_
        obtain ⟨h3, hw⟩ := hw
        refine va_iald hx hb hK hP 1 0 rfl rfl h3 dX1_heldByPairs_17 ?_
        refine lv_iconst (v := 2) hx hb dX1_heldByPairs_18 (by decide) ?_
        refine lv_icmp_lt (tgt := 28) hx hb dX1_heldByPairs_19 (by decide) (fun c4 => ?_) (fun c4 => ?_)
        · have hw := hw.1 c4
          refine lv_aload_n hx hb dX1_heldByPairs_28 rfl (lv_at hl 0 rfl) ?_
          refine va_get (D := (dC, dI)) (ci := 1) (v := .ref aH) (C := RX1) (T := TX1) (N := 13) hx hb hts hinX1 hown hK hP 0 rfl rfl 0 (by decide) (hts (.fieldLink RX1 9 "TileHand" "hand" "[I") (by decide +kernel)) (fun _ h9 => h9) rfl dX1_heldByPairs_29 ?_
          refine lv_iload_n hx hb dX1_heldByPairs_32 rfl (lv_at hl 3 rfl) ?_
          obtain ⟨h5, hw⟩ := hw
          refine va_iald hx hb hK hP 1 0 rfl rfl h5 dX1_heldByPairs_33 ?_
          refine lv_iconst (v := 1) hx hb dX1_heldByPairs_34 (by decide) ?_
          refine lv_icmp_ne (tgt := 41) hx hb dX1_heldByPairs_35 (by decide) (fun c6 => ?_) (fun c6 => ?_)
          · have hw := hw.2 c6
            exact L41 (w_X1_heldByPairs_b6 post hd n) ih v1 v2 v3 _ _ _ hw hP hD hS (lv_sub hl [0, 1, 2, 3] rfl)
          · have hw := hw.1 c6
            refine lv_iinc (v := v2 + 1) (lv' := [(2, .int (v2 + 1)), (0, .ref x), (1, .int v1), (3, .int v3)]) hx hb dX1_heldByPairs_38 hl (k := 2) rfl rfl (by decide) rfl (fun ls hl => ?_)
            exact L41 (w_X1_heldByPairs_b6 post hd n) ih v1 (v2 + 1) v3 _ _ _ hw hP hD hS (lv_sub hl [1, 2, 0, 3] rfl)
        · have hw := hw.2 c4
          refine lv_iinc (v := v1 + 1) (lv' := [(1, .int (v1 + 1)), (0, .ref x), (2, .int v2), (3, .int v3)]) hx hb dX1_heldByPairs_22 hl (k := 1) rfl rfl (by decide) rfl (fun ls hl => ?_)
          refine lv_goto (tgt := 41) hx hb dX1_heldByPairs_25 (by decide) ?_
          exact L41 (w_X1_heldByPairs_b6 post hd n) ih (v1 + 1) v2 v3 _ _ _ hw hP hD hS (lv_sub hl [1, 0, 2, 3] rfl)
  refine lv_iconst (v := 0) hx hb dX1_heldByPairs_0 (by decide) ?_
  refine lv_istore_n (lv' := [(1, .int (0 : Int32)), (0, .ref x)]) hx hb dX1_heldByPairs_1 rfl hl (by decide) rfl (fun ls hl => ?_)
  refine lv_iconst (v := 0) hx hb dX1_heldByPairs_2 (by decide) ?_
  refine lv_istore_n (lv' := [(2, .int (0 : Int32)), (1, .int (0 : Int32)), (0, .ref x)]) hx hb dX1_heldByPairs_3 rfl hl (by decide) rfl (fun ls hl => ?_)
  refine lv_iconst (v := 0) hx hb dX1_heldByPairs_4 (by decide) ?_
  refine lv_istore_n (lv' := [(3, .int (0 : Int32)), (2, .int (0 : Int32)), (1, .int (0 : Int32)), (0, .ref x)]) hx hb dX1_heldByPairs_5 rfl hl (by decide) rfl (fun ls hl => ?_)
  obtain ⟨n9, hw⟩ := hw
  exact L6 n9 (0 : Int32) (0 : Int32) (0 : Int32) _ _ _ hw hP hD hS (lv_sub hl [3, 2, 1, 0] rfl)

def w_X1_bestArrangement_b38 (post : Int32 → (Nat → Int32) → (Nat → Int32) → (Nat → Int32) → Prop) (tcn : Int32) (mcn : Int32) (swd : Int32) (rwd : Int32) (v1 : Int32) (hd : (Nat → Int32)) (so : (Nat → Int32)) (ki : (Nat → Int32)) : Prop := ((mcn = 0 → (w_X1_heldByOrphans hd (fun r9 => (((r9 = (14 : Int32) → (∀ t11 : Int32, t11 = (if v1 < (13 : Int32) then (13 : Int32) else v1) → (post t11 hd so ki))) ∧ (¬ r9 = (14 : Int32) → (post v1 hd so ki))))))) ∧ (¬ mcn = 0 → (post v1 hd so ki)))

def w_X1_bestArrangement (tcn : Int32) (mcn : Int32) (swd : Int32) (rwd : Int32) (hd : (Nat → Int32)) (so : (Nat → Int32)) (ki : (Nat → Int32)) (post : Int32 → (Nat → Int32) → (Nat → Int32) → (Nat → Int32) → Prop) : Prop := w_X1_sizeNow tcn mcn (fun r1 => (((r1 = (14 : Int32) → (w_X1_bestOfGroups mcn swd rwd hd so ki (fun r3 hd_4 so_5 ki_6 => (((mcn = 0 → (w_X1_heldByPairs hd_4 (fun r12 => (((r12 = (14 : Int32) → (∀ t14 : Int32, t14 = (if r3 < (2 : Int32) then (2 : Int32) else r3) → (w_X1_bestArrangement_b38 post tcn mcn swd rwd t14 hd_4 so_5 ki_6))) ∧ (¬ r12 = (14 : Int32) → (w_X1_bestArrangement_b38 post tcn mcn swd rwd r3 hd_4 so_5 ki_6))))))) ∧ (¬ mcn = 0 → (w_X1_bestArrangement_b38 post tcn mcn swd rwd r3 hd_4 so_5 ki_6))))))) ∧ (¬ r1 = (14 : Int32) → (post (-1 : Int32) hd so ki)))))

set_option maxHeartbeats 4000000 in
set_option maxRecDepth 100000 in
theorem c_X1_bestArrangement (l : Launch) (dC : Nat → ClassId) (dI : Nat → Nat → Nat) (cI cZ : ClassId) (x : Nat) (aH : Nat) (aL : Nat) (aS : Nat) (aO : Nat) (aK : Nat) (aZ : Nat) (cv : Nat) (sz : Nat) (tcn : Int32) (mcn : Int32) (swd : Int32) (rwd : Int32) (bpt : Int32) (flm : Int32) (hd : (Nat → Int32)) (so : (Nat → Int32)) (ki : (Nat → Int32)) (post : Int32 → (Nat → Int32) → (Nat → Int32) → (Nat → Int32) → Prop) (hw : w_X1_bestArrangement tcn mcn swd rwd hd so ki post) : Met l yX1_bestArrangement wsX1_bestArrangement ({ frames := 17, cells := 0, slots := 0, locals := 398 } : Room) (va_Pc [.ref x] (fun U => U.heap.size = sz ∧ va_P (dC, dI) vwCl [(x, .inr (1, [.ref aH, .ref aL, .ref aS, .ref aO, .ref aK, .ref aZ, .ref cv, .int tcn, .int mcn, .int swd, .int rwd, .int bpt, .int flm])), (aH, .inl (cI, 34, .inl hd)), (aO, .inl (cI, 4, .inl so)), (aK, .inl (cI, 4, .inl ki))] U.heap ∧ va_K (dC, dI) vwCl [(cI, .int), (cZ, .boolean)] U ∧ va_D (fun _ => True) [(x, .inr (1, [.ref aH, .ref aL, .ref aS, .ref aO, .ref aK, .ref aZ, .ref cv, .int tcn, .int mcn, .int swd, .int rwd, .int bpt, .int flm])), (aH, .inl (cI, 34, .inl hd)), (aO, .inl (cI, 4, .inl so)), (aK, .inl (cI, 4, .inl ki))])) (va_Qi (fun (r9 : Int32) (u9 : (Nat → Int32) × (Nat → Int32) × (Nat → Int32)) => post r9 u9.1 u9.2.1 u9.2.2) (fun (u9 : (Nat → Int32) × (Nat → Int32) × (Nat → Int32)) (t9 : State) => va_P (dC, dI) vwCl [(x, .inr (1, [.ref aH, .ref aL, .ref aS, .ref aO, .ref aK, .ref aZ, .ref cv, .int tcn, .int mcn, .int swd, .int rwd, .int bpt, .int flm])), (aH, .inl (cI, 34, .inl u9.1)), (aO, .inl (cI, 4, .inl u9.2.1)), (aK, .inl (cI, 4, .inl u9.2.2))] t9.heap ∧ va_K (dC, dI) vwCl [(cI, .int), (cZ, .boolean)] t9 ∧ va_D (va_A [(x, .inr (1, [.ref aH, .ref aL, .ref aS, .ref aO, .ref aK, .ref aZ, .ref cv, .int tcn, .int mcn, .int swd, .int rwd, .int bpt, .int flm])), (aH, .inl (cI, 34, .inl hd)), (aO, .inl (cI, 4, .inl so)), (aK, .inl (cI, 4, .inl ki))] sz) [(x, .inr (1, [.ref aH, .ref aL, .ref aS, .ref aO, .ref aK, .ref aZ, .ref cv, .int tcn, .int mcn, .int swd, .int rwd, .int bpt, .int flm])), (aH, .inl (cI, 34, .inl u9.1)), (aO, .inl (cI, 4, .inl u9.2.1)), (aK, .inl (cI, 4, .inl u9.2.2))]) (va_A [(x, .inr (1, [.ref aH, .ref aL, .ref aS, .ref aO, .ref aK, .ref aZ, .ref cv, .int tcn, .int mcn, .int swd, .int rwd, .int bpt, .int flm])), (aH, .inl (cI, 34, .inl hd)), (aO, .inl (cI, 4, .inl so)), (aK, .inl (cI, 4, .inl ki))] sz)) 0 0 (va_A [(x, .inr (1, [.ref aH, .ref aL, .ref aS, .ref aO, .ref aK, .ref aZ, .ref cv, .int tcn, .int mcn, .int swd, .int rwd, .int bpt, .int flm])), (aH, .inl (cI, 34, .inl hd)), (aO, .inl (cI, 4, .inl so)), (aK, .inl (cI, 4, .inl ki))] sz) := by
  refine Met.ofW (cc := cX1_bestArrangement) (maxL := 2) (ret := (some .int)) (by decide) rfl ?_
  intro p e s m args below meth c s₁ B hml hv
  obtain ⟨rfl, hsz, hP, hK, hD0⟩ := hv
  have hx := B.exec
  have hb := B.bytes
  have hr := B.returns
  have hts := atoms_spec (ws := wsX1_bestArrangement) B.pre
  have hown : s.vm.findClass RX1 = some m.cls := findClass_of_methodNamed B.named
  have hlocks := B.notSynchronized
  have hinX1 : ∀ w ∈ u_ws RX1 TX1 13, w ∈ wsX1_bestArrangement := by decide +kernel
  subst hsz
  have hD := hD0.self (sz := s.heap.size)
  generalize hAe : va_A [(x, .inr (1, [.ref aH, .ref aL, .ref aS, .ref aO, .ref aK, .ref aZ, .ref cv, .int tcn, .int mcn, .int swd, .int rwd, .int bpt, .int flm])), (aH, .inl (cI, 34, .inl hd)), (aO, .inl (cI, 4, .inl so)), (aK, .inl (cI, 4, .inl ki))] s.heap.size = A at hD ⊢
  have hA : ∀ q : Nat, s.heap.size ≤ q → A q := fun q h => by rw [← hAe]; exact Or.inr h
  have hS : va_S A s.heap s.heap [] := va_S.rf
  have hl := lv_entry ([.ref x]) (n := 2) (Nat.le_of_ble_eq_true rfl)
  rw [lg_entry_eq]
  generalize (lg_sl ([.ref x]) ++ List.replicate (2 - (lg_sl ([.ref x])).length) Slot.unset).toArray = ls at hl ⊢
  have hl : lv_has ls 2 [(0, .ref x)] := hl
  refine (?_ : ∀ Q9 : State → Prop, MQ below _ _ s _ _ _ = Q9 → W p l e ({ frames := 17, cells := 0, slots := 0, locals := 398 } : Room) s m _ below meth c s.heap [] 0 0 Q9 (F0 m 0 ls [])) _ rfl
  intro Q9 hQ9
  have hw : w_X1_sizeNow tcn mcn (fun r1 => (((r1 = (14 : Int32) → (w_X1_bestOfGroups mcn swd rwd hd so ki (fun r3 hd_4 so_5 ki_6 => (((mcn = 0 → (w_X1_heldByPairs hd_4 (fun r12 => (((r12 = (14 : Int32) → (∀ t14 : Int32, t14 = (if r3 < (2 : Int32) then (2 : Int32) else r3) → (w_X1_bestArrangement_b38 post tcn mcn swd rwd t14 hd_4 so_5 ki_6))) ∧ (¬ r12 = (14 : Int32) → (w_X1_bestArrangement_b38 post tcn mcn swd rwd r3 hd_4 so_5 ki_6))))))) ∧ (¬ mcn = 0 → (w_X1_bestArrangement_b38 post tcn mcn swd rwd r3 hd_4 so_5 ki_6))))))) ∧ (¬ r1 = (14 : Int32) → (post (-1 : Int32) hd so ki))))) := hw
  have L38 : ∀ (v1 : Int32) (hd : (Nat → Int32)) (so : (Nat → Int32)) (ki : (Nat → Int32)) (H : Heap) (locs : List Loc) (ls : Array Slot), w_X1_bestArrangement_b38 post tcn mcn swd rwd v1 hd so ki → va_P (dC, dI) vwCl [(x, .inr (1, [.ref aH, .ref aL, .ref aS, .ref aO, .ref aK, .ref aZ, .ref cv, .int tcn, .int mcn, .int swd, .int rwd, .int bpt, .int flm])), (aH, .inl (cI, 34, .inl hd)), (aO, .inl (cI, 4, .inl so)), (aK, .inl (cI, 4, .inl ki))] H → va_D A [(x, .inr (1, [.ref aH, .ref aL, .ref aS, .ref aO, .ref aK, .ref aZ, .ref cv, .int tcn, .int mcn, .int swd, .int rwd, .int bpt, .int flm])), (aH, .inl (cI, 34, .inl hd)), (aO, .inl (cI, 4, .inl so)), (aK, .inl (cI, 4, .inl ki))] → va_S A s.heap H locs → lv_has ls 2 [(0, .ref x), (1, .int v1)] → W p l e ({ frames := 17, cells := 0, slots := 0, locals := 398 } : Room) s m ([.ref x] : List Value).toArray below meth c H locs 0 0 Q9 (F0 m 38 ls []) := by
    intro v1 hd so ki H locs ls hw hP hD hS hl
    refine lv_aload_n hx hb dX1_bestArrangement_38 rfl (lv_at hl 0 rfl) ?_
    refine va_get (D := (dC, dI)) (ci := 1) (v := .int mcn) (C := RX1) (T := TX1) (N := 13) hx hb hts hinX1 hown hK hP 0 rfl rfl 8 (by decide) (hts (.fieldLink RX1 89 "TileHand" "meldCount" "I") (by decide +kernel)) (fun _ h9 => h9) rfl dX1_bestArrangement_39 ?_
    refine lv_if_ne (tgt := 61) hx hb dX1_bestArrangement_42 (by decide) (fun c8 => ?_) (fun c8 => ?_)
    · have hw := hw.2 c8
      refine lv_iload_n hx hb dX1_bestArrangement_61 rfl (lv_at hl 1 rfl) ?_
      rw [← hQ9]
      exact W.iret (v := v1) hx hb hr (fun t ht hW => ⟨⟨v1, (hd, so, ki), rfl, hw, by rw [ht]; exact hP, va_K.moved hW.alike hK, hD⟩, hS.F ht⟩) hS.2.2 dX1_bestArrangement_62
    · have hw := hw.1 c8
      refine lv_aload_n hx hb dX1_bestArrangement_45 rfl (lv_at hl 0 rfl) ?_
      have hPc := hP.sub (ws' := [(x, .inr (1, [.ref aH, .ref aL, .ref aS, .ref aO, .ref aK, .ref aZ, .ref cv, .int tcn, .int mcn, .int swd, .int rwd, .int bpt, .int flm])), (aH, .inl (cI, 34, .inl hd))]) [0, 1] rfl
      have hDc := hD.sub (ws' := [(x, .inr (1, [.ref aH, .ref aL, .ref aS, .ref aO, .ref aK, .ref aZ, .ref cv, .int tcn, .int mcn, .int swd, .int rwd, .int bpt, .int flm])), (aH, .inl (cI, 34, .inl hd))]) [0, 1] (by decide) rfl
      have hFc := va_free (wc := [(x, .inr (1, [.ref aH, .ref aL, .ref aS, .ref aO, .ref aK, .ref aZ, .ref cv, .int tcn, .int mcn, .int swd, .int rwd, .int bpt, .int flm])), (aH, .inl (cI, 34, .inl hd))]) hD hS hA [0, 1] rfl
      refine va_calli (va_runV (As := []) (rest := []) ⟨hx, hb, hml, hown, hts⟩ (c_X1_heldByOrphans l dC dI cI cZ x aH aL aS aO aK aZ cv H.size tcn mcn swd rwd bpt flm hd _ hw) (cwV 0 hts gX1_bestArrangement_X1_heldByOrphans rfl rfl rfl (by decide +kernel) ⟨Nat.le_of_ble_eq_true rfl, Nat.le_of_ble_eq_true rfl⟩) ⟨fun a U g mk q => by obtain ⟨q0, q1, qP, qK, qD⟩ := q; exact ⟨q0, q1, qP, va_K.moved (u := U) (U := U.calling g mk a) (Vm.Alike.refl U.vm) qK, qD⟩, va_recv hK hPc (ci := 1) (q0 := 0) rfl rfl, fun U hU hW => ⟨rfl, by rw [hU], by rw [hU]; exact hPc, va_K.moved hW.alike hK, hDc.weaken (fun _ _ _ _ => trivial)⟩⟩ rfl rfl hl.1 rfl (lv_room (Nat.le_of_ble_eq_true rfl)) dX1_bestArrangement_46 ⟨Nat.le_of_ble_eq_true rfl, Nat.le_of_ble_eq_true rfl⟩) hS (fun q _ h => hFc q h) hFc (fun r9 u t H1 locs ht hvm hw hB hz1 hk1 hS => ?_)
      obtain ⟨hP1, -, hD1⟩ := hB
      have hw := And.intro hw trivial
      try dsimp only at hw
      have hw := hw.1
      rw [ht] at hP1
      obtain ⟨hP, hD⟩ := va_join (wr := [(aO, .inl (cI, 4, .inl so)), (aK, .inl (cI, 4, .inl ki))]) (w1 := [(x, .inr (1, [.ref aH, .ref aL, .ref aS, .ref aO, .ref aK, .ref aZ, .ref cv, .int tcn, .int mcn, .int swd, .int rwd, .int bpt, .int flm])), (aH, .inl (cI, 34, .inl hd))]) hP hD [0, 1] [2, 3] rfl rfl (by decide) (by decide) hk1 hFc hP1 hD1
      generalize H1 = H at hP hS ⊢
      have hP : va_P (dC, dI) vwCl [(aO, .inl (cI, 4, .inl so)), (aK, .inl (cI, 4, .inl ki)), (x, .inr (1, [.ref aH, .ref aL, .ref aS, .ref aO, .ref aK, .ref aZ, .ref cv, .int tcn, .int mcn, .int swd, .int rwd, .int bpt, .int flm])), (aH, .inl (cI, 34, .inl hd))] H := hP
      have hD : va_D A [(aO, .inl (cI, 4, .inl so)), (aK, .inl (cI, 4, .inl ki)), (x, .inr (1, [.ref aH, .ref aL, .ref aS, .ref aO, .ref aK, .ref aZ, .ref cv, .int tcn, .int mcn, .int swd, .int rwd, .int bpt, .int flm])), (aH, .inl (cI, 34, .inl hd))] := hD
      refine lv_bipush (v := 14) hx hb dX1_bestArrangement_49 (by decide) ?_
      refine lv_icmp_ne (tgt := 61) hx hb dX1_bestArrangement_51 (by decide) (fun c10 => ?_) (fun c10 => ?_)
      · have hw := hw.2 c10
        refine lv_iload_n hx hb dX1_bestArrangement_61 rfl (lv_at hl 1 rfl) ?_
        have hP9 := hP.sub (ws' := [(x, .inr (1, [.ref aH, .ref aL, .ref aS, .ref aO, .ref aK, .ref aZ, .ref cv, .int tcn, .int mcn, .int swd, .int rwd, .int bpt, .int flm])), (aH, .inl (cI, 34, .inl hd)), (aO, .inl (cI, 4, .inl so)), (aK, .inl (cI, 4, .inl ki))]) [2, 3, 0, 1] rfl
        have hD9 := hD.sub (ws' := [(x, .inr (1, [.ref aH, .ref aL, .ref aS, .ref aO, .ref aK, .ref aZ, .ref cv, .int tcn, .int mcn, .int swd, .int rwd, .int bpt, .int flm])), (aH, .inl (cI, 34, .inl hd)), (aO, .inl (cI, 4, .inl so)), (aK, .inl (cI, 4, .inl ki))]) [2, 3, 0, 1] (by decide) rfl
        rw [← hQ9]
        exact W.iret (v := v1) hx hb hr (fun t ht hW => ⟨⟨v1, (hd, so, ki), rfl, hw, by rw [ht]; exact hP9, va_K.moved hW.alike hK, hD9⟩, hS.F ht⟩) hS.2.2 dX1_bestArrangement_62
      · have hw := hw.1 c10
        refine lv_iload_n hx hb dX1_bestArrangement_54 rfl (lv_at hl 1 rfl) ?_
        refine lv_bipush (v := 13) hx hb dX1_bestArrangement_55 (by decide) ?_
        refine va_mmax hx hb (hml.trans hl.1.symm) hown (hts (.methodLink RX1 197 Lib.Math.max.name) (by decide +kernel)) (hts (.static Lib.Math.max.name) (by decide +kernel)) (hts (.initialized "java/lang/Math") (by decide +kernel)) (hts (.code Lib.Math.max.name Lib.Math.max.code 2 (some .int)) (by decide +kernel)) (Nat.le_of_ble_eq_true rfl) (Nat.le_of_ble_eq_true rfl) (Nat.le_of_ble_eq_true rfl) (Nat.le_of_ble_eq_true rfl) dX1_bestArrangement_57 ?_
        refine lv_topi (fun t11 et11 => ?_)
        have hw := hw t11 et11
        refine lv_istore_n (lv' := [(1, .int t11), (0, .ref x)]) hx hb dX1_bestArrangement_60 rfl hl (by decide) rfl (fun ls hl => ?_)
        refine lv_iload_n hx hb dX1_bestArrangement_61 rfl (lv_at hl 0 rfl) ?_
        have hP9 := hP.sub (ws' := [(x, .inr (1, [.ref aH, .ref aL, .ref aS, .ref aO, .ref aK, .ref aZ, .ref cv, .int tcn, .int mcn, .int swd, .int rwd, .int bpt, .int flm])), (aH, .inl (cI, 34, .inl hd)), (aO, .inl (cI, 4, .inl so)), (aK, .inl (cI, 4, .inl ki))]) [2, 3, 0, 1] rfl
        have hD9 := hD.sub (ws' := [(x, .inr (1, [.ref aH, .ref aL, .ref aS, .ref aO, .ref aK, .ref aZ, .ref cv, .int tcn, .int mcn, .int swd, .int rwd, .int bpt, .int flm])), (aH, .inl (cI, 34, .inl hd)), (aO, .inl (cI, 4, .inl so)), (aK, .inl (cI, 4, .inl ki))]) [2, 3, 0, 1] (by decide) rfl
        rw [← hQ9]
        exact W.iret (v := t11) hx hb hr (fun t ht hW => ⟨⟨t11, (hd, so, ki), rfl, hw, by rw [ht]; exact hP9, va_K.moved hW.alike hK, hD9⟩, hS.F ht⟩) hS.2.2 dX1_bestArrangement_62
  refine lv_aload_n hx hb dX1_bestArrangement_0 rfl (lv_at hl 0 rfl) ?_
  have hPc := hP.sub (ws' := [(x, .inr (1, [.ref aH, .ref aL, .ref aS, .ref aO, .ref aK, .ref aZ, .ref cv, .int tcn, .int mcn, .int swd, .int rwd, .int bpt, .int flm]))]) [0] rfl
  have hDc := hD.sub (ws' := [(x, .inr (1, [.ref aH, .ref aL, .ref aS, .ref aO, .ref aK, .ref aZ, .ref cv, .int tcn, .int mcn, .int swd, .int rwd, .int bpt, .int flm]))]) [0] (by decide) rfl
  have hFc := va_free (wc := [(x, .inr (1, [.ref aH, .ref aL, .ref aS, .ref aO, .ref aK, .ref aZ, .ref cv, .int tcn, .int mcn, .int swd, .int rwd, .int bpt, .int flm]))]) hD hS hA [0] rfl
  refine va_calli (va_runV (As := []) (rest := []) ⟨hx, hb, hml, hown, hts⟩ (c_X1_sizeNow l dC dI cI cZ x aH aL aS aO aK aZ cv s.heap.size tcn mcn swd rwd bpt flm _ hw) (cwV 0 hts gX1_bestArrangement_X1_sizeNow rfl rfl rfl (by decide +kernel) ⟨Nat.le_of_ble_eq_true rfl, Nat.le_of_ble_eq_true rfl⟩) ⟨fun a U g mk q => by obtain ⟨q0, q1, qP, qK, qD⟩ := q; exact ⟨q0, q1, qP, va_K.moved (u := U) (U := U.calling g mk a) (Vm.Alike.refl U.vm) qK, qD⟩, va_recv hK hPc (ci := 1) (q0 := 0) rfl rfl, fun U hU hW => ⟨rfl, by rw [hU], by rw [hU]; exact hPc, va_K.moved hW.alike hK, hDc.weaken (fun _ _ _ _ => trivial)⟩⟩ rfl rfl hl.1 rfl (lv_room (Nat.le_of_ble_eq_true rfl)) dX1_bestArrangement_1 ⟨Nat.le_of_ble_eq_true rfl, Nat.le_of_ble_eq_true rfl⟩) hS (fun q _ h => hFc q h) hFc (fun r1 u t H1 locs ht hvm hw hB hz1 hk1 hS => ?_)
  obtain ⟨hP1, -, hD1⟩ := hB
  have hw := And.intro hw trivial
  try dsimp only at hw
  have hw := hw.1
  rw [ht] at hP1
  obtain ⟨hP, hD⟩ := va_join (wr := [(aH, .inl (cI, 34, .inl hd)), (aO, .inl (cI, 4, .inl so)), (aK, .inl (cI, 4, .inl ki))]) (w1 := [(x, .inr (1, [.ref aH, .ref aL, .ref aS, .ref aO, .ref aK, .ref aZ, .ref cv, .int tcn, .int mcn, .int swd, .int rwd, .int bpt, .int flm]))]) hP hD [0] [1, 2, 3] rfl rfl (by decide) (by decide) hk1 hFc hP1 hD1
  generalize H1 = H at hP hS ⊢
  have hP : va_P (dC, dI) vwCl [(aH, .inl (cI, 34, .inl hd)), (aO, .inl (cI, 4, .inl so)), (aK, .inl (cI, 4, .inl ki)), (x, .inr (1, [.ref aH, .ref aL, .ref aS, .ref aO, .ref aK, .ref aZ, .ref cv, .int tcn, .int mcn, .int swd, .int rwd, .int bpt, .int flm]))] H := hP
  have hD : va_D A [(aH, .inl (cI, 34, .inl hd)), (aO, .inl (cI, 4, .inl so)), (aK, .inl (cI, 4, .inl ki)), (x, .inr (1, [.ref aH, .ref aL, .ref aS, .ref aO, .ref aK, .ref aZ, .ref cv, .int tcn, .int mcn, .int swd, .int rwd, .int bpt, .int flm]))] := hD
  refine lv_bipush (v := 14) hx hb dX1_bestArrangement_4 (by decide) ?_
  refine lv_icmp_eq (tgt := 11) hx hb dX1_bestArrangement_6 (by decide) (fun c2 => ?_) (fun c2 => ?_)
  · have hw := hw.1 c2
    refine lv_aload_n hx hb dX1_bestArrangement_11 rfl (lv_at hl 0 rfl) ?_
    have hPc := hP.sub (ws' := [(x, .inr (1, [.ref aH, .ref aL, .ref aS, .ref aO, .ref aK, .ref aZ, .ref cv, .int tcn, .int mcn, .int swd, .int rwd, .int bpt, .int flm])), (aH, .inl (cI, 34, .inl hd)), (aO, .inl (cI, 4, .inl so)), (aK, .inl (cI, 4, .inl ki))]) [3, 0, 1, 2] rfl
    have hDc := hD.sub (ws' := [(x, .inr (1, [.ref aH, .ref aL, .ref aS, .ref aO, .ref aK, .ref aZ, .ref cv, .int tcn, .int mcn, .int swd, .int rwd, .int bpt, .int flm])), (aH, .inl (cI, 34, .inl hd)), (aO, .inl (cI, 4, .inl so)), (aK, .inl (cI, 4, .inl ki))]) [3, 0, 1, 2] (by decide) rfl
    have hFc := va_free (wc := [(x, .inr (1, [.ref aH, .ref aL, .ref aS, .ref aO, .ref aK, .ref aZ, .ref cv, .int tcn, .int mcn, .int swd, .int rwd, .int bpt, .int flm])), (aH, .inl (cI, 34, .inl hd)), (aO, .inl (cI, 4, .inl so)), (aK, .inl (cI, 4, .inl ki))]) hD hS hA [3, 0, 1, 2] rfl
    refine va_calli (va_runV (As := []) (rest := []) ⟨hx, hb, hml, hown, hts⟩ (c_X1_bestOfGroups l dC dI cI cZ x aH aL aS aO aK aZ cv H.size tcn mcn swd rwd bpt flm hd so ki _ hw) (cwV 0 hts gX1_bestArrangement_X1_bestOfGroups rfl rfl rfl (by decide +kernel) ⟨Nat.le_of_ble_eq_true rfl, Nat.le_of_ble_eq_true rfl⟩) ⟨fun a U g mk q => by obtain ⟨q0, q1, qP, qK, qD⟩ := q; exact ⟨q0, q1, qP, va_K.moved (u := U) (U := U.calling g mk a) (Vm.Alike.refl U.vm) qK, qD⟩, va_recv hK hPc (ci := 1) (q0 := 0) rfl rfl, fun U hU hW => ⟨rfl, by rw [hU], by rw [hU]; exact hPc, va_K.moved hW.alike hK, hDc.weaken (fun _ _ _ _ => trivial)⟩⟩ rfl rfl hl.1 rfl (lv_room (Nat.le_of_ble_eq_true rfl)) dX1_bestArrangement_12 ⟨Nat.le_of_ble_eq_true rfl, Nat.le_of_ble_eq_true rfl⟩) hS (fun q _ h => hFc q h) hFc (fun r3 u t H1 locs ht hvm hw hB hz1 hk1 hS => ?_)
    obtain ⟨hd_4, so_5, ki_6⟩ := u
    obtain ⟨hP1, -, hD1⟩ := hB
    have hw := And.intro hw trivial
    try dsimp only at hw
    have hw := hw.1
    rw [ht] at hP1
    obtain ⟨hP, hD⟩ := va_join (wr := []) (w1 := [(x, .inr (1, [.ref aH, .ref aL, .ref aS, .ref aO, .ref aK, .ref aZ, .ref cv, .int tcn, .int mcn, .int swd, .int rwd, .int bpt, .int flm])), (aH, .inl (cI, 34, .inl hd_4)), (aO, .inl (cI, 4, .inl so_5)), (aK, .inl (cI, 4, .inl ki_6))]) hP hD [3, 0, 1, 2] [] rfl rfl (by decide) (by decide) hk1 hFc hP1 hD1
    generalize H1 = H at hP hS ⊢
    have hP : va_P (dC, dI) vwCl [(x, .inr (1, [.ref aH, .ref aL, .ref aS, .ref aO, .ref aK, .ref aZ, .ref cv, .int tcn, .int mcn, .int swd, .int rwd, .int bpt, .int flm])), (aH, .inl (cI, 34, .inl hd_4)), (aO, .inl (cI, 4, .inl so_5)), (aK, .inl (cI, 4, .inl ki_6))] H := hP
    have hD : va_D A [(x, .inr (1, [.ref aH, .ref aL, .ref aS, .ref aO, .ref aK, .ref aZ, .ref cv, .int tcn, .int mcn, .int swd, .int rwd, .int bpt, .int flm])), (aH, .inl (cI, 34, .inl hd_4)), (aO, .inl (cI, 4, .inl so_5)), (aK, .inl (cI, 4, .inl ki_6))] := hD
    refine lv_istore_n (lv' := [(1, .int r3), (0, .ref x)]) hx hb dX1_bestArrangement_15 rfl hl (by decide) rfl (fun ls hl => ?_)
    refine lv_aload_n hx hb dX1_bestArrangement_16 rfl (lv_at hl 1 rfl) ?_
    refine va_get (D := (dC, dI)) (ci := 1) (v := .int mcn) (C := RX1) (T := TX1) (N := 13) hx hb hts hinX1 hown hK hP 0 rfl rfl 8 (by decide) (hts (.fieldLink RX1 89 "TileHand" "meldCount" "I") (by decide +kernel)) (fun _ h9 => h9) rfl dX1_bestArrangement_17 ?_
    refine lv_if_ne (tgt := 38) hx hb dX1_bestArrangement_20 (by decide) (fun c7 => ?_) (fun c7 => ?_)
    · have hw := hw.2 c7
      exact L38 r3 hd_4 so_5 ki_6 _ _ _ hw hP hD hS (lv_sub hl [1, 0] rfl)
    · have hw := hw.1 c7
      refine lv_aload_n hx hb dX1_bestArrangement_23 rfl (lv_at hl 1 rfl) ?_
      have hPc := hP.sub (ws' := [(x, .inr (1, [.ref aH, .ref aL, .ref aS, .ref aO, .ref aK, .ref aZ, .ref cv, .int tcn, .int mcn, .int swd, .int rwd, .int bpt, .int flm])), (aH, .inl (cI, 34, .inl hd_4))]) [0, 1] rfl
      have hDc := hD.sub (ws' := [(x, .inr (1, [.ref aH, .ref aL, .ref aS, .ref aO, .ref aK, .ref aZ, .ref cv, .int tcn, .int mcn, .int swd, .int rwd, .int bpt, .int flm])), (aH, .inl (cI, 34, .inl hd_4))]) [0, 1] (by decide) rfl
      have hFc := va_free (wc := [(x, .inr (1, [.ref aH, .ref aL, .ref aS, .ref aO, .ref aK, .ref aZ, .ref cv, .int tcn, .int mcn, .int swd, .int rwd, .int bpt, .int flm])), (aH, .inl (cI, 34, .inl hd_4))]) hD hS hA [0, 1] rfl
      refine va_calli (va_runV (As := []) (rest := []) ⟨hx, hb, hml, hown, hts⟩ (c_X1_heldByPairs l dC dI cI cZ x aH aL aS aO aK aZ cv H.size tcn mcn swd rwd bpt flm hd_4 _ hw) (cwV 0 hts gX1_bestArrangement_X1_heldByPairs rfl rfl rfl (by decide +kernel) ⟨Nat.le_of_ble_eq_true rfl, Nat.le_of_ble_eq_true rfl⟩) ⟨fun a U g mk q => by obtain ⟨q0, q1, qP, qK, qD⟩ := q; exact ⟨q0, q1, qP, va_K.moved (u := U) (U := U.calling g mk a) (Vm.Alike.refl U.vm) qK, qD⟩, va_recv hK hPc (ci := 1) (q0 := 0) rfl rfl, fun U hU hW => ⟨rfl, by rw [hU], by rw [hU]; exact hPc, va_K.moved hW.alike hK, hDc.weaken (fun _ _ _ _ => trivial)⟩⟩ rfl rfl hl.1 rfl (lv_room (Nat.le_of_ble_eq_true rfl)) dX1_bestArrangement_24 ⟨Nat.le_of_ble_eq_true rfl, Nat.le_of_ble_eq_true rfl⟩) hS (fun q _ h => hFc q h) hFc (fun r12 u t H1 locs ht hvm hw hB hz1 hk1 hS => ?_)
      obtain ⟨hP1, -, hD1⟩ := hB
      have hw := And.intro hw trivial
      try dsimp only at hw
      have hw := hw.1
      rw [ht] at hP1
      obtain ⟨hP, hD⟩ := va_join (wr := [(aO, .inl (cI, 4, .inl so_5)), (aK, .inl (cI, 4, .inl ki_6))]) (w1 := [(x, .inr (1, [.ref aH, .ref aL, .ref aS, .ref aO, .ref aK, .ref aZ, .ref cv, .int tcn, .int mcn, .int swd, .int rwd, .int bpt, .int flm])), (aH, .inl (cI, 34, .inl hd_4))]) hP hD [0, 1] [2, 3] rfl rfl (by decide) (by decide) hk1 hFc hP1 hD1
      generalize H1 = H at hP hS ⊢
      have hP : va_P (dC, dI) vwCl [(aO, .inl (cI, 4, .inl so_5)), (aK, .inl (cI, 4, .inl ki_6)), (x, .inr (1, [.ref aH, .ref aL, .ref aS, .ref aO, .ref aK, .ref aZ, .ref cv, .int tcn, .int mcn, .int swd, .int rwd, .int bpt, .int flm])), (aH, .inl (cI, 34, .inl hd_4))] H := hP
      have hD : va_D A [(aO, .inl (cI, 4, .inl so_5)), (aK, .inl (cI, 4, .inl ki_6)), (x, .inr (1, [.ref aH, .ref aL, .ref aS, .ref aO, .ref aK, .ref aZ, .ref cv, .int tcn, .int mcn, .int swd, .int rwd, .int bpt, .int flm])), (aH, .inl (cI, 34, .inl hd_4))] := hD
      refine lv_bipush (v := 14) hx hb dX1_bestArrangement_27 (by decide) ?_
      refine lv_icmp_ne (tgt := 38) hx hb dX1_bestArrangement_29 (by decide) (fun c13 => ?_) (fun c13 => ?_)
      · have hw := hw.2 c13
        have hP9 := hP.sub (ws' := [(x, .inr (1, [.ref aH, .ref aL, .ref aS, .ref aO, .ref aK, .ref aZ, .ref cv, .int tcn, .int mcn, .int swd, .int rwd, .int bpt, .int flm])), (aH, .inl (cI, 34, .inl hd_4)), (aO, .inl (cI, 4, .inl so_5)), (aK, .inl (cI, 4, .inl ki_6))]) [2, 3, 0, 1] rfl
        have hD9 := hD.sub (ws' := [(x, .inr (1, [.ref aH, .ref aL, .ref aS, .ref aO, .ref aK, .ref aZ, .ref cv, .int tcn, .int mcn, .int swd, .int rwd, .int bpt, .int flm])), (aH, .inl (cI, 34, .inl hd_4)), (aO, .inl (cI, 4, .inl so_5)), (aK, .inl (cI, 4, .inl ki_6))]) [2, 3, 0, 1] (by decide) rfl
        exact L38 r3 hd_4 so_5 ki_6 _ _ _ hw hP9 hD9 hS (lv_sub hl [1, 0] rfl)
      · have hw := hw.1 c13
        refine lv_iload_n hx hb dX1_bestArrangement_32 rfl (lv_at hl 0 rfl) ?_
        refine lv_iconst (v := 2) hx hb dX1_bestArrangement_33 (by decide) ?_
        refine va_mmax hx hb (hml.trans hl.1.symm) hown (hts (.methodLink RX1 197 Lib.Math.max.name) (by decide +kernel)) (hts (.static Lib.Math.max.name) (by decide +kernel)) (hts (.initialized "java/lang/Math") (by decide +kernel)) (hts (.code Lib.Math.max.name Lib.Math.max.code 2 (some .int)) (by decide +kernel)) (Nat.le_of_ble_eq_true rfl) (Nat.le_of_ble_eq_true rfl) (Nat.le_of_ble_eq_true rfl) (Nat.le_of_ble_eq_true rfl) dX1_bestArrangement_34 ?_
        refine lv_topi (fun t14 et14 => ?_)
        have hw := hw t14 et14
        refine lv_istore_n (lv' := [(1, .int t14), (0, .ref x)]) hx hb dX1_bestArrangement_37 rfl hl (by decide) rfl (fun ls hl => ?_)
        have hP9 := hP.sub (ws' := [(x, .inr (1, [.ref aH, .ref aL, .ref aS, .ref aO, .ref aK, .ref aZ, .ref cv, .int tcn, .int mcn, .int swd, .int rwd, .int bpt, .int flm])), (aH, .inl (cI, 34, .inl hd_4)), (aO, .inl (cI, 4, .inl so_5)), (aK, .inl (cI, 4, .inl ki_6))]) [2, 3, 0, 1] rfl
        have hD9 := hD.sub (ws' := [(x, .inr (1, [.ref aH, .ref aL, .ref aS, .ref aO, .ref aK, .ref aZ, .ref cv, .int tcn, .int mcn, .int swd, .int rwd, .int bpt, .int flm])), (aH, .inl (cI, 34, .inl hd_4)), (aO, .inl (cI, 4, .inl so_5)), (aK, .inl (cI, 4, .inl ki_6))]) [2, 3, 0, 1] (by decide) rfl
        exact L38 t14 hd_4 so_5 ki_6 _ _ _ hw hP9 hD9 hS (lv_sub hl [1, 0] rfl)
  · have hw := hw.2 c2
    refine lv_iconst (v := -1) hx hb dX1_bestArrangement_9 (by decide) ?_
    have hP9 := hP.sub (ws' := [(x, .inr (1, [.ref aH, .ref aL, .ref aS, .ref aO, .ref aK, .ref aZ, .ref cv, .int tcn, .int mcn, .int swd, .int rwd, .int bpt, .int flm])), (aH, .inl (cI, 34, .inl hd)), (aO, .inl (cI, 4, .inl so)), (aK, .inl (cI, 4, .inl ki))]) [3, 0, 1, 2] rfl
    have hD9 := hD.sub (ws' := [(x, .inr (1, [.ref aH, .ref aL, .ref aS, .ref aO, .ref aK, .ref aZ, .ref cv, .int tcn, .int mcn, .int swd, .int rwd, .int bpt, .int flm])), (aH, .inl (cI, 34, .inl hd)), (aO, .inl (cI, 4, .inl so)), (aK, .inl (cI, 4, .inl ki))]) [3, 0, 1, 2] (by decide) rfl
    rw [← hQ9]
    exact W.iret (v := (-1 : Int32)) hx hb hr (fun t ht hW => ⟨⟨(-1 : Int32), (hd, so, ki), rfl, hw, by rw [ht]; exact hP9, va_K.moved hW.alike hK, hD9⟩, hS.F ht⟩) hS.2.2 dX1_bestArrangement_10

def w_X1_isComplete (tcn : Int32) (mcn : Int32) (swd : Int32) (rwd : Int32) (hd : (Nat → Int32)) (so : (Nat → Int32)) (ki : (Nat → Int32)) (post : Int32 → (Nat → Int32) → (Nat → Int32) → (Nat → Int32) → Prop) : Prop := w_X1_bestArrangement tcn mcn swd rwd hd so ki (fun r1 hd_2 so_3 ki_4 => (((r1 = (-1 : Int32) → (post (0 : Int32) hd_2 so_3 ki_4)) ∧ (¬ r1 = (-1 : Int32) → (post (1 : Int32) hd_2 so_3 ki_4)))))

set_option maxHeartbeats 4000000 in
set_option maxRecDepth 100000 in
theorem c_X1_isComplete (l : Launch) (dC : Nat → ClassId) (dI : Nat → Nat → Nat) (cI cZ : ClassId) (x : Nat) (aH : Nat) (aL : Nat) (aS : Nat) (aO : Nat) (aK : Nat) (aZ : Nat) (cv : Nat) (sz : Nat) (tcn : Int32) (mcn : Int32) (swd : Int32) (rwd : Int32) (bpt : Int32) (flm : Int32) (hd : (Nat → Int32)) (so : (Nat → Int32)) (ki : (Nat → Int32)) (post : Int32 → (Nat → Int32) → (Nat → Int32) → (Nat → Int32) → Prop) (hw : w_X1_isComplete tcn mcn swd rwd hd so ki post) : Met l yX1_isComplete wsX1_isComplete ({ frames := 18, cells := 0, slots := 0, locals := 419 } : Room) (va_Pc [.ref x] (fun U => U.heap.size = sz ∧ va_P (dC, dI) vwCl [(x, .inr (1, [.ref aH, .ref aL, .ref aS, .ref aO, .ref aK, .ref aZ, .ref cv, .int tcn, .int mcn, .int swd, .int rwd, .int bpt, .int flm])), (aH, .inl (cI, 34, .inl hd)), (aO, .inl (cI, 4, .inl so)), (aK, .inl (cI, 4, .inl ki))] U.heap ∧ va_K (dC, dI) vwCl [(cI, .int), (cZ, .boolean)] U ∧ va_D (fun _ => True) [(x, .inr (1, [.ref aH, .ref aL, .ref aS, .ref aO, .ref aK, .ref aZ, .ref cv, .int tcn, .int mcn, .int swd, .int rwd, .int bpt, .int flm])), (aH, .inl (cI, 34, .inl hd)), (aO, .inl (cI, 4, .inl so)), (aK, .inl (cI, 4, .inl ki))])) (va_Qi (fun (r9 : Int32) (u9 : (Nat → Int32) × (Nat → Int32) × (Nat → Int32)) => post r9 u9.1 u9.2.1 u9.2.2) (fun (u9 : (Nat → Int32) × (Nat → Int32) × (Nat → Int32)) (t9 : State) => va_P (dC, dI) vwCl [(x, .inr (1, [.ref aH, .ref aL, .ref aS, .ref aO, .ref aK, .ref aZ, .ref cv, .int tcn, .int mcn, .int swd, .int rwd, .int bpt, .int flm])), (aH, .inl (cI, 34, .inl u9.1)), (aO, .inl (cI, 4, .inl u9.2.1)), (aK, .inl (cI, 4, .inl u9.2.2))] t9.heap ∧ va_K (dC, dI) vwCl [(cI, .int), (cZ, .boolean)] t9 ∧ va_D (va_A [(x, .inr (1, [.ref aH, .ref aL, .ref aS, .ref aO, .ref aK, .ref aZ, .ref cv, .int tcn, .int mcn, .int swd, .int rwd, .int bpt, .int flm])), (aH, .inl (cI, 34, .inl hd)), (aO, .inl (cI, 4, .inl so)), (aK, .inl (cI, 4, .inl ki))] sz) [(x, .inr (1, [.ref aH, .ref aL, .ref aS, .ref aO, .ref aK, .ref aZ, .ref cv, .int tcn, .int mcn, .int swd, .int rwd, .int bpt, .int flm])), (aH, .inl (cI, 34, .inl u9.1)), (aO, .inl (cI, 4, .inl u9.2.1)), (aK, .inl (cI, 4, .inl u9.2.2))]) (va_A [(x, .inr (1, [.ref aH, .ref aL, .ref aS, .ref aO, .ref aK, .ref aZ, .ref cv, .int tcn, .int mcn, .int swd, .int rwd, .int bpt, .int flm])), (aH, .inl (cI, 34, .inl hd)), (aO, .inl (cI, 4, .inl so)), (aK, .inl (cI, 4, .inl ki))] sz)) 0 0 (va_A [(x, .inr (1, [.ref aH, .ref aL, .ref aS, .ref aO, .ref aK, .ref aZ, .ref cv, .int tcn, .int mcn, .int swd, .int rwd, .int bpt, .int flm])), (aH, .inl (cI, 34, .inl hd)), (aO, .inl (cI, 4, .inl so)), (aK, .inl (cI, 4, .inl ki))] sz) := by
  refine Met.ofW (cc := cX1_isComplete) (maxL := 1) (ret := (some .boolean)) (by decide) rfl ?_
  intro p e s m args below meth c s₁ B hml hv
  obtain ⟨rfl, hsz, hP, hK, hD0⟩ := hv
  have hx := B.exec
  have hb := B.bytes
  have hr := B.returns
  have hts := atoms_spec (ws := wsX1_isComplete) B.pre
  have hown : s.vm.findClass RX1 = some m.cls := findClass_of_methodNamed B.named
  have hlocks := B.notSynchronized
  have hinX1 : ∀ w ∈ u_ws RX1 TX1 13, w ∈ wsX1_isComplete := by decide +kernel
  subst hsz
  have hD := hD0.self (sz := s.heap.size)
  generalize hAe : va_A [(x, .inr (1, [.ref aH, .ref aL, .ref aS, .ref aO, .ref aK, .ref aZ, .ref cv, .int tcn, .int mcn, .int swd, .int rwd, .int bpt, .int flm])), (aH, .inl (cI, 34, .inl hd)), (aO, .inl (cI, 4, .inl so)), (aK, .inl (cI, 4, .inl ki))] s.heap.size = A at hD ⊢
  have hA : ∀ q : Nat, s.heap.size ≤ q → A q := fun q h => by rw [← hAe]; exact Or.inr h
  have hS : va_S A s.heap s.heap [] := va_S.rf
  have hl := lv_entry ([.ref x]) (n := 1) (Nat.le_of_ble_eq_true rfl)
  rw [lg_entry_eq]
  generalize (lg_sl ([.ref x]) ++ List.replicate (1 - (lg_sl ([.ref x])).length) Slot.unset).toArray = ls at hl ⊢
  have hl : lv_has ls 1 [(0, .ref x)] := hl
  refine (?_ : ∀ Q9 : State → Prop, MQ below _ _ s _ _ _ = Q9 → W p l e ({ frames := 18, cells := 0, slots := 0, locals := 419 } : Room) s m _ below meth c s.heap [] 0 0 Q9 (F0 m 0 ls [])) _ rfl
  intro Q9 hQ9
  have hw : w_X1_bestArrangement tcn mcn swd rwd hd so ki (fun r1 hd_2 so_3 ki_4 => (((r1 = (-1 : Int32) → (post (0 : Int32) hd_2 so_3 ki_4)) ∧ (¬ r1 = (-1 : Int32) → (post (1 : Int32) hd_2 so_3 ki_4))))) := hw
  refine lv_aload_n hx hb dX1_isComplete_0 rfl (lv_at hl 0 rfl) ?_
  have hPc := hP.sub (ws' := [(x, .inr (1, [.ref aH, .ref aL, .ref aS, .ref aO, .ref aK, .ref aZ, .ref cv, .int tcn, .int mcn, .int swd, .int rwd, .int bpt, .int flm])), (aH, .inl (cI, 34, .inl hd)), (aO, .inl (cI, 4, .inl so)), (aK, .inl (cI, 4, .inl ki))]) [0, 1, 2, 3] rfl
  have hDc := hD.sub (ws' := [(x, .inr (1, [.ref aH, .ref aL, .ref aS, .ref aO, .ref aK, .ref aZ, .ref cv, .int tcn, .int mcn, .int swd, .int rwd, .int bpt, .int flm])), (aH, .inl (cI, 34, .inl hd)), (aO, .inl (cI, 4, .inl so)), (aK, .inl (cI, 4, .inl ki))]) [0, 1, 2, 3] (by decide) rfl
  have hFc := va_free (wc := [(x, .inr (1, [.ref aH, .ref aL, .ref aS, .ref aO, .ref aK, .ref aZ, .ref cv, .int tcn, .int mcn, .int swd, .int rwd, .int bpt, .int flm])), (aH, .inl (cI, 34, .inl hd)), (aO, .inl (cI, 4, .inl so)), (aK, .inl (cI, 4, .inl ki))]) hD hS hA [0, 1, 2, 3] rfl
  refine va_calli (va_runV (As := []) (rest := []) ⟨hx, hb, hml, hown, hts⟩ (c_X1_bestArrangement l dC dI cI cZ x aH aL aS aO aK aZ cv s.heap.size tcn mcn swd rwd bpt flm hd so ki _ hw) (cwV 0 hts gX1_isComplete_X1_bestArrangement rfl rfl rfl (by decide +kernel) ⟨Nat.le_of_ble_eq_true rfl, Nat.le_of_ble_eq_true rfl⟩) ⟨fun a U g mk q => by obtain ⟨q0, q1, qP, qK, qD⟩ := q; exact ⟨q0, q1, qP, va_K.moved (u := U) (U := U.calling g mk a) (Vm.Alike.refl U.vm) qK, qD⟩, va_recv hK hPc (ci := 1) (q0 := 0) rfl rfl, fun U hU hW => ⟨rfl, by rw [hU], by rw [hU]; exact hPc, va_K.moved hW.alike hK, hDc.weaken (fun _ _ _ _ => trivial)⟩⟩ rfl rfl hl.1 rfl (lv_room (Nat.le_of_ble_eq_true rfl)) dX1_isComplete_1 ⟨Nat.le_of_ble_eq_true rfl, Nat.le_of_ble_eq_true rfl⟩) hS (fun q _ h => hFc q h) hFc (fun r1 u t H1 locs ht hvm hw hB hz1 hk1 hS => ?_)
  obtain ⟨hd_2, so_3, ki_4⟩ := u
  obtain ⟨hP1, -, hD1⟩ := hB
  have hw := And.intro hw trivial
  try dsimp only at hw
  have hw := hw.1
  rw [ht] at hP1
  obtain ⟨hP, hD⟩ := va_join (wr := []) (w1 := [(x, .inr (1, [.ref aH, .ref aL, .ref aS, .ref aO, .ref aK, .ref aZ, .ref cv, .int tcn, .int mcn, .int swd, .int rwd, .int bpt, .int flm])), (aH, .inl (cI, 34, .inl hd_2)), (aO, .inl (cI, 4, .inl so_3)), (aK, .inl (cI, 4, .inl ki_4))]) hP hD [0, 1, 2, 3] [] rfl rfl (by decide) (by decide) hk1 hFc hP1 hD1
  generalize H1 = H at hP hS ⊢
  have hP : va_P (dC, dI) vwCl [(x, .inr (1, [.ref aH, .ref aL, .ref aS, .ref aO, .ref aK, .ref aZ, .ref cv, .int tcn, .int mcn, .int swd, .int rwd, .int bpt, .int flm])), (aH, .inl (cI, 34, .inl hd_2)), (aO, .inl (cI, 4, .inl so_3)), (aK, .inl (cI, 4, .inl ki_4))] H := hP
  have hD : va_D A [(x, .inr (1, [.ref aH, .ref aL, .ref aS, .ref aO, .ref aK, .ref aZ, .ref cv, .int tcn, .int mcn, .int swd, .int rwd, .int bpt, .int flm])), (aH, .inl (cI, 34, .inl hd_2)), (aO, .inl (cI, 4, .inl so_3)), (aK, .inl (cI, 4, .inl ki_4))] := hD
  refine lv_iconst (v := -1) hx hb dX1_isComplete_4 (by decide) ?_
  refine lv_icmp_eq (tgt := 12) hx hb dX1_isComplete_5 (by decide) (fun c5 => ?_) (fun c5 => ?_)
  · have hw := hw.1 c5
    refine lv_iconst (v := 0) hx hb dX1_isComplete_12 (by decide) ?_
    rw [← hQ9]
    exact W.zret (v := (0 : Int32)) hx hb hr rfl (fun t ht hW => ⟨⟨(0 : Int32), (hd_2, so_3, ki_4), rfl, hw, by rw [ht]; exact hP, va_K.moved hW.alike hK, hD⟩, hS.F ht⟩) hS.2.2 dX1_isComplete_13
  · have hw := hw.2 c5
    refine lv_iconst (v := 1) hx hb dX1_isComplete_8 (by decide) ?_
    refine lv_goto (tgt := 13) hx hb dX1_isComplete_9 (by decide) ?_
    rw [← hQ9]
    exact W.zret (v := (1 : Int32)) hx hb hr rfl (fun t ht hW => ⟨⟨(1 : Int32), (hd_2, so_3, ki_4), rfl, hw, by rw [ht]; exact hP, va_K.moved hW.alike hK, hD⟩, hS.F ht⟩) hS.2.2 dX1_isComplete_13

def w_X1_waits_b64 (post : Int64 → Int32 → (Nat → Int32) → (Nat → Int32) → (Nat → Int32) → Prop) (mcn : Int32) (swd : Int32) (rwd : Int32) (la : (Nat → Int32)) (K15 : Int64 → Int32 → Int32 → (Nat → Int32) → (Nat → Int32) → (Nat → Int32) → Prop) (v1 : Int64) (v3 : Int32) (tcn : Int32) (hd : (Nat → Int32)) (so : (Nat → Int32)) (ki : (Nat → Int32)) : Prop := K15 v1 (v3 + 1) tcn hd so ki

def w_X1_waits_b58 (post : Int64 → Int32 → (Nat → Int32) → (Nat → Int32) → (Nat → Int32) → Prop) (mcn : Int32) (swd : Int32) (rwd : Int32) (la : (Nat → Int32)) (K15 : Int64 → Int32 → Int32 → (Nat → Int32) → (Nat → Int32) → (Nat → Int32) → Prop) (v1 : Int64) (v3 : Int32) (tcn : Int32) (hd : (Nat → Int32)) (so : (Nat → Int32)) (ki : (Nat → Int32)) : Prop := w_X1_addTiles tcn hd v3 (-1 : Int32) (fun tcn_14 hd_15 => (w_X1_waits_b64 post mcn swd rwd la K15 v1 v3 tcn_14 hd_15 so ki))

def w_X1_waits_b15 (post : Int64 → Int32 → (Nat → Int32) → (Nat → Int32) → (Nat → Int32) → Prop) (mcn : Int32) (swd : Int32) (rwd : Int32) (la : (Nat → Int32)) : Nat → Int64 → Int32 → Int32 → (Nat → Int32) → (Nat → Int32) → (Nat → Int32) → Prop
  | 0, _, _, _, _, _, _ => False
  | n + 1, v1, v3, tcn, hd, so, ki => (((34 : Int32) ≤ v3 → (post v1 tcn hd so ki)) ∧ (¬ (34 : Int32) ≤ v3 → (vp_in v3 34 ∧ (vp_in v3 34 ∧ ((((4 : Int32) ≤ ((hd v3.toNatClampNeg) + (la v3.toNatClampNeg)) → (w_X1_waits_b64 post mcn swd rwd la (w_X1_waits_b15 post mcn swd rwd la n) v1 v3 tcn hd so ki)) ∧ (¬ (4 : Int32) ≤ ((hd v3.toNatClampNeg) + (la v3.toNatClampNeg)) → (w_X1_addTiles tcn hd v3 (1 : Int32) (fun tcn_7 hd_8 => (w_X1_bestArrangement tcn_7 mcn swd rwd hd_8 so ki (fun r9 hd_10 so_11 ki_12 => (((r9 = (-1 : Int32) → (w_X1_waits_b58 post mcn swd rwd la (w_X1_waits_b15 post mcn swd rwd la n) v1 v3 tcn_7 hd_10 so_11 ki_12)) ∧ (¬ r9 = (-1 : Int32) → (∀ t16 : Int64, t16 = v1 ||| ((1 : Int64) <<< (v3.toInt64 &&& 63)) → (w_X1_waits_b58 post mcn swd rwd la (w_X1_waits_b15 post mcn swd rwd la n) t16 v3 tcn_7 hd_10 so_11 ki_12))))))))))))))))

def w_X1_waits (tcn : Int32) (mcn : Int32) (swd : Int32) (rwd : Int32) (hd : (Nat → Int32)) (la : (Nat → Int32)) (so : (Nat → Int32)) (ki : (Nat → Int32)) (post : Int64 → Int32 → (Nat → Int32) → (Nat → Int32) → (Nat → Int32) → Prop) : Prop := w_X1_sizeNow tcn mcn (fun r1 => (((r1 = (13 : Int32) → (∃ n9, w_X1_waits_b15 post mcn swd rwd la n9 (0 : Int64) (0 : Int32) tcn hd so ki)) ∧ (¬ r1 = (13 : Int32) → (post (0 : Int64) tcn hd so ki)))))

set_option maxHeartbeats 4000000 in
set_option maxRecDepth 100000 in
theorem c_X1_waits (l : Launch) (dC : Nat → ClassId) (dI : Nat → Nat → Nat) (cI cZ : ClassId) (x : Nat) (aH : Nat) (aL : Nat) (aS : Nat) (aO : Nat) (aK : Nat) (aZ : Nat) (cv : Nat) (sz : Nat) (tcn : Int32) (mcn : Int32) (swd : Int32) (rwd : Int32) (bpt : Int32) (flm : Int32) (hd : (Nat → Int32)) (la : (Nat → Int32)) (so : (Nat → Int32)) (ki : (Nat → Int32)) (post : Int64 → Int32 → (Nat → Int32) → (Nat → Int32) → (Nat → Int32) → Prop) (hw : w_X1_waits tcn mcn swd rwd hd la so ki post) : Met l yX1_waits wsX1_waits ({ frames := 18, cells := 0, slots := 0, locals := 419 } : Room) (va_Pc [.ref x] (fun U => U.heap.size = sz ∧ va_P (dC, dI) vwCl [(x, .inr (1, [.ref aH, .ref aL, .ref aS, .ref aO, .ref aK, .ref aZ, .ref cv, .int tcn, .int mcn, .int swd, .int rwd, .int bpt, .int flm])), (aH, .inl (cI, 34, .inl hd)), (aL, .inl (cI, 34, .inl la)), (aO, .inl (cI, 4, .inl so)), (aK, .inl (cI, 4, .inl ki))] U.heap ∧ va_K (dC, dI) vwCl [(cI, .int), (cZ, .boolean)] U ∧ va_D (fun _ => True) [(x, .inr (1, [.ref aH, .ref aL, .ref aS, .ref aO, .ref aK, .ref aZ, .ref cv, .int tcn, .int mcn, .int swd, .int rwd, .int bpt, .int flm])), (aH, .inl (cI, 34, .inl hd)), (aL, .inl (cI, 34, .inl la)), (aO, .inl (cI, 4, .inl so)), (aK, .inl (cI, 4, .inl ki))])) (va_Ql (fun (r9 : Int64) (u9 : Int32 × (Nat → Int32) × (Nat → Int32) × (Nat → Int32)) => post r9 u9.1 u9.2.1 u9.2.2.1 u9.2.2.2) (fun (u9 : Int32 × (Nat → Int32) × (Nat → Int32) × (Nat → Int32)) (t9 : State) => va_P (dC, dI) vwCl [(x, .inr (1, [.ref aH, .ref aL, .ref aS, .ref aO, .ref aK, .ref aZ, .ref cv, .int u9.1, .int mcn, .int swd, .int rwd, .int bpt, .int flm])), (aH, .inl (cI, 34, .inl u9.2.1)), (aL, .inl (cI, 34, .inl la)), (aO, .inl (cI, 4, .inl u9.2.2.1)), (aK, .inl (cI, 4, .inl u9.2.2.2))] t9.heap ∧ va_K (dC, dI) vwCl [(cI, .int), (cZ, .boolean)] t9 ∧ va_D (va_A [(x, .inr (1, [.ref aH, .ref aL, .ref aS, .ref aO, .ref aK, .ref aZ, .ref cv, .int tcn, .int mcn, .int swd, .int rwd, .int bpt, .int flm])), (aH, .inl (cI, 34, .inl hd)), (aL, .inl (cI, 34, .inl la)), (aO, .inl (cI, 4, .inl so)), (aK, .inl (cI, 4, .inl ki))] sz) [(x, .inr (1, [.ref aH, .ref aL, .ref aS, .ref aO, .ref aK, .ref aZ, .ref cv, .int u9.1, .int mcn, .int swd, .int rwd, .int bpt, .int flm])), (aH, .inl (cI, 34, .inl u9.2.1)), (aL, .inl (cI, 34, .inl la)), (aO, .inl (cI, 4, .inl u9.2.2.1)), (aK, .inl (cI, 4, .inl u9.2.2.2))]) (va_A [(x, .inr (1, [.ref aH, .ref aL, .ref aS, .ref aO, .ref aK, .ref aZ, .ref cv, .int tcn, .int mcn, .int swd, .int rwd, .int bpt, .int flm])), (aH, .inl (cI, 34, .inl hd)), (aL, .inl (cI, 34, .inl la)), (aO, .inl (cI, 4, .inl so)), (aK, .inl (cI, 4, .inl ki))] sz)) 0 0 (va_A [(x, .inr (1, [.ref aH, .ref aL, .ref aS, .ref aO, .ref aK, .ref aZ, .ref cv, .int tcn, .int mcn, .int swd, .int rwd, .int bpt, .int flm])), (aH, .inl (cI, 34, .inl hd)), (aL, .inl (cI, 34, .inl la)), (aO, .inl (cI, 4, .inl so)), (aK, .inl (cI, 4, .inl ki))] sz) := by
  refine Met.ofW (cc := cX1_waits) (maxL := 4) (ret := (some .long)) (by decide) rfl ?_
  intro p e s m args below meth c s₁ B hml hv
  obtain ⟨rfl, hsz, hP, hK, hD0⟩ := hv
  have hx := B.exec
  have hb := B.bytes
  have hr := B.returns
  have hts := atoms_spec (ws := wsX1_waits) B.pre
  have hown : s.vm.findClass RX1 = some m.cls := findClass_of_methodNamed B.named
  have hlocks := B.notSynchronized
  have hinX1 : ∀ w ∈ u_ws RX1 TX1 13, w ∈ wsX1_waits := by decide +kernel
  subst hsz
  have hD := hD0.self (sz := s.heap.size)
  generalize hAe : va_A [(x, .inr (1, [.ref aH, .ref aL, .ref aS, .ref aO, .ref aK, .ref aZ, .ref cv, .int tcn, .int mcn, .int swd, .int rwd, .int bpt, .int flm])), (aH, .inl (cI, 34, .inl hd)), (aL, .inl (cI, 34, .inl la)), (aO, .inl (cI, 4, .inl so)), (aK, .inl (cI, 4, .inl ki))] s.heap.size = A at hD ⊢
  have hA : ∀ q : Nat, s.heap.size ≤ q → A q := fun q h => by rw [← hAe]; exact Or.inr h
  have hS : va_S A s.heap s.heap [] := va_S.rf
  have hl := lv_entry ([.ref x]) (n := 4) (Nat.le_of_ble_eq_true rfl)
  rw [lg_entry_eq]
  generalize (lg_sl ([.ref x]) ++ List.replicate (4 - (lg_sl ([.ref x])).length) Slot.unset).toArray = ls at hl ⊢
  have hl : lv_has ls 4 [(0, .ref x)] := hl
  refine (?_ : ∀ Q9 : State → Prop, MQ below _ _ s _ _ _ = Q9 → W p l e ({ frames := 18, cells := 0, slots := 0, locals := 419 } : Room) s m _ below meth c s.heap [] 0 0 Q9 (F0 m 0 ls [])) _ rfl
  intro Q9 hQ9
  have hw : w_X1_sizeNow tcn mcn (fun r1 => (((r1 = (13 : Int32) → (∃ n9, w_X1_waits_b15 post mcn swd rwd la n9 (0 : Int64) (0 : Int32) tcn hd so ki)) ∧ (¬ r1 = (13 : Int32) → (post (0 : Int64) tcn hd so ki))))) := hw
  have L64 : ∀ (K15 : Int64 → Int32 → Int32 → (Nat → Int32) → (Nat → Int32) → (Nat → Int32) → Prop) (hK15 : ∀ (v1 : Int64) (v3 : Int32) (tcn : Int32) (hd : (Nat → Int32)) (so : (Nat → Int32)) (ki : (Nat → Int32)) (H : Heap) (locs : List Loc) (ls : Array Slot), K15 v1 v3 tcn hd so ki → va_P (dC, dI) vwCl [(x, .inr (1, [.ref aH, .ref aL, .ref aS, .ref aO, .ref aK, .ref aZ, .ref cv, .int tcn, .int mcn, .int swd, .int rwd, .int bpt, .int flm])), (aH, .inl (cI, 34, .inl hd)), (aL, .inl (cI, 34, .inl la)), (aO, .inl (cI, 4, .inl so)), (aK, .inl (cI, 4, .inl ki))] H → va_D A [(x, .inr (1, [.ref aH, .ref aL, .ref aS, .ref aO, .ref aK, .ref aZ, .ref cv, .int tcn, .int mcn, .int swd, .int rwd, .int bpt, .int flm])), (aH, .inl (cI, 34, .inl hd)), (aL, .inl (cI, 34, .inl la)), (aO, .inl (cI, 4, .inl so)), (aK, .inl (cI, 4, .inl ki))] → va_S A s.heap H locs → lv_has ls 4 [(0, .ref x), (1, .long v1), (3, .int v3)] → W p l e ({ frames := 18, cells := 0, slots := 0, locals := 419 } : Room) s m ([.ref x] : List Value).toArray below meth c H locs 0 0 Q9 (F0 m 15 ls [])), ∀ (v1 : Int64) (v3 : Int32) (tcn : Int32) (hd : (Nat → Int32)) (so : (Nat → Int32)) (ki : (Nat → Int32)) (H : Heap) (locs : List Loc) (ls : Array Slot), w_X1_waits_b64 post mcn swd rwd la K15 v1 v3 tcn hd so ki → va_P (dC, dI) vwCl [(x, .inr (1, [.ref aH, .ref aL, .ref aS, .ref aO, .ref aK, .ref aZ, .ref cv, .int tcn, .int mcn, .int swd, .int rwd, .int bpt, .int flm])), (aH, .inl (cI, 34, .inl hd)), (aL, .inl (cI, 34, .inl la)), (aO, .inl (cI, 4, .inl so)), (aK, .inl (cI, 4, .inl ki))] H → va_D A [(x, .inr (1, [.ref aH, .ref aL, .ref aS, .ref aO, .ref aK, .ref aZ, .ref cv, .int tcn, .int mcn, .int swd, .int rwd, .int bpt, .int flm])), (aH, .inl (cI, 34, .inl hd)), (aL, .inl (cI, 34, .inl la)), (aO, .inl (cI, 4, .inl so)), (aK, .inl (cI, 4, .inl ki))] → va_S A s.heap H locs → lv_has ls 4 [(0, .ref x), (1, .long v1), (3, .int v3)] → W p l e ({ frames := 18, cells := 0, slots := 0, locals := 419 } : Room) s m ([.ref x] : List Value).toArray below meth c H locs 0 0 Q9 (F0 m 64 ls []) := by
    intro K15 hK15 v1 v3 tcn hd so ki H locs ls hw hP hD hS hl
    refine lv_iinc (v := v3 + 1) (lv' := [(3, .int (v3 + 1)), (0, .ref x), (1, .long v1)]) hx hb dX1_waits_64 hl (k := 2) rfl rfl (by decide) rfl (fun ls hl => ?_)
    refine lv_goto (tgt := 15) hx hb dX1_waits_67 (by decide) ?_
    exact hK15 v1 (v3 + 1) tcn hd so ki _ _ _ hw hP hD hS (lv_sub hl [1, 2, 0] rfl)
  have L58 : ∀ (K15 : Int64 → Int32 → Int32 → (Nat → Int32) → (Nat → Int32) → (Nat → Int32) → Prop) (hK15 : ∀ (v1 : Int64) (v3 : Int32) (tcn : Int32) (hd : (Nat → Int32)) (so : (Nat → Int32)) (ki : (Nat → Int32)) (H : Heap) (locs : List Loc) (ls : Array Slot), K15 v1 v3 tcn hd so ki → va_P (dC, dI) vwCl [(x, .inr (1, [.ref aH, .ref aL, .ref aS, .ref aO, .ref aK, .ref aZ, .ref cv, .int tcn, .int mcn, .int swd, .int rwd, .int bpt, .int flm])), (aH, .inl (cI, 34, .inl hd)), (aL, .inl (cI, 34, .inl la)), (aO, .inl (cI, 4, .inl so)), (aK, .inl (cI, 4, .inl ki))] H → va_D A [(x, .inr (1, [.ref aH, .ref aL, .ref aS, .ref aO, .ref aK, .ref aZ, .ref cv, .int tcn, .int mcn, .int swd, .int rwd, .int bpt, .int flm])), (aH, .inl (cI, 34, .inl hd)), (aL, .inl (cI, 34, .inl la)), (aO, .inl (cI, 4, .inl so)), (aK, .inl (cI, 4, .inl ki))] → va_S A s.heap H locs → lv_has ls 4 [(0, .ref x), (1, .long v1), (3, .int v3)] → W p l e ({ frames := 18, cells := 0, slots := 0, locals := 419 } : Room) s m ([.ref x] : List Value).toArray below meth c H locs 0 0 Q9 (F0 m 15 ls [])), ∀ (v1 : Int64) (v3 : Int32) (tcn : Int32) (hd : (Nat → Int32)) (so : (Nat → Int32)) (ki : (Nat → Int32)) (H : Heap) (locs : List Loc) (ls : Array Slot), w_X1_waits_b58 post mcn swd rwd la K15 v1 v3 tcn hd so ki → va_P (dC, dI) vwCl [(x, .inr (1, [.ref aH, .ref aL, .ref aS, .ref aO, .ref aK, .ref aZ, .ref cv, .int tcn, .int mcn, .int swd, .int rwd, .int bpt, .int flm])), (aH, .inl (cI, 34, .inl hd)), (aL, .inl (cI, 34, .inl la)), (aO, .inl (cI, 4, .inl so)), (aK, .inl (cI, 4, .inl ki))] H → va_D A [(x, .inr (1, [.ref aH, .ref aL, .ref aS, .ref aO, .ref aK, .ref aZ, .ref cv, .int tcn, .int mcn, .int swd, .int rwd, .int bpt, .int flm])), (aH, .inl (cI, 34, .inl hd)), (aL, .inl (cI, 34, .inl la)), (aO, .inl (cI, 4, .inl so)), (aK, .inl (cI, 4, .inl ki))] → va_S A s.heap H locs → lv_has ls 4 [(0, .ref x), (1, .long v1), (3, .int v3)] → W p l e ({ frames := 18, cells := 0, slots := 0, locals := 419 } : Room) s m ([.ref x] : List Value).toArray below meth c H locs 0 0 Q9 (F0 m 58 ls []) := by
    intro K15 hK15 v1 v3 tcn hd so ki H locs ls hw hP hD hS hl
    refine lv_aload_n hx hb dX1_waits_58 rfl (lv_at hl 0 rfl) ?_
    refine lv_iload_n hx hb dX1_waits_59 rfl (lv_at hl 2 rfl) ?_
    refine lv_iconst (v := -1) hx hb dX1_waits_60 (by decide) ?_
    have hPc := hP.sub (ws' := [(x, .inr (1, [.ref aH, .ref aL, .ref aS, .ref aO, .ref aK, .ref aZ, .ref cv, .int tcn, .int mcn, .int swd, .int rwd, .int bpt, .int flm])), (aH, .inl (cI, 34, .inl hd))]) [0, 1] rfl
    have hDc := hD.sub (ws' := [(x, .inr (1, [.ref aH, .ref aL, .ref aS, .ref aO, .ref aK, .ref aZ, .ref cv, .int tcn, .int mcn, .int swd, .int rwd, .int bpt, .int flm])), (aH, .inl (cI, 34, .inl hd))]) [0, 1] (by decide) rfl
    have hFc := va_free (wc := [(x, .inr (1, [.ref aH, .ref aL, .ref aS, .ref aO, .ref aK, .ref aZ, .ref cv, .int tcn, .int mcn, .int swd, .int rwd, .int bpt, .int flm])), (aH, .inl (cI, 34, .inl hd))]) hD hS hA [0, 1] rfl
    refine va_callv (va_runV (As := [.int v3, .int (-1 : Int32)]) (rest := []) ⟨hx, hb, hml, hown, hts⟩ (c_X1_addTiles l dC dI cI cZ x aH aL aS aO aK aZ cv H.size tcn mcn swd rwd bpt flm hd v3 (-1 : Int32) _ hw) (cwV 2 hts gX1_waits_X1_addTiles rfl rfl rfl (by decide +kernel) ⟨Nat.le_of_ble_eq_true rfl, Nat.le_of_ble_eq_true rfl⟩) ⟨fun a U g mk q => by obtain ⟨q0, q1, qP, qK, qD⟩ := q; exact ⟨q0, q1, qP, va_K.moved (u := U) (U := U.calling g mk a) (Vm.Alike.refl U.vm) qK, qD⟩, va_recv hK hPc (ci := 1) (q0 := 0) rfl rfl, fun U hU hW => ⟨rfl, by rw [hU], by rw [hU]; exact hPc, va_K.moved hW.alike hK, hDc.weaken (fun _ _ _ _ => trivial)⟩⟩ rfl rfl hl.1 rfl (lv_room (Nat.le_of_ble_eq_true rfl)) dX1_waits_61 ⟨Nat.le_of_ble_eq_true rfl, Nat.le_of_ble_eq_true rfl⟩) hS (fun q _ h => hFc q h) hFc (fun u t H1 locs ht hvm hw hB hz1 hk1 hS => ?_)
    obtain ⟨tcn_14, hd_15⟩ := u
    obtain ⟨hP1, -, hD1⟩ := hB
    have hw := And.intro hw trivial
    try dsimp only at hw
    have hw := hw.1
    rw [ht] at hP1
    obtain ⟨hP, hD⟩ := va_join (wr := [(aL, .inl (cI, 34, .inl la)), (aO, .inl (cI, 4, .inl so)), (aK, .inl (cI, 4, .inl ki))]) (w1 := [(x, .inr (1, [.ref aH, .ref aL, .ref aS, .ref aO, .ref aK, .ref aZ, .ref cv, .int tcn_14, .int mcn, .int swd, .int rwd, .int bpt, .int flm])), (aH, .inl (cI, 34, .inl hd_15))]) hP hD [0, 1] [2, 3, 4] rfl rfl (by decide) (by decide) hk1 hFc hP1 hD1
    generalize H1 = H at hP hS ⊢
    have hP : va_P (dC, dI) vwCl [(aL, .inl (cI, 34, .inl la)), (aO, .inl (cI, 4, .inl so)), (aK, .inl (cI, 4, .inl ki)), (x, .inr (1, [.ref aH, .ref aL, .ref aS, .ref aO, .ref aK, .ref aZ, .ref cv, .int tcn_14, .int mcn, .int swd, .int rwd, .int bpt, .int flm])), (aH, .inl (cI, 34, .inl hd_15))] H := hP
    have hD : va_D A [(aL, .inl (cI, 34, .inl la)), (aO, .inl (cI, 4, .inl so)), (aK, .inl (cI, 4, .inl ki)), (x, .inr (1, [.ref aH, .ref aL, .ref aS, .ref aO, .ref aK, .ref aZ, .ref cv, .int tcn_14, .int mcn, .int swd, .int rwd, .int bpt, .int flm])), (aH, .inl (cI, 34, .inl hd_15))] := hD
    have hP9 := hP.sub (ws' := [(x, .inr (1, [.ref aH, .ref aL, .ref aS, .ref aO, .ref aK, .ref aZ, .ref cv, .int tcn_14, .int mcn, .int swd, .int rwd, .int bpt, .int flm])), (aH, .inl (cI, 34, .inl hd_15)), (aL, .inl (cI, 34, .inl la)), (aO, .inl (cI, 4, .inl so)), (aK, .inl (cI, 4, .inl ki))]) [3, 4, 0, 1, 2] rfl
    have hD9 := hD.sub (ws' := [(x, .inr (1, [.ref aH, .ref aL, .ref aS, .ref aO, .ref aK, .ref aZ, .ref cv, .int tcn_14, .int mcn, .int swd, .int rwd, .int bpt, .int flm])), (aH, .inl (cI, 34, .inl hd_15)), (aL, .inl (cI, 34, .inl la)), (aO, .inl (cI, 4, .inl so)), (aK, .inl (cI, 4, .inl ki))]) [3, 4, 0, 1, 2] (by decide) rfl
    exact L64 K15 hK15 v1 v3 tcn_14 hd_15 so ki _ _ _ hw hP9 hD9 hS (lv_sub hl [0, 1, 2] rfl)
  have L15 : ∀ (n : Nat), ∀ (v1 : Int64) (v3 : Int32) (tcn : Int32) (hd : (Nat → Int32)) (so : (Nat → Int32)) (ki : (Nat → Int32)) (H : Heap) (locs : List Loc) (ls : Array Slot), w_X1_waits_b15 post mcn swd rwd la n v1 v3 tcn hd so ki → va_P (dC, dI) vwCl [(x, .inr (1, [.ref aH, .ref aL, .ref aS, .ref aO, .ref aK, .ref aZ, .ref cv, .int tcn, .int mcn, .int swd, .int rwd, .int bpt, .int flm])), (aH, .inl (cI, 34, .inl hd)), (aL, .inl (cI, 34, .inl la)), (aO, .inl (cI, 4, .inl so)), (aK, .inl (cI, 4, .inl ki))] H → va_D A [(x, .inr (1, [.ref aH, .ref aL, .ref aS, .ref aO, .ref aK, .ref aZ, .ref cv, .int tcn, .int mcn, .int swd, .int rwd, .int bpt, .int flm])), (aH, .inl (cI, 34, .inl hd)), (aL, .inl (cI, 34, .inl la)), (aO, .inl (cI, 4, .inl so)), (aK, .inl (cI, 4, .inl ki))] → va_S A s.heap H locs → lv_has ls 4 [(0, .ref x), (1, .long v1), (3, .int v3)] → W p l e ({ frames := 18, cells := 0, slots := 0, locals := 419 } : Room) s m ([.ref x] : List Value).toArray below meth c H locs 0 0 Q9 (F0 m 15 ls []) := by
    intro n
    induction n with
    | zero => intro v1 v3 tcn hd so ki H locs ls hw _ _ _ _; exact False.elim hw
    | succ n ih =>
      intro v1 v3 tcn hd so ki H locs ls hw hP hD hS hl
      refine lv_iload_n hx hb dX1_waits_15 rfl (lv_at hl 2 rfl) ?_
      refine lv_bipush (v := 34) hx hb dX1_waits_16 (by decide) ?_
      refine lv_icmp_ge (tgt := 70) hx hb dX1_waits_18 (by decide) (fun c3 => ?_) (fun c3 => ?_)
      · have hw := hw.1 c3
        refine lv_lload_n hx hb dX1_waits_70 rfl (lv_at hl 1 rfl) ?_
        rw [← hQ9]
        exact W.lret (v := v1) hx hb hr (fun t ht hW => ⟨⟨v1, (tcn, hd, so, ki), rfl, hw, by rw [ht]; exact hP, va_K.moved hW.alike hK, hD⟩, hS.F ht⟩) hS.2.2 dX1_waits_71
      · have hw := hw.2 c3
        refine lv_aload_n hx hb dX1_waits_21 rfl (lv_at hl 0 rfl) ?_
        refine va_get (D := (dC, dI)) (ci := 1) (v := .ref aH) (C := RX1) (T := TX1) (N := 13) hx hb hts hinX1 hown hK hP 0 rfl rfl 0 (by decide) (hts (.fieldLink RX1 9 "TileHand" "hand" "[I") (by decide +kernel)) (fun _ h9 => h9) rfl dX1_waits_22 ?_
        refine lv_iload_n hx hb dX1_waits_25 rfl (lv_at hl 2 rfl) ?_
        obtain ⟨h4, hw⟩ := hw
        refine va_iald hx hb hK hP 1 0 rfl rfl h4 dX1_waits_26 ?_
        refine lv_aload_n hx hb dX1_waits_27 rfl (lv_at hl 0 rfl) ?_
        refine va_get (D := (dC, dI)) (ci := 1) (v := .ref aL) (C := RX1) (T := TX1) (N := 13) hx hb hts hinX1 hown hK hP 0 rfl rfl 1 (by decide) (hts (.fieldLink RX1 13 "TileHand" "laid" "[I") (by decide +kernel)) (fun _ h9 => h9) rfl dX1_waits_28 ?_
        refine lv_iload_n hx hb dX1_waits_31 rfl (lv_at hl 2 rfl) ?_
        obtain ⟨h5, hw⟩ := hw
        refine va_iald hx hb hK hP 2 0 rfl rfl h5 dX1_waits_32 ?_
        refine lv_iadd hx hb dX1_waits_33 ?_
        refine lv_iconst (v := 4) hx hb dX1_waits_34 (by decide) ?_
        refine lv_icmp_ge (tgt := 64) hx hb dX1_waits_35 (by decide) (fun c6 => ?_) (fun c6 => ?_)
        · have hw := hw.1 c6
          exact L64 (w_X1_waits_b15 post mcn swd rwd la n) ih v1 v3 tcn hd so ki _ _ _ hw hP hD hS (lv_sub hl [0, 1, 2] rfl)
        · have hw := hw.2 c6
          refine lv_aload_n hx hb dX1_waits_38 rfl (lv_at hl 0 rfl) ?_
          refine lv_iload_n hx hb dX1_waits_39 rfl (lv_at hl 2 rfl) ?_
          refine lv_iconst (v := 1) hx hb dX1_waits_40 (by decide) ?_
          have hPc := hP.sub (ws' := [(x, .inr (1, [.ref aH, .ref aL, .ref aS, .ref aO, .ref aK, .ref aZ, .ref cv, .int tcn, .int mcn, .int swd, .int rwd, .int bpt, .int flm])), (aH, .inl (cI, 34, .inl hd))]) [0, 1] rfl
          have hDc := hD.sub (ws' := [(x, .inr (1, [.ref aH, .ref aL, .ref aS, .ref aO, .ref aK, .ref aZ, .ref cv, .int tcn, .int mcn, .int swd, .int rwd, .int bpt, .int flm])), (aH, .inl (cI, 34, .inl hd))]) [0, 1] (by decide) rfl
          have hFc := va_free (wc := [(x, .inr (1, [.ref aH, .ref aL, .ref aS, .ref aO, .ref aK, .ref aZ, .ref cv, .int tcn, .int mcn, .int swd, .int rwd, .int bpt, .int flm])), (aH, .inl (cI, 34, .inl hd))]) hD hS hA [0, 1] rfl
          refine va_callv (va_runV (As := [.int v3, .int (1 : Int32)]) (rest := []) ⟨hx, hb, hml, hown, hts⟩ (c_X1_addTiles l dC dI cI cZ x aH aL aS aO aK aZ cv H.size tcn mcn swd rwd bpt flm hd v3 (1 : Int32) _ hw) (cwV 2 hts gX1_waits_X1_addTiles rfl rfl rfl (by decide +kernel) ⟨Nat.le_of_ble_eq_true rfl, Nat.le_of_ble_eq_true rfl⟩) ⟨fun a U g mk q => by obtain ⟨q0, q1, qP, qK, qD⟩ := q; exact ⟨q0, q1, qP, va_K.moved (u := U) (U := U.calling g mk a) (Vm.Alike.refl U.vm) qK, qD⟩, va_recv hK hPc (ci := 1) (q0 := 0) rfl rfl, fun U hU hW => ⟨rfl, by rw [hU], by rw [hU]; exact hPc, va_K.moved hW.alike hK, hDc.weaken (fun _ _ _ _ => trivial)⟩⟩ rfl rfl hl.1 rfl (lv_room (Nat.le_of_ble_eq_true rfl)) dX1_waits_41 ⟨Nat.le_of_ble_eq_true rfl, Nat.le_of_ble_eq_true rfl⟩) hS (fun q _ h => hFc q h) hFc (fun u t H1 locs ht hvm hw hB hz1 hk1 hS => ?_)
          obtain ⟨tcn_7, hd_8⟩ := u
          obtain ⟨hP1, -, hD1⟩ := hB
          have hw := And.intro hw trivial
          try dsimp only at hw
          have hw := hw.1
          rw [ht] at hP1
          obtain ⟨hP, hD⟩ := va_join (wr := [(aL, .inl (cI, 34, .inl la)), (aO, .inl (cI, 4, .inl so)), (aK, .inl (cI, 4, .inl ki))]) (w1 := [(x, .inr (1, [.ref aH, .ref aL, .ref aS, .ref aO, .ref aK, .ref aZ, .ref cv, .int tcn_7, .int mcn, .int swd, .int rwd, .int bpt, .int flm])), (aH, .inl (cI, 34, .inl hd_8))]) hP hD [0, 1] [2, 3, 4] rfl rfl (by decide) (by decide) hk1 hFc hP1 hD1
          generalize H1 = H at hP hS ⊢
          have hP : va_P (dC, dI) vwCl [(aL, .inl (cI, 34, .inl la)), (aO, .inl (cI, 4, .inl so)), (aK, .inl (cI, 4, .inl ki)), (x, .inr (1, [.ref aH, .ref aL, .ref aS, .ref aO, .ref aK, .ref aZ, .ref cv, .int tcn_7, .int mcn, .int swd, .int rwd, .int bpt, .int flm])), (aH, .inl (cI, 34, .inl hd_8))] H := hP
          have hD : va_D A [(aL, .inl (cI, 34, .inl la)), (aO, .inl (cI, 4, .inl so)), (aK, .inl (cI, 4, .inl ki)), (x, .inr (1, [.ref aH, .ref aL, .ref aS, .ref aO, .ref aK, .ref aZ, .ref cv, .int tcn_7, .int mcn, .int swd, .int rwd, .int bpt, .int flm])), (aH, .inl (cI, 34, .inl hd_8))] := hD
          refine lv_aload_n hx hb dX1_waits_44 rfl (lv_at hl 0 rfl) ?_
          have hPc := hP.sub (ws' := [(x, .inr (1, [.ref aH, .ref aL, .ref aS, .ref aO, .ref aK, .ref aZ, .ref cv, .int tcn_7, .int mcn, .int swd, .int rwd, .int bpt, .int flm])), (aH, .inl (cI, 34, .inl hd_8)), (aO, .inl (cI, 4, .inl so)), (aK, .inl (cI, 4, .inl ki))]) [3, 4, 1, 2] rfl
          have hDc := hD.sub (ws' := [(x, .inr (1, [.ref aH, .ref aL, .ref aS, .ref aO, .ref aK, .ref aZ, .ref cv, .int tcn_7, .int mcn, .int swd, .int rwd, .int bpt, .int flm])), (aH, .inl (cI, 34, .inl hd_8)), (aO, .inl (cI, 4, .inl so)), (aK, .inl (cI, 4, .inl ki))]) [3, 4, 1, 2] (by decide) rfl
          have hFc := va_free (wc := [(x, .inr (1, [.ref aH, .ref aL, .ref aS, .ref aO, .ref aK, .ref aZ, .ref cv, .int tcn_7, .int mcn, .int swd, .int rwd, .int bpt, .int flm])), (aH, .inl (cI, 34, .inl hd_8)), (aO, .inl (cI, 4, .inl so)), (aK, .inl (cI, 4, .inl ki))]) hD hS hA [3, 4, 1, 2] rfl
          refine va_calli (va_runV (As := []) (rest := []) ⟨hx, hb, hml, hown, hts⟩ (c_X1_bestArrangement l dC dI cI cZ x aH aL aS aO aK aZ cv H.size tcn_7 mcn swd rwd bpt flm hd_8 so ki _ hw) (cwV 0 hts gX1_waits_X1_bestArrangement rfl rfl rfl (by decide +kernel) ⟨Nat.le_of_ble_eq_true rfl, Nat.le_of_ble_eq_true rfl⟩) ⟨fun a U g mk q => by obtain ⟨q0, q1, qP, qK, qD⟩ := q; exact ⟨q0, q1, qP, va_K.moved (u := U) (U := U.calling g mk a) (Vm.Alike.refl U.vm) qK, qD⟩, va_recv hK hPc (ci := 1) (q0 := 0) rfl rfl, fun U hU hW => ⟨rfl, by rw [hU], by rw [hU]; exact hPc, va_K.moved hW.alike hK, hDc.weaken (fun _ _ _ _ => trivial)⟩⟩ rfl rfl hl.1 rfl (lv_room (Nat.le_of_ble_eq_true rfl)) dX1_waits_45 ⟨Nat.le_of_ble_eq_true rfl, Nat.le_of_ble_eq_true rfl⟩) hS (fun q _ h => hFc q h) hFc (fun r9 u t H1 locs ht hvm hw hB hz1 hk1 hS => ?_)
          obtain ⟨hd_10, so_11, ki_12⟩ := u
          obtain ⟨hP1, -, hD1⟩ := hB
          have hw := And.intro hw trivial
          try dsimp only at hw
          have hw := hw.1
          rw [ht] at hP1
          obtain ⟨hP, hD⟩ := va_join (wr := [(aL, .inl (cI, 34, .inl la))]) (w1 := [(x, .inr (1, [.ref aH, .ref aL, .ref aS, .ref aO, .ref aK, .ref aZ, .ref cv, .int tcn_7, .int mcn, .int swd, .int rwd, .int bpt, .int flm])), (aH, .inl (cI, 34, .inl hd_10)), (aO, .inl (cI, 4, .inl so_11)), (aK, .inl (cI, 4, .inl ki_12))]) hP hD [3, 4, 1, 2] [0] rfl rfl (by decide) (by decide) hk1 hFc hP1 hD1
          generalize H1 = H at hP hS ⊢
          have hP : va_P (dC, dI) vwCl [(aL, .inl (cI, 34, .inl la)), (x, .inr (1, [.ref aH, .ref aL, .ref aS, .ref aO, .ref aK, .ref aZ, .ref cv, .int tcn_7, .int mcn, .int swd, .int rwd, .int bpt, .int flm])), (aH, .inl (cI, 34, .inl hd_10)), (aO, .inl (cI, 4, .inl so_11)), (aK, .inl (cI, 4, .inl ki_12))] H := hP
          have hD : va_D A [(aL, .inl (cI, 34, .inl la)), (x, .inr (1, [.ref aH, .ref aL, .ref aS, .ref aO, .ref aK, .ref aZ, .ref cv, .int tcn_7, .int mcn, .int swd, .int rwd, .int bpt, .int flm])), (aH, .inl (cI, 34, .inl hd_10)), (aO, .inl (cI, 4, .inl so_11)), (aK, .inl (cI, 4, .inl ki_12))] := hD
          refine lv_iconst (v := -1) hx hb dX1_waits_48 (by decide) ?_
          refine lv_icmp_eq (tgt := 58) hx hb dX1_waits_49 (by decide) (fun c13 => ?_) (fun c13 => ?_)
          · have hw := hw.1 c13
            have hP9 := hP.sub (ws' := [(x, .inr (1, [.ref aH, .ref aL, .ref aS, .ref aO, .ref aK, .ref aZ, .ref cv, .int tcn_7, .int mcn, .int swd, .int rwd, .int bpt, .int flm])), (aH, .inl (cI, 34, .inl hd_10)), (aL, .inl (cI, 34, .inl la)), (aO, .inl (cI, 4, .inl so_11)), (aK, .inl (cI, 4, .inl ki_12))]) [1, 2, 0, 3, 4] rfl
            have hD9 := hD.sub (ws' := [(x, .inr (1, [.ref aH, .ref aL, .ref aS, .ref aO, .ref aK, .ref aZ, .ref cv, .int tcn_7, .int mcn, .int swd, .int rwd, .int bpt, .int flm])), (aH, .inl (cI, 34, .inl hd_10)), (aL, .inl (cI, 34, .inl la)), (aO, .inl (cI, 4, .inl so_11)), (aK, .inl (cI, 4, .inl ki_12))]) [1, 2, 0, 3, 4] (by decide) rfl
            exact L58 (w_X1_waits_b15 post mcn swd rwd la n) ih v1 v3 tcn_7 hd_10 so_11 ki_12 _ _ _ hw hP9 hD9 hS (lv_sub hl [0, 1, 2] rfl)
          · have hw := hw.2 c13
            refine lv_lload_n hx hb dX1_waits_52 rfl (lv_at hl 1 rfl) ?_
            refine lv_lconst (v := 1) hx hb dX1_waits_53 (by decide) ?_
            refine lv_iload_n hx hb dX1_waits_54 rfl (lv_at hl 2 rfl) ?_
            refine lv_lshl (v := (1 : Int64) <<< (v3.toInt64 &&& 63)) hx hb dX1_waits_55 rfl ?_
            refine lv_lor hx hb dX1_waits_56 ?_
            refine lv_topl (fun t16 et16 => ?_)
            have hw := hw t16 et16
            refine lv_lstore_n (lv' := [(1, .long t16), (0, .ref x), (3, .int v3)]) hx hb dX1_waits_57 rfl hl (by decide) rfl (fun ls hl => ?_)
            have hP9 := hP.sub (ws' := [(x, .inr (1, [.ref aH, .ref aL, .ref aS, .ref aO, .ref aK, .ref aZ, .ref cv, .int tcn_7, .int mcn, .int swd, .int rwd, .int bpt, .int flm])), (aH, .inl (cI, 34, .inl hd_10)), (aL, .inl (cI, 34, .inl la)), (aO, .inl (cI, 4, .inl so_11)), (aK, .inl (cI, 4, .inl ki_12))]) [1, 2, 0, 3, 4] rfl
            have hD9 := hD.sub (ws' := [(x, .inr (1, [.ref aH, .ref aL, .ref aS, .ref aO, .ref aK, .ref aZ, .ref cv, .int tcn_7, .int mcn, .int swd, .int rwd, .int bpt, .int flm])), (aH, .inl (cI, 34, .inl hd_10)), (aL, .inl (cI, 34, .inl la)), (aO, .inl (cI, 4, .inl so_11)), (aK, .inl (cI, 4, .inl ki_12))]) [1, 2, 0, 3, 4] (by decide) rfl
            exact L58 (w_X1_waits_b15 post mcn swd rwd la n) ih t16 v3 tcn_7 hd_10 so_11 ki_12 _ _ _ hw hP9 hD9 hS (lv_sub hl [1, 0, 2] rfl)
  refine lv_lconst (v := 0) hx hb dX1_waits_0 (by decide) ?_
  refine lv_lstore_n (lv' := [(1, .long (0 : Int64)), (0, .ref x)]) hx hb dX1_waits_1 rfl hl (by decide) rfl (fun ls hl => ?_)
  refine lv_aload_n hx hb dX1_waits_2 rfl (lv_at hl 1 rfl) ?_
  have hPc := hP.sub (ws' := [(x, .inr (1, [.ref aH, .ref aL, .ref aS, .ref aO, .ref aK, .ref aZ, .ref cv, .int tcn, .int mcn, .int swd, .int rwd, .int bpt, .int flm]))]) [0] rfl
  have hDc := hD.sub (ws' := [(x, .inr (1, [.ref aH, .ref aL, .ref aS, .ref aO, .ref aK, .ref aZ, .ref cv, .int tcn, .int mcn, .int swd, .int rwd, .int bpt, .int flm]))]) [0] (by decide) rfl
  have hFc := va_free (wc := [(x, .inr (1, [.ref aH, .ref aL, .ref aS, .ref aO, .ref aK, .ref aZ, .ref cv, .int tcn, .int mcn, .int swd, .int rwd, .int bpt, .int flm]))]) hD hS hA [0] rfl
  refine va_calli (va_runV (As := []) (rest := []) ⟨hx, hb, hml, hown, hts⟩ (c_X1_sizeNow l dC dI cI cZ x aH aL aS aO aK aZ cv s.heap.size tcn mcn swd rwd bpt flm _ hw) (cwV 0 hts gX1_waits_X1_sizeNow rfl rfl rfl (by decide +kernel) ⟨Nat.le_of_ble_eq_true rfl, Nat.le_of_ble_eq_true rfl⟩) ⟨fun a U g mk q => by obtain ⟨q0, q1, qP, qK, qD⟩ := q; exact ⟨q0, q1, qP, va_K.moved (u := U) (U := U.calling g mk a) (Vm.Alike.refl U.vm) qK, qD⟩, va_recv hK hPc (ci := 1) (q0 := 0) rfl rfl, fun U hU hW => ⟨rfl, by rw [hU], by rw [hU]; exact hPc, va_K.moved hW.alike hK, hDc.weaken (fun _ _ _ _ => trivial)⟩⟩ rfl rfl hl.1 rfl (lv_room (Nat.le_of_ble_eq_true rfl)) dX1_waits_3 ⟨Nat.le_of_ble_eq_true rfl, Nat.le_of_ble_eq_true rfl⟩) hS (fun q _ h => hFc q h) hFc (fun r1 u t H1 locs ht hvm hw hB hz1 hk1 hS => ?_)
  obtain ⟨hP1, -, hD1⟩ := hB
  have hw := And.intro hw trivial
  try dsimp only at hw
  have hw := hw.1
  rw [ht] at hP1
  obtain ⟨hP, hD⟩ := va_join (wr := [(aH, .inl (cI, 34, .inl hd)), (aL, .inl (cI, 34, .inl la)), (aO, .inl (cI, 4, .inl so)), (aK, .inl (cI, 4, .inl ki))]) (w1 := [(x, .inr (1, [.ref aH, .ref aL, .ref aS, .ref aO, .ref aK, .ref aZ, .ref cv, .int tcn, .int mcn, .int swd, .int rwd, .int bpt, .int flm]))]) hP hD [0] [1, 2, 3, 4] rfl rfl (by decide) (by decide) hk1 hFc hP1 hD1
  generalize H1 = H at hP hS ⊢
  have hP : va_P (dC, dI) vwCl [(aH, .inl (cI, 34, .inl hd)), (aL, .inl (cI, 34, .inl la)), (aO, .inl (cI, 4, .inl so)), (aK, .inl (cI, 4, .inl ki)), (x, .inr (1, [.ref aH, .ref aL, .ref aS, .ref aO, .ref aK, .ref aZ, .ref cv, .int tcn, .int mcn, .int swd, .int rwd, .int bpt, .int flm]))] H := hP
  have hD : va_D A [(aH, .inl (cI, 34, .inl hd)), (aL, .inl (cI, 34, .inl la)), (aO, .inl (cI, 4, .inl so)), (aK, .inl (cI, 4, .inl ki)), (x, .inr (1, [.ref aH, .ref aL, .ref aS, .ref aO, .ref aK, .ref aZ, .ref cv, .int tcn, .int mcn, .int swd, .int rwd, .int bpt, .int flm]))] := hD
  refine lv_bipush (v := 13) hx hb dX1_waits_6 (by decide) ?_
  refine lv_icmp_eq (tgt := 13) hx hb dX1_waits_8 (by decide) (fun c2 => ?_) (fun c2 => ?_)
  · have hw := hw.1 c2
    refine lv_iconst (v := 0) hx hb dX1_waits_13 (by decide) ?_
    refine lv_istore_n (lv' := [(3, .int (0 : Int32)), (1, .long (0 : Int64)), (0, .ref x)]) hx hb dX1_waits_14 rfl hl (by decide) rfl (fun ls hl => ?_)
    have hP9 := hP.sub (ws' := [(x, .inr (1, [.ref aH, .ref aL, .ref aS, .ref aO, .ref aK, .ref aZ, .ref cv, .int tcn, .int mcn, .int swd, .int rwd, .int bpt, .int flm])), (aH, .inl (cI, 34, .inl hd)), (aL, .inl (cI, 34, .inl la)), (aO, .inl (cI, 4, .inl so)), (aK, .inl (cI, 4, .inl ki))]) [4, 0, 1, 2, 3] rfl
    have hD9 := hD.sub (ws' := [(x, .inr (1, [.ref aH, .ref aL, .ref aS, .ref aO, .ref aK, .ref aZ, .ref cv, .int tcn, .int mcn, .int swd, .int rwd, .int bpt, .int flm])), (aH, .inl (cI, 34, .inl hd)), (aL, .inl (cI, 34, .inl la)), (aO, .inl (cI, 4, .inl so)), (aK, .inl (cI, 4, .inl ki))]) [4, 0, 1, 2, 3] (by decide) rfl
    obtain ⟨n9, hw⟩ := hw
    exact L15 n9 (0 : Int64) (0 : Int32) tcn hd so ki _ _ _ hw hP9 hD9 hS (lv_sub hl [2, 1, 0] rfl)
  · have hw := hw.2 c2
    refine lv_lload_n hx hb dX1_waits_11 rfl (lv_at hl 0 rfl) ?_
    have hP9 := hP.sub (ws' := [(x, .inr (1, [.ref aH, .ref aL, .ref aS, .ref aO, .ref aK, .ref aZ, .ref cv, .int tcn, .int mcn, .int swd, .int rwd, .int bpt, .int flm])), (aH, .inl (cI, 34, .inl hd)), (aL, .inl (cI, 34, .inl la)), (aO, .inl (cI, 4, .inl so)), (aK, .inl (cI, 4, .inl ki))]) [4, 0, 1, 2, 3] rfl
    have hD9 := hD.sub (ws' := [(x, .inr (1, [.ref aH, .ref aL, .ref aS, .ref aO, .ref aK, .ref aZ, .ref cv, .int tcn, .int mcn, .int swd, .int rwd, .int bpt, .int flm])), (aH, .inl (cI, 34, .inl hd)), (aL, .inl (cI, 34, .inl la)), (aO, .inl (cI, 4, .inl so)), (aK, .inl (cI, 4, .inl ki))]) [4, 0, 1, 2, 3] (by decide) rfl
    rw [← hQ9]
    exact W.lret (v := (0 : Int64)) hx hb hr (fun t ht hW => ⟨⟨(0 : Int64), (tcn, hd, so, ki), rfl, hw, by rw [ht]; exact hP9, va_K.moved hW.alike hK, hD9⟩, hS.F ht⟩) hS.2.2 dX1_waits_12

def w_X1_isIn (p0 : Int32) (p1 : Int64) (post : Int32 → Prop) : Prop := ((((p1 >>> (p0.toInt64 &&& 63)) &&& (1 : Int64)) = (0 : Int64) → (post (0 : Int32))) ∧ (¬ ((p1 >>> (p0.toInt64 &&& 63)) &&& (1 : Int64)) = (0 : Int64) → (post (1 : Int32))))

set_option maxHeartbeats 4000000 in
set_option maxRecDepth 100000 in
theorem c_X1_isIn (l : Launch) (dC : Nat → ClassId) (dI : Nat → Nat → Nat) (cI cZ : ClassId) (sz : Nat) (p0 : Int32) (p1 : Int64) (post : Int32 → Prop) (hw : w_X1_isIn p0 p1 post) : Met l yX1_isIn wsX1_isIn ({ frames := 0, cells := 0, slots := 0, locals := 0 } : Room) (va_Pc [.int p0, .long p1] (fun U => U.heap.size = sz ∧ va_P (dC, dI) vwCl [] U.heap ∧ va_K (dC, dI) vwCl [(cI, .int), (cZ, .boolean)] U ∧ va_D (fun _ => True) [])) (va_Qi (fun (r9 : Int32) (u9 : Unit) => post r9) (fun (u9 : Unit) (t9 : State) => va_P (dC, dI) vwCl [] t9.heap ∧ va_K (dC, dI) vwCl [(cI, .int), (cZ, .boolean)] t9 ∧ va_D (va_A [] sz) []) (va_A [] sz)) 0 0 (va_A [] sz) := by
  refine Met.ofW (cc := cX1_isIn) (maxL := 3) (ret := (some .boolean)) (by decide) rfl ?_
  intro p e s m args below meth c s₁ B hml hv
  obtain ⟨rfl, hsz, hP, hK, hD0⟩ := hv
  have hx := B.exec
  have hb := B.bytes
  have hr := B.returns
  have hts := atoms_spec (ws := wsX1_isIn) B.pre
  have hown : s.vm.findClass RX1 = some m.cls := findClass_of_methodNamed B.named
  have hlocks := B.notSynchronized
  subst hsz
  have hD := hD0.self (sz := s.heap.size)
  generalize hAe : va_A [] s.heap.size = A at hD ⊢
  have hA : ∀ q : Nat, s.heap.size ≤ q → A q := fun q h => by rw [← hAe]; exact Or.inr h
  have hS : va_S A s.heap s.heap [] := va_S.rf
  have hl := lv_entry ([.int p0, .long p1]) (n := 3) (Nat.le_of_ble_eq_true rfl)
  rw [lg_entry_eq]
  generalize (lg_sl ([.int p0, .long p1]) ++ List.replicate (3 - (lg_sl ([.int p0, .long p1])).length) Slot.unset).toArray = ls at hl ⊢
  have hl : lv_has ls 3 [(0, .int p0), (1, .long p1)] := hl
  refine (?_ : ∀ Q9 : State → Prop, MQ below _ _ s _ _ _ = Q9 → W p l e ({ frames := 0, cells := 0, slots := 0, locals := 0 } : Room) s m _ below meth c s.heap [] 0 0 Q9 (F0 m 0 ls [])) _ rfl
  intro Q9 hQ9
  have hw : ((((p1 >>> (p0.toInt64 &&& 63)) &&& (1 : Int64)) = (0 : Int64) → (post (0 : Int32))) ∧ (¬ ((p1 >>> (p0.toInt64 &&& 63)) &&& (1 : Int64)) = (0 : Int64) → (post (1 : Int32)))) := hw
  refine lv_lload_n hx hb dX1_isIn_0 rfl (lv_at hl 1 rfl) ?_
  refine lv_iload_n hx hb dX1_isIn_1 rfl (lv_at hl 0 rfl) ?_
  refine lv_lshr (v := p1 >>> (p0.toInt64 &&& 63)) hx hb dX1_isIn_2 rfl ?_
  refine lv_lconst (v := 1) hx hb dX1_isIn_3 (by decide) ?_
  refine lv_land hx hb dX1_isIn_4 ?_
  refine lv_lconst (v := 0) hx hb dX1_isIn_5 (by decide) ?_
  refine W.lcmp hx hb dX1_isIn_6 ?_
  refine lv_if_eq (tgt := 14) hx hb dX1_isIn_7 (by decide) (fun c1 => ?_) (fun c1 => ?_)
  · have hw := hw.1 ((lg_cmp_eq _ _).mp c1)
    refine lv_iconst (v := 0) hx hb dX1_isIn_14 (by decide) ?_
    rw [← hQ9]
    exact W.zret (v := (0 : Int32)) hx hb hr rfl (fun t ht hW => ⟨⟨(0 : Int32), (), rfl, hw, by rw [ht]; exact hP, va_K.moved hW.alike hK, hD⟩, hS.F ht⟩) hS.2.2 dX1_isIn_15
  · have hw := hw.2 (fun q => c1 ((lg_cmp_eq _ _).mpr q))
    refine lv_iconst (v := 1) hx hb dX1_isIn_10 (by decide) ?_
    refine lv_goto (tgt := 15) hx hb dX1_isIn_11 (by decide) ?_
    rw [← hQ9]
    exact W.zret (v := (1 : Int32)) hx hb hr rfl (fun t ht hW => ⟨⟨(1 : Int32), (), rfl, hw, by rw [ht]; exact hP, va_K.moved hW.alike hK, hD⟩, hS.F ht⟩) hS.2.2 dX1_isIn_15
