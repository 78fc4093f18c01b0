theorem scr_out {b sz : Nat} (h : b < sz) : ¬ va_A [] sz b := fun q => q.elim (fun ⟨k, e, z⟩ => by simp at z) (fun z => absurd z (Nat.not_le.mpr h))
def nck (_ : State) : Prop := True
theorem nck_moved {u U : State} (_ : u.vm.Alike U.vm) (_ : nck u) : nck U := trivial
def w_L_below (p0 : Int32) (p1 : Int32) (post : Int32 → Prop) : Prop := ¬ p1 = 0 ∧ (post ((p0 &&& (2147483647 : Int32)) - (p0 &&& (2147483647 : Int32)) / p1 * p1))

set_option maxHeartbeats 4000000 in
set_option maxRecDepth 100000 in
theorem c_L_below (l : Launch) (dC : Nat → ClassId) (dI : Nat → Nat → Nat) (cI cZ : ClassId) (sz : Nat) (p0 : Int32) (p1 : Int32) (post : Int32 → Prop) (hw : w_L_below p0 p1 post) : Met l yL_below wsL_below ({ frames := 0, cells := 0, slots := 0, locals := 0 } : Room) (va_Pc [.int p0, .int p1] (fun U => U.heap.size = sz ∧ va_P (dC, dI) vwCl [] U.heap ∧ va_K (dC, dI) vwCl [(cI, .int), (cZ, .boolean)] U ∧ va_D (fun _ => True) [])) (va_Qi (fun (r9 : Int32) (u9 : Unit) => post r9) (fun (u9 : Unit) (t9 : State) => va_P (dC, dI) vwCl [] t9.heap ∧ va_K (dC, dI) vwCl [(cI, .int), (cZ, .boolean)] t9 ∧ va_D (va_A [] sz) []) (va_A [] sz)) 0 0 (va_A [] sz) := by
  refine Met.ofW (cc := cL_below) (maxL := 2) (ret := (some .int)) (by decide) rfl ?_
  intro p e s m args below meth c s₁ B hml hv
  obtain ⟨rfl, hsz, hP, hK, hD0⟩ := hv
  have hx := B.exec
  have hb := B.bytes
  have hr := B.returns
  have hts := atoms_spec (ws := wsL_below) B.pre
  have hown : s.vm.findClass RL = some m.cls := findClass_of_methodNamed B.named
  have hlocks := B.notSynchronized
  subst hsz
  have hD := hD0.self (sz := s.heap.size)
  generalize hAe : va_A [] s.heap.size = A at hD ⊢
  have hA : ∀ q : Nat, s.heap.size ≤ q → A q := fun q h => by rw [← hAe]; exact Or.inr h
  have hS : va_S A s.heap s.heap [] := va_S.rf
  have hl := lv_entry ([.int p0, .int p1]) (n := 2) (Nat.le_of_ble_eq_true rfl)
  rw [lg_entry_eq]
  generalize (lg_sl ([.int p0, .int p1]) ++ List.replicate (2 - (lg_sl ([.int p0, .int p1])).length) Slot.unset).toArray = ls at hl ⊢
  have hl : lv_has ls 2 [(0, .int p0), (1, .int p1)] := hl
  refine (?_ : ∀ Q9 : State → Prop, MQ below _ _ s _ _ _ = Q9 → W p l e ({ frames := 0, cells := 0, slots := 0, locals := 0 } : Room) s m _ below meth c s.heap [] 0 0 Q9 (F0 m 0 ls [])) _ rfl
  intro Q9 hQ9
  have hw : ¬ p1 = 0 ∧ (post ((p0 &&& (2147483647 : Int32)) - (p0 &&& (2147483647 : Int32)) / p1 * p1)) := hw
  refine lv_iload_n hx hb dL_below_0 rfl (lv_at hl 0 rfl) ?_
  refine lv_ldc (v := 2147483647) hx hb hown (hts (.constant RL 7 2147483647) (by decide +kernel)) dL_below_1 ?_
  refine lv_iand hx hb dL_below_3 ?_
  refine lv_iload_n hx hb dL_below_4 rfl (lv_at hl 1 rfl) ?_
  obtain ⟨h1, hw⟩ := hw
  refine lv_irem hx hb dL_below_5 h1 ?_
  rw [← hQ9]
  exact W.iret (v := (p0 &&& (2147483647 : Int32)) - (p0 &&& (2147483647 : Int32)) / p1 * p1) hx hb hr (fun t ht hW => ⟨⟨(p0 &&& (2147483647 : Int32)) - (p0 &&& (2147483647 : Int32)) / p1 * p1, (), rfl, hw, by rw [ht]; exact hP, va_K.moved hW.alike hK, hD⟩, hS.F ht⟩) hS.2.2 dL_below_6

def w_L_cell (L : Nat) (xs : Nat → Int32) (p0 : Int32) (post : Int32 → Prop) : Prop := (((Int32.ofNat L) ≤ p0 → (post ((790386105 : Int32) * (p0 + (3 : Int32))))) ∧ (¬ (Int32.ofNat L) ≤ p0 → (vp_in p0 L ∧ (post (xs p0.toNatClampNeg)))))

set_option maxHeartbeats 4000000 in
set_option maxRecDepth 100000 in
theorem c_L_cell (l : Launch) (dC : Nat → ClassId) (dI : Nat → Nat → Nat) (cI cZ : ClassId) (b L : Nat) (xs : Nat → Int32) (sz : Nat) (p0 : Int32) (post : Int32 → Prop) (hw : w_L_cell L xs p0 post) : Met l yL_cell wsL_cell ({ frames := 0, cells := 0, slots := 0, locals := 0 } : Room) (va_Pc [.ref b, .int p0] (fun U => U.heap.size = sz ∧ va_P (dC, dI) vwCl [] U.heap ∧ va_K (dC, dI) vwCl [(cI, .int), (cZ, .boolean)] U ∧ va_D (fun _ => True) [] ∧ va_X b L xs U U.heap ∧ b < U.heap.size)) (va_Qi (fun (r9 : Int32) (u9 : Unit) => post r9) (fun (u9 : Unit) (t9 : State) => va_P (dC, dI) vwCl [] t9.heap ∧ va_K (dC, dI) vwCl [(cI, .int), (cZ, .boolean)] t9 ∧ va_D (va_A [] sz) []) (va_A [] sz)) 0 0 (va_A [] sz) := by
  refine Met.ofW (cc := cL_cell) (maxL := 2) (ret := (some .int)) (by decide) rfl ?_
  intro p e s m args below meth c s₁ B hml hv
  obtain ⟨rfl, hsz, hP, hK, hD0, hX, hbl⟩ := hv
  have hx := B.exec
  have hb := B.bytes
  have hr := B.returns
  have hts := atoms_spec (ws := wsL_cell) B.pre
  have hown : s.vm.findClass RL = some m.cls := findClass_of_methodNamed B.named
  have hlocks := B.notSynchronized
  subst hsz
  have hD := hD0.self (sz := s.heap.size)
  have hbA : ¬ va_A [] s.heap.size b := scr_out hbl
  generalize hAe : va_A [] s.heap.size = A at hD hbA ⊢
  have hA : ∀ q : Nat, s.heap.size ≤ q → A q := fun q h => by rw [← hAe]; exact Or.inr h
  have hS : va_S A s.heap s.heap [] := va_S.rf
  have hl := lv_entry ([.ref b, .int p0]) (n := 2) (Nat.le_of_ble_eq_true rfl)
  rw [lg_entry_eq]
  generalize (lg_sl ([.ref b, .int p0]) ++ List.replicate (2 - (lg_sl ([.ref b, .int p0])).length) Slot.unset).toArray = ls at hl ⊢
  have hl : lv_has ls 2 [(0, .ref b), (1, .int p0)] := hl
  refine (?_ : ∀ Q9 : State → Prop, MQ below _ _ s _ _ _ = Q9 → W p l e ({ frames := 0, cells := 0, slots := 0, locals := 0 } : Room) s m _ below meth c s.heap [] 0 0 Q9 (F0 m 0 ls [])) _ rfl
  intro Q9 hQ9
  have hw : (((Int32.ofNat L) ≤ p0 → (post ((790386105 : Int32) * (p0 + (3 : Int32))))) ∧ (¬ (Int32.ofNat L) ≤ p0 → (vp_in p0 L ∧ (post (xs p0.toNatClampNeg))))) := hw
  refine lv_iload_n hx hb dL_cell_0 rfl (lv_at hl 1 rfl) ?_
  refine lv_aload_n hx hb dL_cell_1 rfl (lv_at hl 0 rfl) ?_
  refine va_slen hx hb hX hbl hbA hS dL_cell_2 ?_
  refine lv_icmp_ge (tgt := 12) hx hb dL_cell_3 (by decide) (fun c1 => ?_) (fun c1 => ?_)
  · have hw := hw.1 c1
    refine lv_ldc (v := 790386105) hx hb hown (hts (.constant RL 8 790386105) (by decide +kernel)) dL_cell_12 ?_
    refine lv_iload_n hx hb dL_cell_14 rfl (lv_at hl 1 rfl) ?_
    refine lv_iconst (v := 3) hx hb dL_cell_15 (by decide) ?_
    refine lv_iadd hx hb dL_cell_16 ?_
    refine lv_imul hx hb dL_cell_17 ?_
    rw [← hQ9]
    exact W.iret (v := (790386105 : Int32) * (p0 + (3 : Int32))) hx hb hr (fun t ht hW => ⟨⟨(790386105 : Int32) * (p0 + (3 : Int32)), (), rfl, hw, by rw [ht]; exact hP, va_K.moved hW.alike hK, hD⟩, hS.F ht⟩) hS.2.2 dL_cell_18
  · have hw := hw.2 c1
    refine lv_aload_n hx hb dL_cell_6 rfl (lv_at hl 0 rfl) ?_
    refine lv_iload_n hx hb dL_cell_7 rfl (lv_at hl 1 rfl) ?_
    obtain ⟨h2, hw⟩ := hw
    refine va_sld hx hb hX hbl hbA hS h2 dL_cell_8 ?_
    refine lv_goto (tgt := 18) hx hb dL_cell_9 (by decide) ?_
    rw [← hQ9]
    exact W.iret (v := xs p0.toNatClampNeg) hx hb hr (fun t ht hW => ⟨⟨xs p0.toNatClampNeg, (), rfl, hw, by rw [ht]; exact hP, va_K.moved hW.alike hK, hD⟩, hS.F ht⟩) hS.2.2 dL_cell_18

def w_L_tiles_b4 (post : Int32 → Prop) (aa : (Nat → Int32)) : Nat → Int32 → Int32 → Prop
  | 0, _, _ => False
  | n + 1, v1, v2 => (((34 : Int32) ≤ v2 → (post v1)) ∧ (¬ (34 : Int32) ≤ v2 → (vp_in v2 116 ∧ (∀ t3 : Int32, t3 = v1 + (aa v2.toNatClampNeg) → (w_L_tiles_b4 post aa n t3 (v2 + 1))))))

def w_L_tiles (aa : (Nat → Int32)) (post : Int32 → Prop) : Prop := ∃ n9, w_L_tiles_b4 post aa n9 (0 : Int32) (0 : Int32)

set_option maxHeartbeats 4000000 in
set_option maxRecDepth 100000 in
theorem c_L_tiles (l : Launch) (dC : Nat → ClassId) (dI : Nat → Nat → Nat) (cI cZ : ClassId) (aA : Nat) (sz : Nat) (aa : (Nat → Int32)) (post : Int32 → Prop) (hw : w_L_tiles aa post) : Met l yL_tiles wsL_tiles ({ frames := 0, cells := 0, slots := 0, locals := 0 } : Room) (va_Pc [.ref aA] (fun U => U.heap.size = sz ∧ va_P (dC, dI) vwCl [(aA, .inl (cI, 116, .inl aa))] U.heap ∧ va_K (dC, dI) vwCl [(cI, .int), (cZ, .boolean)] U ∧ va_D (fun _ => True) [(aA, .inl (cI, 116, .inl aa))])) (va_Qi (fun (r9 : Int32) (u9 : Unit) => post r9) (fun (u9 : Unit) (t9 : State) => va_P (dC, dI) vwCl [(aA, .inl (cI, 116, .inl aa))] t9.heap ∧ va_K (dC, dI) vwCl [(cI, .int), (cZ, .boolean)] t9 ∧ va_D (va_A [(aA, .inl (cI, 116, .inl aa))] sz) [(aA, .inl (cI, 116, .inl aa))]) (va_A [(aA, .inl (cI, 116, .inl aa))] sz)) 0 0 (va_A [(aA, .inl (cI, 116, .inl aa))] sz) := by
  refine Met.ofW (cc := cL_tiles) (maxL := 3) (ret := (some .int)) (by decide) rfl ?_
  intro p e s m args below meth c s₁ B hml hv
  obtain ⟨rfl, hsz, hP, hK, hD0⟩ := hv
  have hx := B.exec
  have hb := B.bytes
  have hr := B.returns
  have hts := atoms_spec (ws := wsL_tiles) B.pre
  have hown : s.vm.findClass RL = some m.cls := findClass_of_methodNamed B.named
  have hlocks := B.notSynchronized
  subst hsz
  have hD := hD0.self (sz := s.heap.size)
  generalize hAe : va_A [(aA, .inl (cI, 116, .inl aa))] s.heap.size = A at hD ⊢
  have hA : ∀ q : Nat, s.heap.size ≤ q → A q := fun q h => by rw [← hAe]; exact Or.inr h
  have hS : va_S A s.heap s.heap [] := va_S.rf
  have hl := lv_entry ([.ref aA]) (n := 3) (Nat.le_of_ble_eq_true rfl)
  rw [lg_entry_eq]
  generalize (lg_sl ([.ref aA]) ++ List.replicate (3 - (lg_sl ([.ref aA])).length) Slot.unset).toArray = ls at hl ⊢
  have hl : lv_has ls 3 [(0, .ref aA)] := hl
  refine (?_ : ∀ Q9 : State → Prop, MQ below _ _ s _ _ _ = Q9 → W p l e ({ frames := 0, cells := 0, slots := 0, locals := 0 } : Room) s m _ below meth c s.heap [] 0 0 Q9 (F0 m 0 ls [])) _ rfl
  intro Q9 hQ9
  have hw : ∃ n9, w_L_tiles_b4 post aa n9 (0 : Int32) (0 : Int32) := hw
  have L4 : ∀ (n : Nat), ∀ (v1 : Int32) (v2 : Int32) (H : Heap) (locs : List Loc) (ls : Array Slot), w_L_tiles_b4 post aa n v1 v2 → va_P (dC, dI) vwCl [(aA, .inl (cI, 116, .inl aa))] H → va_D A [(aA, .inl (cI, 116, .inl aa))] → va_S A s.heap H locs → lv_has ls 3 [(0, .ref aA), (1, .int v1), (2, .int v2)] → W p l e ({ frames := 0, cells := 0, slots := 0, locals := 0 } : Room) s m ([.ref aA] : List Value).toArray below meth c H locs 0 0 Q9 (F0 m 4 ls []) := by
    intro n
    induction n with
    | zero => intro v1 v2 H locs ls hw _ _ _ _; exact False.elim hw
    | succ n ih =>
      intro v1 v2 H locs ls hw hP hD hS hl
      refine lv_iload_n hx hb dL_tiles_4 rfl (lv_at hl 2 rfl) ?_
      refine lv_bipush (v := 34) hx hb dL_tiles_5 (by decide) ?_
      refine lv_icmp_ge (tgt := 22) hx hb dL_tiles_7 (by decide) (fun c1 => ?_) (fun c1 => ?_)
      · have hw := hw.1 c1
        refine lv_iload_n hx hb dL_tiles_22 rfl (lv_at hl 1 rfl) ?_
        rw [← hQ9]
        exact W.iret (v := v1) hx hb hr (fun t ht hW => ⟨⟨v1, (), rfl, hw, by rw [ht]; exact hP, va_K.moved hW.alike hK, hD⟩, hS.F ht⟩) hS.2.2 dL_tiles_23
      · have hw := hw.2 c1
        refine lv_iload_n hx hb dL_tiles_10 rfl (lv_at hl 1 rfl) ?_
        refine lv_aload_n hx hb dL_tiles_11 rfl (lv_at hl 0 rfl) ?_
        refine lv_iload_n hx hb dL_tiles_12 rfl (lv_at hl 2 rfl) ?_
        obtain ⟨h2, hw⟩ := hw
        refine va_iald hx hb hK hP 0 0 rfl rfl h2 dL_tiles_13 ?_
        refine lv_iadd hx hb dL_tiles_14 ?_
        refine lv_topi (fun t3 et3 => ?_)
        have hw := hw t3 et3
        refine lv_istore_n (lv' := [(1, .int t3), (0, .ref aA), (2, .int v2)]) hx hb dL_tiles_15 rfl hl (by decide) rfl (fun ls hl => ?_)
        refine lv_iinc (v := v2 + 1) (lv' := [(2, .int (v2 + 1)), (1, .int t3), (0, .ref aA)]) hx hb dL_tiles_16 hl (k := 2) rfl rfl (by decide) rfl (fun ls hl => ?_)
        refine lv_goto (tgt := 4) hx hb dL_tiles_19 (by decide) ?_
        exact ih t3 (v2 + 1) _ _ _ hw hP hD hS (lv_sub hl [2, 1, 0] rfl)
  refine lv_iconst (v := 0) hx hb dL_tiles_0 (by decide) ?_
  refine lv_istore_n (lv' := [(1, .int (0 : Int32)), (0, .ref aA)]) hx hb dL_tiles_1 rfl hl (by decide) rfl (fun ls hl => ?_)
  refine lv_iconst (v := 0) hx hb dL_tiles_2 (by decide) ?_
  refine lv_istore_n (lv' := [(2, .int (0 : Int32)), (1, .int (0 : Int32)), (0, .ref aA)]) hx hb dL_tiles_3 rfl hl (by decide) rfl (fun ls hl => ?_)
  obtain ⟨n9, hw⟩ := hw
  exact L4 n9 (0 : Int32) (0 : Int32) _ _ _ hw hP hD hS (lv_sub hl [2, 1, 0] rfl)

def w_L_draw_b95 (post : Int32 → Int32 → (Nat → Int32) → (Nat → Int32) → Prop) (mcn : Int32) (la : (Nat → Int32)) (se : (Nat → Int32)) (p0 : Int32) (v4 : Int32) (s2 : Int32) (s1 : Int32) (tcn : Int32) (hd : (Nat → Int32)) (aa : (Nat → Int32)) : Prop := ((s1 = s2 → (((v4 = 0 → (post (0 : Int32) tcn hd aa)) ∧ (¬ v4 = 0 → (post (1 : Int32) tcn hd aa))))) ∧ (¬ s1 = s2 → (post (-1 : Int32) tcn hd aa)))

def w_L_draw_b73 (post : Int32 → Int32 → (Nat → Int32) → (Nat → Int32) → Prop) (mcn : Int32) (la : (Nat → Int32)) (se : (Nat → Int32)) (p0 : Int32) (v3 : Int32) (v4 : Int32) (tcn : Int32) (hd : (Nat → Int32)) (aa : (Nat → Int32)) : Prop := ((v4 = 0 → (w_L_draw_b95 post mcn la se p0 v4 (-3 : Int32) v3 tcn hd aa)) ∧ (¬ v4 = 0 → (w_L_tiles aa (fun r11 => (vp_in (102 : Int32) 116 ∧ (w_L_draw_b95 post mcn la se p0 v4 (r11 + ((3 : Int32) * (aa (102 : Int32).toNatClampNeg))) v3 tcn hd aa))))))

def w_L_draw_b59 (post : Int32 → Int32 → (Nat → Int32) → (Nat → Int32) → Prop) (mcn : Int32) (la : (Nat → Int32)) (se : (Nat → Int32)) (p0 : Int32) (v3 : Int32) (s1 : Int32) (tcn : Int32) (hd : (Nat → Int32)) (aa : (Nat → Int32)) : Prop := ((s1 = 0 → (w_L_draw_b73 post mcn la se p0 v3 s1 tcn hd aa)) ∧ (¬ s1 = 0 → (vp_in p0 116 ∧ (vp_in p0 116 ∧ (w_L_draw_b73 post mcn la se p0 v3 s1 tcn hd (upd aa p0.toNatClampNeg ((aa p0.toNatClampNeg) + (1 : Int32))))))))

def w_L_draw_b58 (post : Int32 → Int32 → (Nat → Int32) → (Nat → Int32) → Prop) (mcn : Int32) (la : (Nat → Int32)) (se : (Nat → Int32)) (p0 : Int32) (v3 : Int32) (tcn : Int32) (hd : (Nat → Int32)) (aa : (Nat → Int32)) : Prop := w_L_draw_b59 post mcn la se p0 v3 (0 : Int32) tcn hd aa

def w_L_draw (tcn : Int32) (mcn : Int32) (hd : (Nat → Int32)) (la : (Nat → Int32)) (se : (Nat → Int32)) (aa : (Nat → Int32)) (p0 : Int32) (post : Int32 → Int32 → (Nat → Int32) → (Nat → Int32) → Prop) : Prop := ((w_X1_draw tcn mcn hd la se p0 (fun r1 tcn_2 hd_3 => (w_L_tiles aa (fun r4 => (vp_in (102 : Int32) 116 ∧ ((((14 : Int32) ≤ (r4 + ((3 : Int32) * (aa (102 : Int32).toNatClampNeg))) → (w_L_draw_b58 post mcn la se p0 r1 tcn_2 hd_3 aa)) ∧ (¬ (14 : Int32) ≤ (r4 + ((3 : Int32) * (aa (102 : Int32).toNatClampNeg))) → (vp_in p0 116 ∧ (vp_in ((34 : Int32) + p0) 116 ∧ (vp_in ((68 : Int32) + p0) 116 ∧ ((((4 : Int32) ≤ (((aa p0.toNatClampNeg) + (aa ((34 : Int32) + p0).toNatClampNeg)) + (aa ((68 : Int32) + p0).toNatClampNeg)) → (w_L_draw_b58 post mcn la se p0 r1 tcn_2 hd_3 aa)) ∧ (¬ (4 : Int32) ≤ (((aa p0.toNatClampNeg) + (aa ((34 : Int32) + p0).toNatClampNeg)) + (aa ((68 : Int32) + p0).toNatClampNeg)) → (w_L_draw_b59 post mcn la se p0 r1 (1 : Int32) tcn_2 hd_3 aa))))))))))))))) ∨ (w_X1_draw_x tcn mcn hd la se p0 (fun E19 tcn_2 hd_3 => ((E19 = "java/lang/IllegalStateException" ∧ (w_L_tiles aa (fun r20 => (vp_in (102 : Int32) 116 ∧ ((((14 : Int32) ≤ (r20 + ((3 : Int32) * (aa (102 : Int32).toNatClampNeg))) → (w_L_draw_b58 post mcn la se p0 (-3 : Int32) tcn_2 hd_3 aa)) ∧ (¬ (14 : Int32) ≤ (r20 + ((3 : Int32) * (aa (102 : Int32).toNatClampNeg))) → (vp_in p0 116 ∧ (vp_in ((34 : Int32) + p0) 116 ∧ (vp_in ((68 : Int32) + p0) 116 ∧ ((((4 : Int32) ≤ (((aa p0.toNatClampNeg) + (aa ((34 : Int32) + p0).toNatClampNeg)) + (aa ((68 : Int32) + p0).toNatClampNeg)) → (w_L_draw_b58 post mcn la se p0 (-3 : Int32) tcn_2 hd_3 aa)) ∧ (¬ (4 : Int32) ≤ (((aa p0.toNatClampNeg) + (aa ((34 : Int32) + p0).toNatClampNeg)) + (aa ((68 : Int32) + p0).toNatClampNeg)) → (w_L_draw_b59 post mcn la se p0 (-3 : Int32) (1 : Int32) tcn_2 hd_3 aa))))))))))))))))))

set_option maxHeartbeats 4000000 in
set_option maxRecDepth 100000 in
theorem c_L_draw (l : Launch) (hl9 : l.stackTraces = false) (dC : Nat → ClassId) (dI : Nat → Nat → Nat) (cI cZ : ClassId) (x : Nat) (aH : Nat) (aL : Nat) (aS : Nat) (aO : Nat) (aK : Nat) (aZ : Nat) (cv : Nat) (aA : Nat) (sz : Nat) (tcn : Int32) (mcn : Int32) (swd : Int32) (rwd : Int32) (bpt : Int32) (flm : Int32) (hd : (Nat → Int32)) (la : (Nat → Int32)) (se : (Nat → Int32)) (aa : (Nat → Int32)) (p0 : Int32) (post : Int32 → Int32 → (Nat → Int32) → (Nat → Int32) → Prop) (hw : w_L_draw tcn mcn hd la se aa p0 post) : Met l yL_draw wsL_draw ({ frames := 8, cells := 1, slots := 6, locals := 152 } : Room) (va_Pc [.ref x, .int p0, .ref aA] (fun U => U.heap.size = sz ∧ va_P (dC, dI) vwCl [(x, .inr (1, [.ref aH, .ref aL, .ref aS, .ref aO, .ref aK, .ref aZ, .ref cv, .int tcn, .int mcn, .int swd, .int rwd, .int bpt, .int flm])), (aH, .inl (cI, 34, .inl hd)), (aL, .inl (cI, 34, .inl la)), (aS, .inl (cI, 34, .inl se)), (aA, .inl (cI, 116, .inl aa))] U.heap ∧ va_K (dC, dI) vwCl [(cI, .int), (cZ, .boolean)] U ∧ va_D (fun _ => True) [(x, .inr (1, [.ref aH, .ref aL, .ref aS, .ref aO, .ref aK, .ref aZ, .ref cv, .int tcn, .int mcn, .int swd, .int rwd, .int bpt, .int flm])), (aH, .inl (cI, 34, .inl hd)), (aL, .inl (cI, 34, .inl la)), (aS, .inl (cI, 34, .inl se)), (aA, .inl (cI, 116, .inl aa))] ∧ nck U ∧ xk (va_A [(x, .inr (1, [.ref aH, .ref aL, .ref aS, .ref aO, .ref aK, .ref aZ, .ref cv, .int tcn, .int mcn, .int swd, .int rwd, .int bpt, .int flm])), (aH, .inl (cI, 34, .inl hd)), (aL, .inl (cI, 34, .inl la)), (aS, .inl (cI, 34, .inl se)), (aA, .inl (cI, 116, .inl aa))] sz) U)) (va_Qi (fun (r9 : Int32) (u9 : Int32 × (Nat → Int32) × (Nat → Int32)) => post r9 u9.1 u9.2.1 u9.2.2) (fun (u9 : Int32 × (Nat → Int32) × (Nat → Int32)) (t9 : State) => va_P (dC, dI) vwCl [(x, .inr (1, [.ref aH, .ref aL, .ref aS, .ref aO, .ref aK, .ref aZ, .ref cv, .int u9.1, .int mcn, .int swd, .int rwd, .int bpt, .int flm])), (aH, .inl (cI, 34, .inl u9.2.1)), (aL, .inl (cI, 34, .inl la)), (aS, .inl (cI, 34, .inl se)), (aA, .inl (cI, 116, .inl u9.2.2))] t9.heap ∧ va_K (dC, dI) vwCl [(cI, .int), (cZ, .boolean)] t9 ∧ va_D (va_A [(x, .inr (1, [.ref aH, .ref aL, .ref aS, .ref aO, .ref aK, .ref aZ, .ref cv, .int tcn, .int mcn, .int swd, .int rwd, .int bpt, .int flm])), (aH, .inl (cI, 34, .inl hd)), (aL, .inl (cI, 34, .inl la)), (aS, .inl (cI, 34, .inl se)), (aA, .inl (cI, 116, .inl aa))] sz) [(x, .inr (1, [.ref aH, .ref aL, .ref aS, .ref aO, .ref aK, .ref aZ, .ref cv, .int u9.1, .int mcn, .int swd, .int rwd, .int bpt, .int flm])), (aH, .inl (cI, 34, .inl u9.2.1)), (aL, .inl (cI, 34, .inl la)), (aS, .inl (cI, 34, .inl se)), (aA, .inl (cI, 116, .inl u9.2.2))]) (va_A [(x, .inr (1, [.ref aH, .ref aL, .ref aS, .ref aO, .ref aK, .ref aZ, .ref cv, .int tcn, .int mcn, .int swd, .int rwd, .int bpt, .int flm])), (aH, .inl (cI, 34, .inl hd)), (aL, .inl (cI, 34, .inl la)), (aS, .inl (cI, 34, .inl se)), (aA, .inl (cI, 116, .inl aa))] sz)) 1 6 (va_A [(x, .inr (1, [.ref aH, .ref aL, .ref aS, .ref aO, .ref aK, .ref aZ, .ref cv, .int tcn, .int mcn, .int swd, .int rwd, .int bpt, .int flm])), (aH, .inl (cI, 34, .inl hd)), (aL, .inl (cI, 34, .inl la)), (aS, .inl (cI, 34, .inl se)), (aA, .inl (cI, 116, .inl aa))] sz) := by
  refine va_MetW (cc := cL_draw) (maxL := 5) (ret := (some .int)) (by decide) rfl ?_
  intro p e s m args below meth c s₁ B hml hv
  obtain ⟨rfl, hsz, hP, hK, hD0, hnc, hxk⟩ := hv
  have hx := B.exec
  have hb := B.bytes
  have hr := B.returns
  have hts := atoms_spec (ws := wsL_draw) B.pre
  have hown : s.vm.findClass RL = some m.cls := findClass_of_methodNamed B.named
  have hlocks := B.notSynchronized
  have hinX1 : ∀ w ∈ u_ws RX1 TX1 13, w ∈ wsL_draw := by decide +kernel
  have hTab := vx_table (x := yL_draw) B (hts (.codeWith yL_draw cL_draw 5 (some .int) [(3, 9, 12, 33)]) (by decide +kernel))
  have hK2 := hK.sub (tys' := [(cI, .int), (cZ, .boolean)]) [0, 1] rfl
  subst hsz
  have hD := hD0.self (sz := s.heap.size)
  generalize hAe : va_A [(x, .inr (1, [.ref aH, .ref aL, .ref aS, .ref aO, .ref aK, .ref aZ, .ref cv, .int tcn, .int mcn, .int swd, .int rwd, .int bpt, .int flm])), (aH, .inl (cI, 34, .inl hd)), (aL, .inl (cI, 34, .inl la)), (aS, .inl (cI, 34, .inl se)), (aA, .inl (cI, 116, .inl aa))] s.heap.size = A at hD hxk ⊢
  have hA : ∀ q : Nat, s.heap.size ≤ q → A q := fun q h => by rw [← hAe]; exact Or.inr h
  have hS : va_S A s.heap s.heap [] := va_S.rf
  have hl := lv_entry ([.ref x, .int p0, .ref aA]) (n := 5) (Nat.le_of_ble_eq_true rfl)
  rw [lg_entry_eq]
  generalize (lg_sl ([.ref x, .int p0, .ref aA]) ++ List.replicate (5 - (lg_sl ([.ref x, .int p0, .ref aA])).length) Slot.unset).toArray = ls at hl ⊢
  have hl : lv_has ls 5 [(0, .ref x), (1, .int p0), (2, .ref aA)] := hl
  refine (?_ : ∀ Q9 : State → Prop, MQ below _ _ s _ _ _ = Q9 → W p l e ({ frames := 8, cells := 1, slots := 6, locals := 152 } : Room) s m _ below meth c s.heap [] 0 0 Q9 (F0 m 0 ls [])) _ rfl
  intro Q9 hQ9
  have hw : ((w_X1_draw tcn mcn hd la se p0 (fun r1 tcn_2 hd_3 => (w_L_tiles aa (fun r4 => (vp_in (102 : Int32) 116 ∧ ((((14 : Int32) ≤ (r4 + ((3 : Int32) * (aa (102 : Int32).toNatClampNeg))) → (w_L_draw_b58 post mcn la se p0 r1 tcn_2 hd_3 aa)) ∧ (¬ (14 : Int32) ≤ (r4 + ((3 : Int32) * (aa (102 : Int32).toNatClampNeg))) → (vp_in p0 116 ∧ (vp_in ((34 : Int32) + p0) 116 ∧ (vp_in ((68 : Int32) + p0) 116 ∧ ((((4 : Int32) ≤ (((aa p0.toNatClampNeg) + (aa ((34 : Int32) + p0).toNatClampNeg)) + (aa ((68 : Int32) + p0).toNatClampNeg)) → (w_L_draw_b58 post mcn la se p0 r1 tcn_2 hd_3 aa)) ∧ (¬ (4 : Int32) ≤ (((aa p0.toNatClampNeg) + (aa ((34 : Int32) + p0).toNatClampNeg)) + (aa ((68 : Int32) + p0).toNatClampNeg)) → (w_L_draw_b59 post mcn la se p0 r1 (1 : Int32) tcn_2 hd_3 aa))))))))))))))) ∨ (w_X1_draw_x tcn mcn hd la se p0 (fun E19 tcn_2 hd_3 => ((E19 = "java/lang/IllegalStateException" ∧ (w_L_tiles aa (fun r20 => (vp_in (102 : Int32) 116 ∧ ((((14 : Int32) ≤ (r20 + ((3 : Int32) * (aa (102 : Int32).toNatClampNeg))) → (w_L_draw_b58 post mcn la se p0 (-3 : Int32) tcn_2 hd_3 aa)) ∧ (¬ (14 : Int32) ≤ (r20 + ((3 : Int32) * (aa (102 : Int32).toNatClampNeg))) → (vp_in p0 116 ∧ (vp_in ((34 : Int32) + p0) 116 ∧ (vp_in ((68 : Int32) + p0) 116 ∧ ((((4 : Int32) ≤ (((aa p0.toNatClampNeg) + (aa ((34 : Int32) + p0).toNatClampNeg)) + (aa ((68 : Int32) + p0).toNatClampNeg)) → (w_L_draw_b58 post mcn la se p0 (-3 : Int32) tcn_2 hd_3 aa)) ∧ (¬ (4 : Int32) ≤ (((aa p0.toNatClampNeg) + (aa ((34 : Int32) + p0).toNatClampNeg)) + (aa ((68 : Int32) + p0).toNatClampNeg)) → (w_L_draw_b59 post mcn la se p0 (-3 : Int32) (1 : Int32) tcn_2 hd_3 aa)))))))))))))))))) := hw
  have L95 : ∀ (v4 : Int32) (s2 : Int32) (s1 : Int32) (tcn : Int32) (hd : (Nat → Int32)) (aa : (Nat → Int32)) (H : Heap) (locs : List Loc) (ls : Array Slot), w_L_draw_b95 post mcn la se p0 v4 s2 s1 tcn hd aa → va_P (dC, dI) vwCl [(x, .inr (1, [.ref aH, .ref aL, .ref aS, .ref aO, .ref aK, .ref aZ, .ref cv, .int tcn, .int mcn, .int swd, .int rwd, .int bpt, .int flm])), (aH, .inl (cI, 34, .inl hd)), (aL, .inl (cI, 34, .inl la)), (aS, .inl (cI, 34, .inl se)), (aA, .inl (cI, 116, .inl aa))] H → va_D A [(x, .inr (1, [.ref aH, .ref aL, .ref aS, .ref aO, .ref aK, .ref aZ, .ref cv, .int tcn, .int mcn, .int swd, .int rwd, .int bpt, .int flm])), (aH, .inl (cI, 34, .inl hd)), (aL, .inl (cI, 34, .inl la)), (aS, .inl (cI, 34, .inl se)), (aA, .inl (cI, 116, .inl aa))] → va_S A s.heap H locs → lv_has ls 5 [(4, .int v4)] → W p l e ({ frames := 8, cells := 1, slots := 6, locals := 152 } : Room) s m ([.ref x, .int p0, .ref aA] : List Value).toArray below meth c H locs 1 6 Q9 (F0 m 95 ls [.int s2, .int s1]) := by
    intro v4 s2 s1 tcn hd aa H locs ls hw hP hD hS hl
    refine lv_icmp_ne (tgt := 111) hx hb dL_draw_95 (by decide) (fun c9 => ?_) (fun c9 => ?_)
    · have hw := hw.2 c9
      refine lv_iconst (v := -1) hx hb dL_draw_111 (by decide) ?_
      rw [← hQ9]
      exact W.iret (v := (-1 : Int32)) hx hb hr (fun t ht hW => ⟨⟨(-1 : Int32), (tcn, hd, aa), rfl, hw, by rw [ht]; exact hP, va_K.moved hW.alike hK, hD⟩, hS.F ht⟩) hS.2.2 dL_draw_112
    · have hw := hw.1 c9
      refine lv_iload hx hb dL_draw_98 (lv_at hl 0 rfl) ?_
      refine lv_if_eq (tgt := 107) hx hb dL_draw_100 (by decide) (fun c10 => ?_) (fun c10 => ?_)
      · have hw := hw.1 c10
        refine lv_iconst (v := 0) hx hb dL_draw_107 (by decide) ?_
        refine lv_goto (tgt := 112) hx hb dL_draw_108 (by decide) ?_
        rw [← hQ9]
        exact W.iret (v := (0 : Int32)) hx hb hr (fun t ht hW => ⟨⟨(0 : Int32), (tcn, hd, aa), rfl, hw, by rw [ht]; exact hP, va_K.moved hW.alike hK, hD⟩, hS.F ht⟩) hS.2.2 dL_draw_112
      · have hw := hw.2 c10
        refine lv_iconst (v := 1) hx hb dL_draw_103 (by decide) ?_
        refine lv_goto (tgt := 112) hx hb dL_draw_104 (by decide) ?_
        rw [← hQ9]
        exact W.iret (v := (1 : Int32)) hx hb hr (fun t ht hW => ⟨⟨(1 : Int32), (tcn, hd, aa), rfl, hw, by rw [ht]; exact hP, va_K.moved hW.alike hK, hD⟩, hS.F ht⟩) hS.2.2 dL_draw_112
  have L73 : ∀ (v3 : Int32) (v4 : Int32) (tcn : Int32) (hd : (Nat → Int32)) (aa : (Nat → Int32)) (H : Heap) (locs : List Loc) (ls : Array Slot), w_L_draw_b73 post mcn la se p0 v3 v4 tcn hd aa → va_P (dC, dI) vwCl [(x, .inr (1, [.ref aH, .ref aL, .ref aS, .ref aO, .ref aK, .ref aZ, .ref cv, .int tcn, .int mcn, .int swd, .int rwd, .int bpt, .int flm])), (aH, .inl (cI, 34, .inl hd)), (aL, .inl (cI, 34, .inl la)), (aS, .inl (cI, 34, .inl se)), (aA, .inl (cI, 116, .inl aa))] H → va_D A [(x, .inr (1, [.ref aH, .ref aL, .ref aS, .ref aO, .ref aK, .ref aZ, .ref cv, .int tcn, .int mcn, .int swd, .int rwd, .int bpt, .int flm])), (aH, .inl (cI, 34, .inl hd)), (aL, .inl (cI, 34, .inl la)), (aS, .inl (cI, 34, .inl se)), (aA, .inl (cI, 116, .inl aa))] → va_S A s.heap H locs → lv_has ls 5 [(2, .ref aA), (3, .int v3), (4, .int v4)] → W p l e ({ frames := 8, cells := 1, slots := 6, locals := 152 } : Room) s m ([.ref x, .int p0, .ref aA] : List Value).toArray below meth c H locs 1 6 Q9 (F0 m 73 ls []) := by
    intro v3 v4 tcn hd aa H locs ls hw hP hD hS hl
    refine lv_iload_n hx hb dL_draw_73 rfl (lv_at hl 1 rfl) ?_
    refine lv_iload hx hb dL_draw_74 (lv_at hl 2 rfl) ?_
    refine lv_if_eq (tgt := 93) hx hb dL_draw_76 (by decide) (fun c8 => ?_) (fun c8 => ?_)
    · have hw := hw.1 c8
      refine lv_bipush (v := -3) hx hb dL_draw_93 (by decide) ?_
      exact L95 v4 (-3 : Int32) v3 tcn hd aa _ _ _ hw hP hD hS (lv_sub hl [2] rfl)
    · have hw := hw.2 c8
      refine lv_aload_n hx hb dL_draw_79 rfl (lv_at hl 0 rfl) ?_
      have hPc := hP.sub (ws' := [(aA, .inl (cI, 116, .inl aa))]) [4] rfl
      have hDc := hD.sub (ws' := [(aA, .inl (cI, 116, .inl aa))]) [4] (by decide) rfl
      have hFc := va_free (wc := [(aA, .inl (cI, 116, .inl aa))]) hD hS hA [4] rfl
      refine va_calli (va_runS (As := [.ref aA]) (rest := [.int v3]) ⟨hx, hb, hml, hown, hts⟩ (c_L_tiles l dC dI cI cZ aA H.size aa _ hw) (va_cwS 1 hts gL_draw_L_tiles rfl rfl rfl (by decide +kernel) ⟨Nat.le_of_ble_eq_true rfl, Nat.le_of_ble_eq_true rfl⟩) ⟨fun a U g mk q => by obtain ⟨q0, q1, qP, qK, qD⟩ := q; exact ⟨q0, q1, qP, va_K.moved (u := U) (U := U.calling g mk a) (Vm.Alike.refl U.vm) qK, qD⟩, fun U hU hW => ⟨rfl, by rw [hU], by rw [hU]; exact hPc, va_K.moved hW.alike hK, hDc.weaken (fun _ _ _ _ => trivial)⟩⟩ rfl rfl hl.1 rfl (lv_room (Nat.le_of_ble_eq_true rfl)) dL_draw_80 ⟨Nat.le_of_ble_eq_true rfl, Nat.le_of_ble_eq_true rfl⟩) hS (fun q _ h => hFc q h) hFc (fun r11 u t H1 locs ht hvm hw hB hz1 hk1 hS => ?_)
      obtain ⟨hP1, -, hD1⟩ := hB
      have hw := And.intro hw trivial
      try dsimp only at hw
      have hw := hw.1
      rw [ht] at hP1
      obtain ⟨hP, hD⟩ := va_join (wr := [(x, .inr (1, [.ref aH, .ref aL, .ref aS, .ref aO, .ref aK, .ref aZ, .ref cv, .int tcn, .int mcn, .int swd, .int rwd, .int bpt, .int flm])), (aH, .inl (cI, 34, .inl hd)), (aL, .inl (cI, 34, .inl la)), (aS, .inl (cI, 34, .inl se))]) (w1 := [(aA, .inl (cI, 116, .inl aa))]) hP hD [4] [0, 1, 2, 3] rfl rfl (by decide) (by decide) hk1 hFc hP1 hD1
      generalize H1 = H at hP hS ⊢
      have hP : va_P (dC, dI) vwCl [(x, .inr (1, [.ref aH, .ref aL, .ref aS, .ref aO, .ref aK, .ref aZ, .ref cv, .int tcn, .int mcn, .int swd, .int rwd, .int bpt, .int flm])), (aH, .inl (cI, 34, .inl hd)), (aL, .inl (cI, 34, .inl la)), (aS, .inl (cI, 34, .inl se)), (aA, .inl (cI, 116, .inl aa))] H := hP
      have hD : va_D A [(x, .inr (1, [.ref aH, .ref aL, .ref aS, .ref aO, .ref aK, .ref aZ, .ref cv, .int tcn, .int mcn, .int swd, .int rwd, .int bpt, .int flm])), (aH, .inl (cI, 34, .inl hd)), (aL, .inl (cI, 34, .inl la)), (aS, .inl (cI, 34, .inl se)), (aA, .inl (cI, 116, .inl aa))] := hD
      refine lv_iconst (v := 3) hx hb dL_draw_83 (by decide) ?_
      refine lv_aload_n hx hb dL_draw_84 rfl (lv_at hl 0 rfl) ?_
      refine lv_bipush (v := 102) hx hb dL_draw_85 (by decide) ?_
      obtain ⟨h12, hw⟩ := hw
      refine va_iald hx hb hK hP 4 0 rfl rfl h12 dL_draw_87 ?_
      refine lv_imul hx hb dL_draw_88 ?_
      refine lv_iadd hx hb dL_draw_89 ?_
      refine lv_goto (tgt := 95) hx hb dL_draw_90 (by decide) ?_
      exact L95 v4 (r11 + ((3 : Int32) * (aa (102 : Int32).toNatClampNeg))) v3 tcn hd aa _ _ _ hw hP hD hS (lv_sub hl [2] rfl)
  have L59 : ∀ (v3 : Int32) (s1 : Int32) (tcn : Int32) (hd : (Nat → Int32)) (aa : (Nat → Int32)) (H : Heap) (locs : List Loc) (ls : Array Slot), w_L_draw_b59 post mcn la se p0 v3 s1 tcn hd aa → va_P (dC, dI) vwCl [(x, .inr (1, [.ref aH, .ref aL, .ref aS, .ref aO, .ref aK, .ref aZ, .ref cv, .int tcn, .int mcn, .int swd, .int rwd, .int bpt, .int flm])), (aH, .inl (cI, 34, .inl hd)), (aL, .inl (cI, 34, .inl la)), (aS, .inl (cI, 34, .inl se)), (aA, .inl (cI, 116, .inl aa))] H → va_D A [(x, .inr (1, [.ref aH, .ref aL, .ref aS, .ref aO, .ref aK, .ref aZ, .ref cv, .int tcn, .int mcn, .int swd, .int rwd, .int bpt, .int flm])), (aH, .inl (cI, 34, .inl hd)), (aL, .inl (cI, 34, .inl la)), (aS, .inl (cI, 34, .inl se)), (aA, .inl (cI, 116, .inl aa))] → va_S A s.heap H locs → lv_has ls 5 [(1, .int p0), (2, .ref aA), (3, .int v3)] → W p l e ({ frames := 8, cells := 1, slots := 6, locals := 152 } : Room) s m ([.ref x, .int p0, .ref aA] : List Value).toArray below meth c H locs 1 6 Q9 (F0 m 59 ls [.int s1]) := by
    intro v3 s1 tcn hd aa H locs ls hw hP hD hS hl
    refine lv_istore (lv' := [(4, .int s1), (1, .int p0), (2, .ref aA), (3, .int v3)]) hx hb dL_draw_59 hl (by decide) rfl (fun ls hl => ?_)
    refine lv_iload hx hb dL_draw_61 (lv_at hl 0 rfl) ?_
    refine lv_if_eq (tgt := 73) hx hb dL_draw_63 (by decide) (fun c7 => ?_) (fun c7 => ?_)
    · have hw := hw.1 c7
      exact L73 v3 s1 tcn hd aa _ _ _ hw hP hD hS (lv_sub hl [2, 3, 0] rfl)
    · have hw := hw.2 c7
      refine lv_aload_n hx hb dL_draw_66 rfl (lv_at hl 2 rfl) ?_
      refine lv_iload_n hx hb dL_draw_67 rfl (lv_at hl 1 rfl) ?_
      refine lv_dup2_11 hx hb dL_draw_68 rfl rfl ?_
      obtain ⟨h13, hw⟩ := hw
      refine va_iald hx hb hK hP 4 0 rfl rfl h13 dL_draw_69 ?_
      refine lv_iconst (v := 1) hx hb dL_draw_70 (by decide) ?_
      refine lv_iadd hx hb dL_draw_71 ?_
      obtain ⟨h14, hw⟩ := hw
      refine va_iast hx hb hK hP hD hS 4 0 rfl rfl h14 dL_draw_72 (fun H locs hP hD hS => ?_)
      have hP : va_P (dC, dI) vwCl [(x, .inr (1, [.ref aH, .ref aL, .ref aS, .ref aO, .ref aK, .ref aZ, .ref cv, .int tcn, .int mcn, .int swd, .int rwd, .int bpt, .int flm])), (aH, .inl (cI, 34, .inl hd)), (aL, .inl (cI, 34, .inl la)), (aS, .inl (cI, 34, .inl se)), (aA, .inl (cI, 116, .inl (upd aa p0.toNatClampNeg ((aa p0.toNatClampNeg) + (1 : Int32)))))] H := hP
      have hD : va_D A [(x, .inr (1, [.ref aH, .ref aL, .ref aS, .ref aO, .ref aK, .ref aZ, .ref cv, .int tcn, .int mcn, .int swd, .int rwd, .int bpt, .int flm])), (aH, .inl (cI, 34, .inl hd)), (aL, .inl (cI, 34, .inl la)), (aS, .inl (cI, 34, .inl se)), (aA, .inl (cI, 116, .inl (upd aa p0.toNatClampNeg ((aa p0.toNatClampNeg) + (1 : Int32)))))] := hD
      exact L73 v3 s1 tcn hd (upd aa p0.toNatClampNeg ((aa p0.toNatClampNeg) + (1 : Int32))) _ _ _ hw hP hD hS (lv_sub hl [2, 3, 0] rfl)
  have L58 : ∀ (v3 : Int32) (tcn : Int32) (hd : (Nat → Int32)) (aa : (Nat → Int32)) (H : Heap) (locs : List Loc) (ls : Array Slot), w_L_draw_b58 post mcn la se p0 v3 tcn hd aa → va_P (dC, dI) vwCl [(x, .inr (1, [.ref aH, .ref aL, .ref aS, .ref aO, .ref aK, .ref aZ, .ref cv, .int tcn, .int mcn, .int swd, .int rwd, .int bpt, .int flm])), (aH, .inl (cI, 34, .inl hd)), (aL, .inl (cI, 34, .inl la)), (aS, .inl (cI, 34, .inl se)), (aA, .inl (cI, 116, .inl aa))] H → va_D A [(x, .inr (1, [.ref aH, .ref aL, .ref aS, .ref aO, .ref aK, .ref aZ, .ref cv, .int tcn, .int mcn, .int swd, .int rwd, .int bpt, .int flm])), (aH, .inl (cI, 34, .inl hd)), (aL, .inl (cI, 34, .inl la)), (aS, .inl (cI, 34, .inl se)), (aA, .inl (cI, 116, .inl aa))] → va_S A s.heap H locs → lv_has ls 5 [(1, .int p0), (2, .ref aA), (3, .int v3)] → W p l e ({ frames := 8, cells := 1, slots := 6, locals := 152 } : Room) s m ([.ref x, .int p0, .ref aA] : List Value).toArray below meth c H locs 1 6 Q9 (F0 m 58 ls []) := by
    intro v3 tcn hd aa H locs ls hw hP hD hS hl
    refine lv_iconst (v := 0) hx hb dL_draw_58 (by decide) ?_
    exact L59 v3 (0 : Int32) tcn hd aa _ _ _ hw hP hD hS (lv_sub hl [0, 1, 2] rfl)
  refine lv_bipush (v := -3) hx hb dL_draw_0 (by decide) ?_
  refine lv_istore_n (lv' := [(3, .int (-3 : Int32)), (0, .ref x), (1, .int p0), (2, .ref aA)]) hx hb dL_draw_2 rfl hl (by decide) rfl (fun ls hl => ?_)
  refine lv_aload_n hx hb dL_draw_3 rfl (lv_at hl 1 rfl) ?_
  refine lv_iload_n hx hb dL_draw_4 rfl (lv_at hl 2 rfl) ?_
  have hPc := hP.sub (ws' := [(x, .inr (1, [.ref aH, .ref aL, .ref aS, .ref aO, .ref aK, .ref aZ, .ref cv, .int tcn, .int mcn, .int swd, .int rwd, .int bpt, .int flm])), (aH, .inl (cI, 34, .inl hd)), (aL, .inl (cI, 34, .inl la)), (aS, .inl (cI, 34, .inl se))]) [0, 1, 2, 3] rfl
  have hDc := hD.sub (ws' := [(x, .inr (1, [.ref aH, .ref aL, .ref aS, .ref aO, .ref aK, .ref aZ, .ref cv, .int tcn, .int mcn, .int swd, .int rwd, .int bpt, .int flm])), (aH, .inl (cI, 34, .inl hd)), (aL, .inl (cI, 34, .inl la)), (aS, .inl (cI, 34, .inl se))]) [0, 1, 2, 3] (by decide) rfl
  have hFc := va_free (wc := [(x, .inr (1, [.ref aH, .ref aL, .ref aS, .ref aO, .ref aK, .ref aZ, .ref cv, .int tcn, .int mcn, .int swd, .int rwd, .int bpt, .int flm])), (aH, .inl (cI, 34, .inl hd)), (aL, .inl (cI, 34, .inl la)), (aS, .inl (cI, 34, .inl se))]) hD hS hA [0, 1, 2, 3] rfl
  rcases hw with hw | hw
  · refine va_calli (va_runV (As := [.int p0]) (rest := []) ⟨hx, hb, hml, hown, hts⟩ (c_X1_draw l dC dI cI cZ x aH aL aS aO aK aZ cv s.heap.size tcn mcn swd rwd bpt flm hd la se p0 _ hw) (cwV 1 hts gL_draw_X1_draw rfl rfl rfl (by decide +kernel) ⟨Nat.le_of_ble_eq_true rfl, Nat.le_of_ble_eq_true rfl⟩) ⟨fun a U g mk q => by obtain ⟨q0, q1, qP, qK, qD⟩ := q; exact ⟨q0, q1, qP, va_K.moved (u := U) (U := U.calling g mk a) (Vm.Alike.refl U.vm) qK, qD⟩, va_recv hK hPc (ci := 1) (q0 := 0) rfl rfl, fun U hU hW => ⟨rfl, by rw [hU], by rw [hU]; exact hPc, va_K.moved hW.alike hK, hDc.weaken (fun _ _ _ _ => trivial)⟩⟩ rfl rfl hl.1 rfl (lv_room (Nat.le_of_ble_eq_true rfl)) dL_draw_5 ⟨Nat.le_of_ble_eq_true rfl, Nat.le_of_ble_eq_true rfl⟩) hS (fun q _ h => hFc q h) hFc (fun r1 u t H1 locs ht hvm hw hB hz1 hk1 hS => ?_)
    obtain ⟨tcn_2, hd_3⟩ := u
    obtain ⟨hP1, -, hD1⟩ := hB
    have hw := And.intro hw trivial
    try dsimp only at hw
    have hw := hw.1
    rw [ht] at hP1
    obtain ⟨hP, hD⟩ := va_join (wr := [(aA, .inl (cI, 116, .inl aa))]) (w1 := [(x, .inr (1, [.ref aH, .ref aL, .ref aS, .ref aO, .ref aK, .ref aZ, .ref cv, .int tcn_2, .int mcn, .int swd, .int rwd, .int bpt, .int flm])), (aH, .inl (cI, 34, .inl hd_3)), (aL, .inl (cI, 34, .inl la)), (aS, .inl (cI, 34, .inl se))]) hP hD [0, 1, 2, 3] [4] rfl rfl (by decide) (by decide) hk1 hFc hP1 hD1
    generalize H1 = H at hP hS ⊢
    have hP : va_P (dC, dI) vwCl [(aA, .inl (cI, 116, .inl aa)), (x, .inr (1, [.ref aH, .ref aL, .ref aS, .ref aO, .ref aK, .ref aZ, .ref cv, .int tcn_2, .int mcn, .int swd, .int rwd, .int bpt, .int flm])), (aH, .inl (cI, 34, .inl hd_3)), (aL, .inl (cI, 34, .inl la)), (aS, .inl (cI, 34, .inl se))] H := hP
    have hD : va_D A [(aA, .inl (cI, 116, .inl aa)), (x, .inr (1, [.ref aH, .ref aL, .ref aS, .ref aO, .ref aK, .ref aZ, .ref cv, .int tcn_2, .int mcn, .int swd, .int rwd, .int bpt, .int flm])), (aH, .inl (cI, 34, .inl hd_3)), (aL, .inl (cI, 34, .inl la)), (aS, .inl (cI, 34, .inl se))] := hD
    refine lv_istore_n (lv' := [(3, .int r1), (0, .ref x), (1, .int p0), (2, .ref aA)]) hx hb dL_draw_8 rfl hl (by decide) rfl (fun ls hl => ?_)
    refine lv_goto (tgt := 17) hx hb dL_draw_9 (by decide) ?_
    refine lv_aload_n hx hb dL_draw_17 rfl (lv_at hl 3 rfl) ?_
    have hPc := hP.sub (ws' := [(aA, .inl (cI, 116, .inl aa))]) [0] rfl
    have hDc := hD.sub (ws' := [(aA, .inl (cI, 116, .inl aa))]) [0] (by decide) rfl
    have hFc := va_free (wc := [(aA, .inl (cI, 116, .inl aa))]) hD hS hA [0] rfl
    refine va_calli (va_runS (As := [.ref aA]) (rest := []) ⟨hx, hb, hml, hown, hts⟩ (c_L_tiles l dC dI cI cZ aA H.size aa _ hw) (va_cwS 1 hts gL_draw_L_tiles rfl rfl rfl (by decide +kernel) ⟨Nat.le_of_ble_eq_true rfl, Nat.le_of_ble_eq_true rfl⟩) ⟨fun a U g mk q => by obtain ⟨q0, q1, qP, qK, qD⟩ := q; exact ⟨q0, q1, qP, va_K.moved (u := U) (U := U.calling g mk a) (Vm.Alike.refl U.vm) qK, qD⟩, fun U hU hW => ⟨rfl, by rw [hU], by rw [hU]; exact hPc, va_K.moved hW.alike hK, hDc.weaken (fun _ _ _ _ => trivial)⟩⟩ rfl rfl hl.1 rfl (lv_room (Nat.le_of_ble_eq_true rfl)) dL_draw_18 ⟨Nat.le_of_ble_eq_true rfl, Nat.le_of_ble_eq_true rfl⟩) hS (fun q _ h => hFc q h) hFc (fun r4 u t H1 locs ht hvm hw hB hz1 hk1 hS => ?_)
    obtain ⟨hP1, -, hD1⟩ := hB
    have hw := And.intro hw trivial
    try dsimp only at hw
    have hw := hw.1
    rw [ht] at hP1
    obtain ⟨hP, hD⟩ := va_join (wr := [(x, .inr (1, [.ref aH, .ref aL, .ref aS, .ref aO, .ref aK, .ref aZ, .ref cv, .int tcn_2, .int mcn, .int swd, .int rwd, .int bpt, .int flm])), (aH, .inl (cI, 34, .inl hd_3)), (aL, .inl (cI, 34, .inl la)), (aS, .inl (cI, 34, .inl se))]) (w1 := [(aA, .inl (cI, 116, .inl aa))]) hP hD [0] [1, 2, 3, 4] rfl rfl (by decide) (by decide) hk1 hFc hP1 hD1
    generalize H1 = H at hP hS ⊢
    have hP : va_P (dC, dI) vwCl [(x, .inr (1, [.ref aH, .ref aL, .ref aS, .ref aO, .ref aK, .ref aZ, .ref cv, .int tcn_2, .int mcn, .int swd, .int rwd, .int bpt, .int flm])), (aH, .inl (cI, 34, .inl hd_3)), (aL, .inl (cI, 34, .inl la)), (aS, .inl (cI, 34, .inl se)), (aA, .inl (cI, 116, .inl aa))] H := hP
    have hD : va_D A [(x, .inr (1, [.ref aH, .ref aL, .ref aS, .ref aO, .ref aK, .ref aZ, .ref cv, .int tcn_2, .int mcn, .int swd, .int rwd, .int bpt, .int flm])), (aH, .inl (cI, 34, .inl hd_3)), (aL, .inl (cI, 34, .inl la)), (aS, .inl (cI, 34, .inl se)), (aA, .inl (cI, 116, .inl aa))] := hD
    refine lv_iconst (v := 3) hx hb dL_draw_21 (by decide) ?_
    refine lv_aload_n hx hb dL_draw_22 rfl (lv_at hl 3 rfl) ?_
    refine lv_bipush (v := 102) hx hb dL_draw_23 (by decide) ?_
    obtain ⟨h5, hw⟩ := hw
    refine va_iald hx hb hK hP 4 0 rfl rfl h5 dL_draw_25 ?_
    refine lv_imul hx hb dL_draw_26 ?_
    refine lv_iadd hx hb dL_draw_27 ?_
    refine lv_bipush (v := 14) hx hb dL_draw_28 (by decide) ?_
    refine lv_icmp_ge (tgt := 58) hx hb dL_draw_30 (by decide) (fun c6 => ?_) (fun c6 => ?_)
    · have hw := hw.1 c6
      refine W.widen (k := 1) (n := 6) (by omega) (by omega) ?_
      exact L58 r1 tcn_2 hd_3 aa _ _ _ hw hP hD hS (lv_sub hl [2, 3, 0] rfl)
    · have hw := hw.2 c6
      refine lv_aload_n hx hb dL_draw_33 rfl (lv_at hl 3 rfl) ?_
      refine lv_iload_n hx hb dL_draw_34 rfl (lv_at hl 2 rfl) ?_
      obtain ⟨h15, hw⟩ := hw
      refine va_iald hx hb hK hP 4 0 rfl rfl h15 dL_draw_35 ?_
      refine lv_aload_n hx hb dL_draw_36 rfl (lv_at hl 3 rfl) ?_
      refine lv_bipush (v := 34) hx hb dL_draw_37 (by decide) ?_
      refine lv_iload_n hx hb dL_draw_39 rfl (lv_at hl 2 rfl) ?_
      refine lv_iadd hx hb dL_draw_40 ?_
      obtain ⟨h16, hw⟩ := hw
      refine va_iald hx hb hK hP 4 0 rfl rfl h16 dL_draw_41 ?_
      refine lv_iadd hx hb dL_draw_42 ?_
      refine lv_aload_n hx hb dL_draw_43 rfl (lv_at hl 3 rfl) ?_
      refine lv_bipush (v := 68) hx hb dL_draw_44 (by decide) ?_
      refine lv_iload_n hx hb dL_draw_46 rfl (lv_at hl 2 rfl) ?_
      refine lv_iadd hx hb dL_draw_47 ?_
      obtain ⟨h17, hw⟩ := hw
      refine va_iald hx hb hK hP 4 0 rfl rfl h17 dL_draw_48 ?_
      refine lv_iadd hx hb dL_draw_49 ?_
      refine lv_iconst (v := 4) hx hb dL_draw_50 (by decide) ?_
      refine lv_icmp_ge (tgt := 58) hx hb dL_draw_51 (by decide) (fun c18 => ?_) (fun c18 => ?_)
      · have hw := hw.1 c18
        refine W.widen (k := 1) (n := 6) (by omega) (by omega) ?_
        exact L58 r1 tcn_2 hd_3 aa _ _ _ hw hP hD hS (lv_sub hl [2, 3, 0] rfl)
      · have hw := hw.2 c18
        refine lv_iconst (v := 1) hx hb dL_draw_54 (by decide) ?_
        refine lv_goto (tgt := 59) hx hb dL_draw_55 (by decide) ?_
        refine W.widen (k := 1) (n := 6) (by omega) (by omega) ?_
        exact L59 r1 (1 : Int32) tcn_2 hd_3 aa _ _ _ hw hP hD hS (lv_sub hl [2, 3, 0] rfl)
  · refine vx_calli (vx_runV (As := [.int p0]) (rest := []) ⟨hx, hb, hml, hown, hts⟩ (c_X1_draw_x l hl9 dC dI cI cZ x aH aL aS aO aK aZ cv s.heap.size tcn mcn swd rwd bpt flm hd la se p0 _ hw) (cwV 1 hts gL_draw_X1_draw rfl rfl rfl (by decide +kernel) ⟨Nat.le_of_ble_eq_true rfl, Nat.le_of_ble_eq_true rfl⟩) ⟨fun a U g mk q => by obtain ⟨q0, q1, qP, qK, qD, qX⟩ := q; exact ⟨q0, q1, qP, va_K.moved (u := U) (U := U.calling g mk a) (Vm.Alike.refl U.vm) qK, qD, xk_same rfl rfl qX⟩, va_recv hK hPc (ci := 1) (q0 := 0) rfl rfl, fun U hU hW => ⟨rfl, by rw [hU], by rw [hU]; exact hPc, va_K.moved hW.alike hK, hDc.weaken (fun _ _ _ _ => trivial), xk_call hS hU hW (fun q h => hFc q h) hxk⟩⟩ rfl rfl hl.1 rfl (lv_room (Nat.le_of_ble_eq_true rfl)) dL_draw_5 ⟨Nat.le_of_ble_eq_true rfl, Nat.le_of_ble_eq_true rfl⟩) hS (fun q _ h => hFc q h) hFc (fun q _ h => hFc q h) (fun E ce qe9 u t H1 locs ht hvm hw hB hz1 hk1 hS hce hcv hcl => ?_) (fun r1 u t H1 locs ht hvm hw hB hz1 hk1 hS => False.elim hw)
    obtain ⟨E19, tcn_2, hd_3⟩ := u
    obtain ⟨hE9, hP1, -, hD1⟩ := hB
    try dsimp only at hw
    rw [ht] at hP1
    obtain ⟨hP, hD⟩ := va_join (wr := [(aA, .inl (cI, 116, .inl aa))]) (w1 := [(x, .inr (1, [.ref aH, .ref aL, .ref aS, .ref aO, .ref aK, .ref aZ, .ref cv, .int tcn_2, .int mcn, .int swd, .int rwd, .int bpt, .int flm])), (aH, .inl (cI, 34, .inl hd_3)), (aL, .inl (cI, 34, .inl la)), (aS, .inl (cI, 34, .inl se))]) hP hD [0, 1, 2, 3] [4] rfl rfl (by decide) (by decide) hk1 hFc hP1 hD1
    generalize H1 = H at hP hS hce ⊢
    have hP : va_P (dC, dI) vwCl [(aA, .inl (cI, 116, .inl aa)), (x, .inr (1, [.ref aH, .ref aL, .ref aS, .ref aO, .ref aK, .ref aZ, .ref cv, .int tcn_2, .int mcn, .int swd, .int rwd, .int bpt, .int flm])), (aH, .inl (cI, 34, .inl hd_3)), (aL, .inl (cI, 34, .inl la)), (aS, .inl (cI, 34, .inl se))] H := hP
    have hD : va_D A [(aA, .inl (cI, 116, .inl aa)), (x, .inr (1, [.ref aH, .ref aL, .ref aS, .ref aO, .ref aK, .ref aZ, .ref cv, .int tcn_2, .int mcn, .int swd, .int rwd, .int bpt, .int flm])), (aH, .inl (cI, 34, .inl hd_3)), (aL, .inl (cI, 34, .inl la)), (aS, .inl (cI, 34, .inl se))] := hD
    obtain ⟨hq, hw⟩ := hw
    · have hE := hE9.trans hq
      try dsimp only at hE
      subst hE
      refine vx_catch (own := RL) (name := "java/lang/IllegalStateException") (E := "java/lang/IllegalStateException") hown [] ⟨3, 9, 12, 33⟩ [] (by rw [hTab]; rfl) (fun z hz => nomatch hz) (by decide) (by decide) (hts (.classLink RL 33 "java/lang/IllegalStateException") (by decide +kernel)) (va_Nw.use rfl (xk_c2 hxk)) hce hcv hcl ?_
      refine lv_astore (lv' := [(4, .ref qe9), (3, .int (-3 : Int32)), (0, .ref x), (1, .int p0), (2, .ref aA)]) hx hb dL_draw_12 hl (by decide) rfl (fun ls hl => ?_)
      refine lv_bipush (v := -3) hx hb dL_draw_14 (by decide) ?_
      refine lv_istore_n (lv' := [(3, .int (-3 : Int32)), (4, .ref qe9), (0, .ref x), (1, .int p0), (2, .ref aA)]) hx hb dL_draw_16 rfl hl (by decide) rfl (fun ls hl => ?_)
      refine lv_aload_n hx hb dL_draw_17 rfl (lv_at hl 4 rfl) ?_
      have hPc := hP.sub (ws' := [(aA, .inl (cI, 116, .inl aa))]) [0] rfl
      have hDc := hD.sub (ws' := [(aA, .inl (cI, 116, .inl aa))]) [0] (by decide) rfl
      have hFc := va_free (wc := [(aA, .inl (cI, 116, .inl aa))]) hD hS hA [0] rfl
      refine va_calli (va_runS (As := [.ref aA]) (rest := []) ⟨hx, hb, hml, hown, hts⟩ (c_L_tiles l dC dI cI cZ aA H.size aa _ hw) (va_cwS 1 hts gL_draw_L_tiles rfl rfl rfl (by decide +kernel) ⟨Nat.le_of_ble_eq_true rfl, Nat.le_of_ble_eq_true rfl⟩) ⟨fun a U g mk q => by obtain ⟨q0, q1, qP, qK, qD⟩ := q; exact ⟨q0, q1, qP, va_K.moved (u := U) (U := U.calling g mk a) (Vm.Alike.refl U.vm) qK, qD⟩, fun U hU hW => ⟨rfl, by rw [hU], by rw [hU]; exact hPc, va_K.moved hW.alike hK, hDc.weaken (fun _ _ _ _ => trivial)⟩⟩ rfl rfl hl.1 rfl (lv_room (Nat.le_of_ble_eq_true rfl)) dL_draw_18 ⟨Nat.le_of_ble_eq_true rfl, Nat.le_of_ble_eq_true rfl⟩) hS (fun q _ h => hFc q h) hFc (fun r20 u t H1 locs ht hvm hw hB hz1 hk1 hS => ?_)
      obtain ⟨hP1, -, hD1⟩ := hB
      have hw := And.intro hw trivial
      try dsimp only at hw
      have hw := hw.1
      rw [ht] at hP1
      obtain ⟨hP, hD⟩ := va_join (wr := [(x, .inr (1, [.ref aH, .ref aL, .ref aS, .ref aO, .ref aK, .ref aZ, .ref cv, .int tcn_2, .int mcn, .int swd, .int rwd, .int bpt, .int flm])), (aH, .inl (cI, 34, .inl hd_3)), (aL, .inl (cI, 34, .inl la)), (aS, .inl (cI, 34, .inl se))]) (w1 := [(aA, .inl (cI, 116, .inl aa))]) hP hD [0] [1, 2, 3, 4] rfl rfl (by decide) (by decide) hk1 hFc hP1 hD1
      generalize H1 = H at hP hS ⊢
      have hP : va_P (dC, dI) vwCl [(x, .inr (1, [.ref aH, .ref aL, .ref aS, .ref aO, .ref aK, .ref aZ, .ref cv, .int tcn_2, .int mcn, .int swd, .int rwd, .int bpt, .int flm])), (aH, .inl (cI, 34, .inl hd_3)), (aL, .inl (cI, 34, .inl la)), (aS, .inl (cI, 34, .inl se)), (aA, .inl (cI, 116, .inl aa))] H := hP
      have hD : va_D A [(x, .inr (1, [.ref aH, .ref aL, .ref aS, .ref aO, .ref aK, .ref aZ, .ref cv, .int tcn_2, .int mcn, .int swd, .int rwd, .int bpt, .int flm])), (aH, .inl (cI, 34, .inl hd_3)), (aL, .inl (cI, 34, .inl la)), (aS, .inl (cI, 34, .inl se)), (aA, .inl (cI, 116, .inl aa))] := hD
      refine lv_iconst (v := 3) hx hb dL_draw_21 (by decide) ?_
      refine lv_aload_n hx hb dL_draw_22 rfl (lv_at hl 4 rfl) ?_
      refine lv_bipush (v := 102) hx hb dL_draw_23 (by decide) ?_
      obtain ⟨h21, hw⟩ := hw
      refine va_iald hx hb hK hP 4 0 rfl rfl h21 dL_draw_25 ?_
      refine lv_imul hx hb dL_draw_26 ?_
      refine lv_iadd hx hb dL_draw_27 ?_
      refine lv_bipush (v := 14) hx hb dL_draw_28 (by decide) ?_
      refine lv_icmp_ge (tgt := 58) hx hb dL_draw_30 (by decide) (fun c22 => ?_) (fun c22 => ?_)
      · have hw := hw.1 c22
        exact L58 (-3 : Int32) tcn_2 hd_3 aa _ _ _ hw hP hD hS (lv_sub hl [3, 4, 0] rfl)
      · have hw := hw.2 c22
        refine lv_aload_n hx hb dL_draw_33 rfl (lv_at hl 4 rfl) ?_
        refine lv_iload_n hx hb dL_draw_34 rfl (lv_at hl 3 rfl) ?_
        obtain ⟨h23, hw⟩ := hw
        refine va_iald hx hb hK hP 4 0 rfl rfl h23 dL_draw_35 ?_
        refine lv_aload_n hx hb dL_draw_36 rfl (lv_at hl 4 rfl) ?_
        refine lv_bipush (v := 34) hx hb dL_draw_37 (by decide) ?_
        refine lv_iload_n hx hb dL_draw_39 rfl (lv_at hl 3 rfl) ?_
        refine lv_iadd hx hb dL_draw_40 ?_
        obtain ⟨h24, hw⟩ := hw
        refine va_iald hx hb hK hP 4 0 rfl rfl h24 dL_draw_41 ?_
        refine lv_iadd hx hb dL_draw_42 ?_
        refine lv_aload_n hx hb dL_draw_43 rfl (lv_at hl 4 rfl) ?_
        refine lv_bipush (v := 68) hx hb dL_draw_44 (by decide) ?_
        refine lv_iload_n hx hb dL_draw_46 rfl (lv_at hl 3 rfl) ?_
        refine lv_iadd hx hb dL_draw_47 ?_
        obtain ⟨h25, hw⟩ := hw
        refine va_iald hx hb hK hP 4 0 rfl rfl h25 dL_draw_48 ?_
        refine lv_iadd hx hb dL_draw_49 ?_
        refine lv_iconst (v := 4) hx hb dL_draw_50 (by decide) ?_
        refine lv_icmp_ge (tgt := 58) hx hb dL_draw_51 (by decide) (fun c26 => ?_) (fun c26 => ?_)
        · have hw := hw.1 c26
          exact L58 (-3 : Int32) tcn_2 hd_3 aa _ _ _ hw hP hD hS (lv_sub hl [3, 4, 0] rfl)
        · have hw := hw.2 c26
          refine lv_iconst (v := 1) hx hb dL_draw_54 (by decide) ?_
          refine lv_goto (tgt := 59) hx hb dL_draw_55 (by decide) ?_
          exact L59 (-3 : Int32) (1 : Int32) tcn_2 hd_3 aa _ _ _ hw hP hD hS (lv_sub hl [3, 4, 0] rfl)
