def w_X2_missingPairs_b63 (post : Int32 → Prop) (hM : (Nat → Int32)) (v1 : Int32) (v2 : Int32) : Prop := ∀ t2 : Int32, t2 = (if v1 < (7 : Int32) then v1 else (7 : Int32)) → (∀ t3 : Int32, t3 = (if v2 < ((7 : Int32) - t2) then v2 else ((7 : Int32) - t2)) → (post (((2 : Int32) * ((7 : Int32) - t2)) - t3)))

def w_X2_missingPairs_b55 (post : Int32 → Prop) (hM : (Nat → Int32)) (K16 : Int32 → Int32 → Int32 → Int32 → Prop) (v1 : Int32) (v4 : Int32) (v5 : Int32) (s2 : Int32) (s1 : Int32) : Prop := K16 v1 (s1 + s2) v4 (v5 + 1)

def w_X2_missingPairs_b41 (post : Int32 → Prop) (hM : (Nat → Int32)) (K16 : Int32 → Int32 → Int32 → Int32 → Prop) (v2 : Int32) (v4 : Int32) (v5 : Int32) (v6 : Int32) (s2 : Int32) (s1 : Int32) : Prop := ((v6 = (1 : Int32) → (w_X2_missingPairs_b55 post hM K16 (s1 + s2) v4 v5 (1 : Int32) v2)) ∧ (¬ v6 = (1 : Int32) → (w_X2_missingPairs_b55 post hM K16 (s1 + s2) v4 v5 (0 : Int32) v2)))

def w_X2_missingPairs_b16 (post : Int32 → Prop) (hM : (Nat → Int32)) : Nat → Int32 → Int32 → Int32 → Int32 → Prop
  | 0, _, _, _, _ => False
  | n + 1, v1, v2, v4, v5 => ((v4 ≤ v5 → (w_X2_missingPairs_b63 post hM v1 v2)) ∧ (¬ v4 ≤ v5 → (vp_in v5 34 ∧ ((((hM v5.toNatClampNeg) ≤ (1 : Int32) → (w_X2_missingPairs_b41 post hM (w_X2_missingPairs_b16 post hM n) v2 v4 v5 (hM v5.toNatClampNeg) (0 : Int32) v1)) ∧ (¬ (hM v5.toNatClampNeg) ≤ (1 : Int32) → (w_X2_missingPairs_b41 post hM (w_X2_missingPairs_b16 post hM n) v2 v4 v5 (hM v5.toNatClampNeg) (1 : Int32) v1)))))))

def w_X2_missingPairs (hM : (Nat → Int32)) (post : Int32 → Prop) : Prop := ∃ n9, w_X2_missingPairs_b16 post hM n9 (0 : Int32) (0 : Int32) (34 : Int32) (0 : Int32)

set_option maxHeartbeats 4000000 in
set_option maxRecDepth 100000 in
theorem c_X2_missingPairs (l : Launch) (dC : Nat → ClassId) (dI : Nat → Nat → Nat) (cI cZ : ClassId) (y : Nat) (bH : Nat) (bS : Nat) (bL : Nat) (bO : Nat) (bK : Nat) (bZ : Nat) (bR : Nat) (bG : Nat) (bB : Nat) (bX : Nat) (sz : Nat) (thr : Int32) (mel : Int32) (sea : Int32) (rnd : Int32) (bas : Int32) (lim : Int32) (hM : (Nat → Int32)) (post : Int32 → Prop) (hw : w_X2_missingPairs hM post) : Met l yX2_missingPairs wsX2_missingPairs ({ frames := 2, cells := 0, slots := 0, locals := 40 } : Room) (va_Pc [.ref y] (fun U => U.heap.size = sz ∧ va_P (dC, dI) vwCl [(y, .inr (2, [.int thr, .ref bH, .ref bS, .ref bL, .int mel, .ref bO, .ref bK, .ref bZ, .int sea, .int rnd, .int bas, .int lim, .ref bR, .ref bG, .ref bB, .ref bX])), (bH, .inl (cI, 34, .inl hM))] U.heap ∧ va_K (dC, dI) vwCl [(cI, .int), (cZ, .boolean)] U ∧ va_D (fun _ => True) [(y, .inr (2, [.int thr, .ref bH, .ref bS, .ref bL, .int mel, .ref bO, .ref bK, .ref bZ, .int sea, .int rnd, .int bas, .int lim, .ref bR, .ref bG, .ref bB, .ref bX])), (bH, .inl (cI, 34, .inl hM))])) (va_Qi (fun (r9 : Int32) (u9 : Unit) => post r9) (fun (u9 : Unit) (t9 : State) => va_P (dC, dI) vwCl [(y, .inr (2, [.int thr, .ref bH, .ref bS, .ref bL, .int mel, .ref bO, .ref bK, .ref bZ, .int sea, .int rnd, .int bas, .int lim, .ref bR, .ref bG, .ref bB, .ref bX])), (bH, .inl (cI, 34, .inl hM))] t9.heap ∧ va_K (dC, dI) vwCl [(cI, .int), (cZ, .boolean)] t9 ∧ va_D (va_A [(y, .inr (2, [.int thr, .ref bH, .ref bS, .ref bL, .int mel, .ref bO, .ref bK, .ref bZ, .int sea, .int rnd, .int bas, .int lim, .ref bR, .ref bG, .ref bB, .ref bX])), (bH, .inl (cI, 34, .inl hM))] sz) [(y, .inr (2, [.int thr, .ref bH, .ref bS, .ref bL, .int mel, .ref bO, .ref bK, .ref bZ, .int sea, .int rnd, .int bas, .int lim, .ref bR, .ref bG, .ref bB, .ref bX])), (bH, .inl (cI, 34, .inl hM))]) (va_A [(y, .inr (2, [.int thr, .ref bH, .ref bS, .ref bL, .int mel, .ref bO, .ref bK, .ref bZ, .int sea, .int rnd, .int bas, .int lim, .ref bR, .ref bG, .ref bB, .ref bX])), (bH, .inl (cI, 34, .inl hM))] sz)) 0 0 (va_A [(y, .inr (2, [.int thr, .ref bH, .ref bS, .ref bL, .int mel, .ref bO, .ref bK, .ref bZ, .int sea, .int rnd, .int bas, .int lim, .ref bR, .ref bG, .ref bB, .ref bX])), (bH, .inl (cI, 34, .inl hM))] sz) := by
  refine Met.ofW (cc := cX2_missingPairs) (maxL := 7) (ret := (some .int)) (by decide) rfl ?_
  intro p e s m args below meth c s₁ B hml hv
  obtain ⟨rfl, hsz, hP, hK, hD0⟩ := hv
  have hx := B.exec
  have hb := B.bytes
  have hr := B.returns
  have hts := atoms_spec (ws := wsX2_missingPairs) B.pre
  have hown : s.vm.findClass RX2 = some m.cls := findClass_of_methodNamed B.named
  have hlocks := B.notSynchronized
  have hinX2 : ∀ w ∈ u_ws RX2 TX2 16, w ∈ wsX2_missingPairs := by decide +kernel
  subst hsz
  have hD := hD0.self (sz := s.heap.size)
  generalize hAe : va_A [(y, .inr (2, [.int thr, .ref bH, .ref bS, .ref bL, .int mel, .ref bO, .ref bK, .ref bZ, .int sea, .int rnd, .int bas, .int lim, .ref bR, .ref bG, .ref bB, .ref bX])), (bH, .inl (cI, 34, .inl hM))] s.heap.size = A at hD ⊢
  have hA : ∀ q : Nat, s.heap.size ≤ q → A q := fun q h => by rw [← hAe]; exact Or.inr h
  have hS : va_S A s.heap s.heap [] := va_S.rf
  have hl := lv_entry ([.ref y]) (n := 7) (Nat.le_of_ble_eq_true rfl)
  rw [lg_entry_eq]
  generalize (lg_sl ([.ref y]) ++ List.replicate (7 - (lg_sl ([.ref y])).length) Slot.unset).toArray = ls at hl ⊢
  have hl : lv_has ls 7 [(0, .ref y)] := hl
  refine (?_ : ∀ Q9 : State → Prop, MQ below _ _ s _ _ _ = Q9 → W p l e ({ frames := 2, cells := 0, slots := 0, locals := 40 } : Room) s m _ below meth c s.heap [] 0 0 Q9 (F0 m 0 ls [])) _ rfl
  intro Q9 hQ9
  have hw : ∃ n9, w_X2_missingPairs_b16 post hM n9 (0 : Int32) (0 : Int32) (34 : Int32) (0 : Int32) := hw
  have L63 : ∀ (v1 : Int32) (v2 : Int32) (H : Heap) (locs : List Loc) (ls : Array Slot), w_X2_missingPairs_b63 post hM v1 v2 → va_P (dC, dI) vwCl [(y, .inr (2, [.int thr, .ref bH, .ref bS, .ref bL, .int mel, .ref bO, .ref bK, .ref bZ, .int sea, .int rnd, .int bas, .int lim, .ref bR, .ref bG, .ref bB, .ref bX])), (bH, .inl (cI, 34, .inl hM))] H → va_D A [(y, .inr (2, [.int thr, .ref bH, .ref bS, .ref bL, .int mel, .ref bO, .ref bK, .ref bZ, .int sea, .int rnd, .int bas, .int lim, .ref bR, .ref bG, .ref bB, .ref bX])), (bH, .inl (cI, 34, .inl hM))] → va_S A s.heap H locs → lv_has ls 7 [(0, .ref y), (1, .int v1), (2, .int v2)] → W p l e ({ frames := 2, cells := 0, slots := 0, locals := 40 } : Room) s m ([.ref y] : List Value).toArray below meth c H locs 0 0 Q9 (F0 m 63 ls []) := by
    intro v1 v2 H locs ls hw hP hD hS hl
    refine lv_bipush (v := 7) hx hb dX2_missingPairs_63 (by decide) ?_
    refine lv_iload_n hx hb dX2_missingPairs_65 rfl (lv_at hl 1 rfl) ?_
    refine va_mmin hx hb (hml.trans hl.1.symm) hown (hts (.methodLink RX2 139 Lib.Math.min.name) (by decide +kernel)) (hts (.static Lib.Math.min.name) (by decide +kernel)) (hts (.initialized "java/lang/Math") (by decide +kernel)) (hts (.code Lib.Math.min.name Lib.Math.min.code 2 (some .int)) (by decide +kernel)) (Nat.le_of_ble_eq_true rfl) (Nat.le_of_ble_eq_true rfl) (Nat.le_of_ble_eq_true rfl) (Nat.le_of_ble_eq_true rfl) dX2_missingPairs_66 ?_
    refine lv_topi (fun t2 et2 => ?_)
    have hw := hw t2 et2
    refine lv_istore_n (lv' := [(3, .int t2), (0, .ref y), (1, .int v1), (2, .int v2)]) hx hb dX2_missingPairs_69 rfl hl (by decide) rfl (fun ls hl => ?_)
    refine lv_bipush (v := 7) hx hb dX2_missingPairs_70 (by decide) ?_
    refine lv_iload_n hx hb dX2_missingPairs_72 rfl (lv_at hl 0 rfl) ?_
    refine lv_isub hx hb dX2_missingPairs_73 ?_
    refine lv_iload_n hx hb dX2_missingPairs_74 rfl (lv_at hl 3 rfl) ?_
    refine va_mmin hx hb (hml.trans hl.1.symm) hown (hts (.methodLink RX2 139 Lib.Math.min.name) (by decide +kernel)) (hts (.static Lib.Math.min.name) (by decide +kernel)) (hts (.initialized "java/lang/Math") (by decide +kernel)) (hts (.code Lib.Math.min.name Lib.Math.min.code 2 (some .int)) (by decide +kernel)) (Nat.le_of_ble_eq_true rfl) (Nat.le_of_ble_eq_true rfl) (Nat.le_of_ble_eq_true rfl) (Nat.le_of_ble_eq_true rfl) dX2_missingPairs_75 ?_
    refine lv_topi (fun t3 et3 => ?_)
    have hw := hw t3 et3
    refine lv_istore (lv' := [(4, .int t3), (3, .int t2), (0, .ref y), (1, .int v1), (2, .int v2)]) hx hb dX2_missingPairs_78 hl (by decide) rfl (fun ls hl => ?_)
    refine lv_iconst (v := 2) hx hb dX2_missingPairs_80 (by decide) ?_
    refine lv_bipush (v := 7) hx hb dX2_missingPairs_81 (by decide) ?_
    refine lv_iload_n hx hb dX2_missingPairs_83 rfl (lv_at hl 1 rfl) ?_
    refine lv_isub hx hb dX2_missingPairs_84 ?_
    refine lv_imul hx hb dX2_missingPairs_85 ?_
    refine lv_iload hx hb dX2_missingPairs_86 (lv_at hl 0 rfl) ?_
    refine lv_isub hx hb dX2_missingPairs_88 ?_
    rw [← hQ9]
    exact W.iret (v := ((2 : Int32) * ((7 : Int32) - t2)) - t3) hx hb hr (fun t ht hW => ⟨⟨((2 : Int32) * ((7 : Int32) - t2)) - t3, (), rfl, hw, by rw [ht]; exact hP, va_K.moved hW.alike hK, hD⟩, hS.F ht⟩) hS.2.2 dX2_missingPairs_89
  have L55 : ∀ (K16 : Int32 → Int32 → Int32 → Int32 → Prop) (hK16 : ∀ (v1 : Int32) (v2 : Int32) (v4 : Int32) (v5 : Int32) (H : Heap) (locs : List Loc) (ls : Array Slot), K16 v1 v2 v4 v5 → va_P (dC, dI) vwCl [(y, .inr (2, [.int thr, .ref bH, .ref bS, .ref bL, .int mel, .ref bO, .ref bK, .ref bZ, .int sea, .int rnd, .int bas, .int lim, .ref bR, .ref bG, .ref bB, .ref bX])), (bH, .inl (cI, 34, .inl hM))] H → va_D A [(y, .inr (2, [.int thr, .ref bH, .ref bS, .ref bL, .int mel, .ref bO, .ref bK, .ref bZ, .int sea, .int rnd, .int bas, .int lim, .ref bR, .ref bG, .ref bB, .ref bX])), (bH, .inl (cI, 34, .inl hM))] → va_S A s.heap H locs → lv_has ls 7 [(0, .ref y), (1, .int v1), (2, .int v2), (3, .ref bH), (4, .int v4), (5, .int v5)] → W p l e ({ frames := 2, cells := 0, slots := 0, locals := 40 } : Room) s m ([.ref y] : List Value).toArray below meth c H locs 0 0 Q9 (F0 m 16 ls [])), ∀ (v1 : Int32) (v4 : Int32) (v5 : Int32) (s2 : Int32) (s1 : Int32) (H : Heap) (locs : List Loc) (ls : Array Slot), w_X2_missingPairs_b55 post hM K16 v1 v4 v5 s2 s1 → va_P (dC, dI) vwCl [(y, .inr (2, [.int thr, .ref bH, .ref bS, .ref bL, .int mel, .ref bO, .ref bK, .ref bZ, .int sea, .int rnd, .int bas, .int lim, .ref bR, .ref bG, .ref bB, .ref bX])), (bH, .inl (cI, 34, .inl hM))] H → va_D A [(y, .inr (2, [.int thr, .ref bH, .ref bS, .ref bL, .int mel, .ref bO, .ref bK, .ref bZ, .int sea, .int rnd, .int bas, .int lim, .ref bR, .ref bG, .ref bB, .ref bX])), (bH, .inl (cI, 34, .inl hM))] → va_S A s.heap H locs → lv_has ls 7 [(0, .ref y), (1, .int v1), (3, .ref bH), (4, .int v4), (5, .int v5)] → W p l e ({ frames := 2, cells := 0, slots := 0, locals := 40 } : Room) s m ([.ref y] : List Value).toArray below meth c H locs 0 0 Q9 (F0 m 55 ls [.int s2, .int s1]) := by
    intro K16 hK16 v1 v4 v5 s2 s1 H locs ls hw hP hD hS hl
    refine lv_iadd hx hb dX2_missingPairs_55 ?_
    refine lv_istore_n (lv' := [(2, .int (s1 + s2)), (0, .ref y), (1, .int v1), (3, .ref bH), (4, .int v4), (5, .int v5)]) hx hb dX2_missingPairs_56 rfl hl (by decide) rfl (fun ls hl => ?_)
    refine lv_iinc (v := v5 + 1) (lv' := [(5, .int (v5 + 1)), (2, .int (s1 + s2)), (0, .ref y), (1, .int v1), (3, .ref bH), (4, .int v4)]) hx hb dX2_missingPairs_57 hl (k := 5) rfl rfl (by decide) rfl (fun ls hl => ?_)
    refine lv_goto (tgt := 16) hx hb dX2_missingPairs_60 (by decide) ?_
    exact hK16 v1 (s1 + s2) v4 (v5 + 1) _ _ _ hw hP hD hS (lv_sub hl [2, 3, 1, 4, 5, 0] rfl)
  have L41 : ∀ (K16 : Int32 → Int32 → Int32 → Int32 → Prop) (hK16 : ∀ (v1 : Int32) (v2 : Int32) (v4 : Int32) (v5 : Int32) (H : Heap) (locs : List Loc) (ls : Array Slot), K16 v1 v2 v4 v5 → va_P (dC, dI) vwCl [(y, .inr (2, [.int thr, .ref bH, .ref bS, .ref bL, .int mel, .ref bO, .ref bK, .ref bZ, .int sea, .int rnd, .int bas, .int lim, .ref bR, .ref bG, .ref bB, .ref bX])), (bH, .inl (cI, 34, .inl hM))] H → va_D A [(y, .inr (2, [.int thr, .ref bH, .ref bS, .ref bL, .int mel, .ref bO, .ref bK, .ref bZ, .int sea, .int rnd, .int bas, .int lim, .ref bR, .ref bG, .ref bB, .ref bX])), (bH, .inl (cI, 34, .inl hM))] → va_S A s.heap H locs → lv_has ls 7 [(0, .ref y), (1, .int v1), (2, .int v2), (3, .ref bH), (4, .int v4), (5, .int v5)] → W p l e ({ frames := 2, cells := 0, slots := 0, locals := 40 } : Room) s m ([.ref y] : List Value).toArray below meth c H locs 0 0 Q9 (F0 m 16 ls [])), ∀ (v2 : Int32) (v4 : Int32) (v5 : Int32) (v6 : Int32) (s2 : Int32) (s1 : Int32) (H : Heap) (locs : List Loc) (ls : Array Slot), w_X2_missingPairs_b41 post hM K16 v2 v4 v5 v6 s2 s1 → va_P (dC, dI) vwCl [(y, .inr (2, [.int thr, .ref bH, .ref bS, .ref bL, .int mel, .ref bO, .ref bK, .ref bZ, .int sea, .int rnd, .int bas, .int lim, .ref bR, .ref bG, .ref bB, .ref bX])), (bH, .inl (cI, 34, .inl hM))] H → va_D A [(y, .inr (2, [.int thr, .ref bH, .ref bS, .ref bL, .int mel, .ref bO, .ref bK, .ref bZ, .int sea, .int rnd, .int bas, .int lim, .ref bR, .ref bG, .ref bB, .ref bX])), (bH, .inl (cI, 34, .inl hM))] → va_S A s.heap H locs → lv_has ls 7 [(0, .ref y), (2, .int v2), (3, .ref bH), (4, .int v4), (5, .int v5), (6, .int v6)] → W p l e ({ frames := 2, cells := 0, slots := 0, locals := 40 } : Room) s m ([.ref y] : List Value).toArray below meth c H locs 0 0 Q9 (F0 m 41 ls [.int s2, .int s1]) := by
    intro K16 hK16 v2 v4 v5 v6 s2 s1 H locs ls hw hP hD hS hl
    refine lv_iadd hx hb dX2_missingPairs_41 ?_
    refine lv_istore_n (lv' := [(1, .int (s1 + s2)), (0, .ref y), (2, .int v2), (3, .ref bH), (4, .int v4), (5, .int v5), (6, .int v6)]) hx hb dX2_missingPairs_42 rfl hl (by decide) rfl (fun ls hl => ?_)
    refine lv_iload_n hx hb dX2_missingPairs_43 rfl (lv_at hl 2 rfl) ?_
    refine lv_iload hx hb dX2_missingPairs_44 (lv_at hl 6 rfl) ?_
    refine lv_iconst (v := 1) hx hb dX2_missingPairs_46 (by decide) ?_
    refine lv_icmp_ne (tgt := 54) hx hb dX2_missingPairs_47 (by decide) (fun c6 => ?_) (fun c6 => ?_)
    · have hw := hw.2 c6
      refine lv_iconst (v := 0) hx hb dX2_missingPairs_54 (by decide) ?_
      exact L55 K16 hK16 (s1 + s2) v4 v5 (0 : Int32) v2 _ _ _ hw hP hD hS (lv_sub hl [1, 0, 3, 4, 5] rfl)
    · have hw := hw.1 c6
      refine lv_iconst (v := 1) hx hb dX2_missingPairs_50 (by decide) ?_
      refine lv_goto (tgt := 55) hx hb dX2_missingPairs_51 (by decide) ?_
      exact L55 K16 hK16 (s1 + s2) v4 v5 (1 : Int32) v2 _ _ _ hw hP hD hS (lv_sub hl [1, 0, 3, 4, 5] rfl)
  have L16 : ∀ (n : Nat), ∀ (v1 : Int32) (v2 : Int32) (v4 : Int32) (v5 : Int32) (H : Heap) (locs : List Loc) (ls : Array Slot), w_X2_missingPairs_b16 post hM n v1 v2 v4 v5 → va_P (dC, dI) vwCl [(y, .inr (2, [.int thr, .ref bH, .ref bS, .ref bL, .int mel, .ref bO, .ref bK, .ref bZ, .int sea, .int rnd, .int bas, .int lim, .ref bR, .ref bG, .ref bB, .ref bX])), (bH, .inl (cI, 34, .inl hM))] H → va_D A [(y, .inr (2, [.int thr, .ref bH, .ref bS, .ref bL, .int mel, .ref bO, .ref bK, .ref bZ, .int sea, .int rnd, .int bas, .int lim, .ref bR, .ref bG, .ref bB, .ref bX])), (bH, .inl (cI, 34, .inl hM))] → va_S A s.heap H locs → lv_has ls 7 [(0, .ref y), (1, .int v1), (2, .int v2), (3, .ref bH), (4, .int v4), (5, .int v5)] → W p l e ({ frames := 2, cells := 0, slots := 0, locals := 40 } : Room) s m ([.ref y] : List Value).toArray below meth c H locs 0 0 Q9 (F0 m 16 ls []) := by
    intro n
    induction n with
    | zero => intro v1 v2 v4 v5 H locs ls hw _ _ _ _; exact False.elim hw
    | succ n ih =>
      intro v1 v2 v4 v5 H locs ls hw hP hD hS hl
      refine lv_iload hx hb dX2_missingPairs_16 (lv_at hl 5 rfl) ?_
      refine lv_iload hx hb dX2_missingPairs_18 (lv_at hl 4 rfl) ?_
      refine lv_icmp_ge (tgt := 63) hx hb dX2_missingPairs_20 (by decide) (fun c1 => ?_) (fun c1 => ?_)
      · have hw := hw.1 c1
        exact L63 v1 v2 _ _ _ hw hP hD hS (lv_sub hl [0, 1, 2] rfl)
      · have hw := hw.2 c1
        refine lv_aload_n hx hb dX2_missingPairs_23 rfl (lv_at hl 3 rfl) ?_
        refine lv_iload hx hb dX2_missingPairs_24 (lv_at hl 5 rfl) ?_
        obtain ⟨h4, hw⟩ := hw
        refine va_iald hx hb hK hP 1 0 rfl rfl h4 dX2_missingPairs_26 ?_
        refine lv_istore (lv' := [(6, .int (hM v5.toNatClampNeg)), (0, .ref y), (1, .int v1), (2, .int v2), (3, .ref bH), (4, .int v4), (5, .int v5)]) hx hb dX2_missingPairs_27 hl (by decide) rfl (fun ls hl => ?_)
        refine lv_iload_n hx hb dX2_missingPairs_29 rfl (lv_at hl 2 rfl) ?_
        refine lv_iload hx hb dX2_missingPairs_30 (lv_at hl 0 rfl) ?_
        refine lv_iconst (v := 1) hx hb dX2_missingPairs_32 (by decide) ?_
        refine lv_icmp_le (tgt := 40) hx hb dX2_missingPairs_33 (by decide) (fun c5 => ?_) (fun c5 => ?_)
        · have hw := hw.1 c5
          refine lv_iconst (v := 0) hx hb dX2_missingPairs_40 (by decide) ?_
          exact L41 (w_X2_missingPairs_b16 post hM n) ih v2 v4 v5 (hM v5.toNatClampNeg) (0 : Int32) v1 _ _ _ hw hP hD hS (lv_sub hl [1, 3, 4, 5, 6, 0] rfl)
        · have hw := hw.2 c5
          refine lv_iconst (v := 1) hx hb dX2_missingPairs_36 (by decide) ?_
          refine lv_goto (tgt := 41) hx hb dX2_missingPairs_37 (by decide) ?_
          exact L41 (w_X2_missingPairs_b16 post hM n) ih v2 v4 v5 (hM v5.toNatClampNeg) (1 : Int32) v1 _ _ _ hw hP hD hS (lv_sub hl [1, 3, 4, 5, 6, 0] rfl)
  refine lv_iconst (v := 0) hx hb dX2_missingPairs_0 (by decide) ?_
  refine lv_istore_n (lv' := [(1, .int (0 : Int32)), (0, .ref y)]) hx hb dX2_missingPairs_1 rfl hl (by decide) rfl (fun ls hl => ?_)
  refine lv_iconst (v := 0) hx hb dX2_missingPairs_2 (by decide) ?_
  refine lv_istore_n (lv' := [(2, .int (0 : Int32)), (1, .int (0 : Int32)), (0, .ref y)]) hx hb dX2_missingPairs_3 rfl hl (by decide) rfl (fun ls hl => ?_)
  refine lv_aload_n hx hb dX2_missingPairs_4 rfl (lv_at hl 2 rfl) ?_
  refine va_get (D := (dC, dI)) (ci := 2) (v := .ref bH) (C := RX2) (T := TX2) (N := 16) hx hb hts hinX2 hown hK hP 0 rfl rfl 1 (by decide) (hts (.fieldLink RX2 9 "TileHandModel" "hand" "[I") (by decide +kernel)) (fun _ h9 => h9) rfl dX2_missingPairs_5 ?_
  refine lv_astore_n (lv' := [(3, .ref bH), (2, .int (0 : Int32)), (1, .int (0 : Int32)), (0, .ref y)]) hx hb dX2_missingPairs_8 rfl hl (by decide) rfl (fun ls hl => ?_)
  refine lv_aload_n hx hb dX2_missingPairs_9 rfl (lv_at hl 0 rfl) ?_
  refine va_alen (v := (34 : Int32)) hx hb hK hP 1 0 rfl rfl rfl dX2_missingPairs_10 ?_
  refine lv_istore (lv' := [(4, .int (34 : Int32)), (3, .ref bH), (2, .int (0 : Int32)), (1, .int (0 : Int32)), (0, .ref y)]) hx hb dX2_missingPairs_11 hl (by decide) rfl (fun ls hl => ?_)
  refine lv_iconst (v := 0) hx hb dX2_missingPairs_13 (by decide) ?_
  refine lv_istore (lv' := [(5, .int (0 : Int32)), (4, .int (34 : Int32)), (3, .ref bH), (2, .int (0 : Int32)), (1, .int (0 : Int32)), (0, .ref y)]) hx hb dX2_missingPairs_14 hl (by decide) rfl (fun ls hl => ?_)
  obtain ⟨n9, hw⟩ := hw
  exact L16 n9 (0 : Int32) (0 : Int32) (34 : Int32) (0 : Int32) _ _ _ hw hP hD hS (lv_sub hl [5, 4, 3, 2, 1, 0] rfl)

def w_X2_missingOrphans_b52 (post : Int32 → Prop) (hM : (Nat → Int32)) (K7 : Int32 → Int32 → Int32 → Prop) (v1 : Int32) (v2 : Int32) (v3 : Int32) : Prop := K7 v1 v2 (v3 + 1)

def w_X2_missingOrphans_b38 (post : Int32 → Prop) (hM : (Nat → Int32)) (K7 : Int32 → Int32 → Int32 → Prop) (v2 : Int32) (v3 : Int32) (s2 : Int32) (s1 : Int32) : Prop := vp_in v3 34 ∧ ((((hM v3.toNatClampNeg) ≤ (1 : Int32) → (w_X2_missingOrphans_b52 post hM K7 (s1 - s2) v2 v3)) ∧ (¬ (hM v3.toNatClampNeg) ≤ (1 : Int32) → (w_X2_missingOrphans_b52 post hM K7 (s1 - s2) (0 : Int32) v3))))

def w_X2_missingOrphans_b7 (post : Int32 → Prop) (hM : (Nat → Int32)) : Nat → Int32 → Int32 → Int32 → Prop
  | 0, _, _, _ => False
  | n + 1, v1, v2, v3 => (((34 : Int32) ≤ v3 → (post (v1 + v2))) ∧ (¬ (34 : Int32) ≤ v3 → (w_X2_isOuter v3 (fun r2 => (((r2 = 0 → (w_X2_missingOrphans_b52 post hM (w_X2_missingOrphans_b7 post hM n) v1 v2 v3)) ∧ (¬ r2 = 0 → (vp_in v3 34 ∧ ((((hM v3.toNatClampNeg) ≤ 0 → (w_X2_missingOrphans_b38 post hM (w_X2_missingOrphans_b7 post hM n) v2 v3 (0 : Int32) v1)) ∧ (¬ (hM v3.toNatClampNeg) ≤ 0 → (w_X2_missingOrphans_b38 post hM (w_X2_missingOrphans_b7 post hM n) v2 v3 (1 : Int32) v1))))))))))))

def w_X2_missingOrphans (hM : (Nat → Int32)) (post : Int32 → Prop) : Prop := ∃ n9, w_X2_missingOrphans_b7 post hM n9 (13 : Int32) (1 : Int32) (0 : Int32)

set_option maxHeartbeats 4000000 in
set_option maxRecDepth 100000 in
theorem c_X2_missingOrphans (l : Launch) (dC : Nat → ClassId) (dI : Nat → Nat → Nat) (cI cZ : ClassId) (y : Nat) (bH : Nat) (bS : Nat) (bL : Nat) (bO : Nat) (bK : Nat) (bZ : Nat) (bR : Nat) (bG : Nat) (bB : Nat) (bX : Nat) (sz : Nat) (thr : Int32) (mel : Int32) (sea : Int32) (rnd : Int32) (bas : Int32) (lim : Int32) (hM : (Nat → Int32)) (post : Int32 → Prop) (hw : w_X2_missingOrphans hM post) : Met l yX2_missingOrphans wsX2_missingOrphans ({ frames := 3, cells := 0, slots := 0, locals := 60 } : Room) (va_Pc [.ref y] (fun U => U.heap.size = sz ∧ va_P (dC, dI) vwCl [(y, .inr (2, [.int thr, .ref bH, .ref bS, .ref bL, .int mel, .ref bO, .ref bK, .ref bZ, .int sea, .int rnd, .int bas, .int lim, .ref bR, .ref bG, .ref bB, .ref bX])), (bH, .inl (cI, 34, .inl hM))] U.heap ∧ va_K (dC, dI) vwCl [(cI, .int), (cZ, .boolean)] U ∧ va_D (fun _ => True) [(y, .inr (2, [.int thr, .ref bH, .ref bS, .ref bL, .int mel, .ref bO, .ref bK, .ref bZ, .int sea, .int rnd, .int bas, .int lim, .ref bR, .ref bG, .ref bB, .ref bX])), (bH, .inl (cI, 34, .inl hM))])) (va_Qi (fun (r9 : Int32) (u9 : Unit) => post r9) (fun (u9 : Unit) (t9 : State) => va_P (dC, dI) vwCl [(y, .inr (2, [.int thr, .ref bH, .ref bS, .ref bL, .int mel, .ref bO, .ref bK, .ref bZ, .int sea, .int rnd, .int bas, .int lim, .ref bR, .ref bG, .ref bB, .ref bX])), (bH, .inl (cI, 34, .inl hM))] t9.heap ∧ va_K (dC, dI) vwCl [(cI, .int), (cZ, .boolean)] t9 ∧ va_D (va_A [(y, .inr (2, [.int thr, .ref bH, .ref bS, .ref bL, .int mel, .ref bO, .ref bK, .ref bZ, .int sea, .int rnd, .int bas, .int lim, .ref bR, .ref bG, .ref bB, .ref bX])), (bH, .inl (cI, 34, .inl hM))] sz) [(y, .inr (2, [.int thr, .ref bH, .ref bS, .ref bL, .int mel, .ref bO, .ref bK, .ref bZ, .int sea, .int rnd, .int bas, .int lim, .ref bR, .ref bG, .ref bB, .ref bX])), (bH, .inl (cI, 34, .inl hM))]) (va_A [(y, .inr (2, [.int thr, .ref bH, .ref bS, .ref bL, .int mel, .ref bO, .ref bK, .ref bZ, .int sea, .int rnd, .int bas, .int lim, .ref bR, .ref bG, .ref bB, .ref bX])), (bH, .inl (cI, 34, .inl hM))] sz)) 0 0 (va_A [(y, .inr (2, [.int thr, .ref bH, .ref bS, .ref bL, .int mel, .ref bO, .ref bK, .ref bZ, .int sea, .int rnd, .int bas, .int lim, .ref bR, .ref bG, .ref bB, .ref bX])), (bH, .inl (cI, 34, .inl hM))] sz) := by
  refine Met.ofW (cc := cX2_missingOrphans) (maxL := 4) (ret := (some .int)) (by decide) rfl ?_
  intro p e s m args below meth c s₁ B hml hv
  obtain ⟨rfl, hsz, hP, hK, hD0⟩ := hv
  have hx := B.exec
  have hb := B.bytes
  have hr := B.returns
  have hts := atoms_spec (ws := wsX2_missingOrphans) B.pre
  have hown : s.vm.findClass RX2 = some m.cls := findClass_of_methodNamed B.named
  have hlocks := B.notSynchronized
  have hinX2 : ∀ w ∈ u_ws RX2 TX2 16, w ∈ wsX2_missingOrphans := by decide +kernel
  subst hsz
  have hD := hD0.self (sz := s.heap.size)
  generalize hAe : va_A [(y, .inr (2, [.int thr, .ref bH, .ref bS, .ref bL, .int mel, .ref bO, .ref bK, .ref bZ, .int sea, .int rnd, .int bas, .int lim, .ref bR, .ref bG, .ref bB, .ref bX])), (bH, .inl (cI, 34, .inl hM))] s.heap.size = A at hD ⊢
  have hA : ∀ q : Nat, s.heap.size ≤ q → A q := fun q h => by rw [← hAe]; exact Or.inr h
  have hS : va_S A s.heap s.heap [] := va_S.rf
  have hl := lv_entry ([.ref y]) (n := 4) (Nat.le_of_ble_eq_true rfl)
  rw [lg_entry_eq]
  generalize (lg_sl ([.ref y]) ++ List.replicate (4 - (lg_sl ([.ref y])).length) Slot.unset).toArray = ls at hl ⊢
  have hl : lv_has ls 4 [(0, .ref y)] := hl
  refine (?_ : ∀ Q9 : State → Prop, MQ below _ _ s _ _ _ = Q9 → W p l e ({ frames := 3, cells := 0, slots := 0, locals := 60 } : Room) s m _ below meth c s.heap [] 0 0 Q9 (F0 m 0 ls [])) _ rfl
  intro Q9 hQ9
  have hw : ∃ n9, w_X2_missingOrphans_b7 post hM n9 (13 : Int32) (1 : Int32) (0 : Int32) := hw
  have L52 : ∀ (K7 : Int32 → Int32 → Int32 → Prop) (hK7 : ∀ (v1 : Int32) (v2 : Int32) (v3 : Int32) (H : Heap) (locs : List Loc) (ls : Array Slot), K7 v1 v2 v3 → va_P (dC, dI) vwCl [(y, .inr (2, [.int thr, .ref bH, .ref bS, .ref bL, .int mel, .ref bO, .ref bK, .ref bZ, .int sea, .int rnd, .int bas, .int lim, .ref bR, .ref bG, .ref bB, .ref bX])), (bH, .inl (cI, 34, .inl hM))] H → va_D A [(y, .inr (2, [.int thr, .ref bH, .ref bS, .ref bL, .int mel, .ref bO, .ref bK, .ref bZ, .int sea, .int rnd, .int bas, .int lim, .ref bR, .ref bG, .ref bB, .ref bX])), (bH, .inl (cI, 34, .inl hM))] → va_S A s.heap H locs → lv_has ls 4 [(0, .ref y), (1, .int v1), (2, .int v2), (3, .int v3)] → W p l e ({ frames := 3, cells := 0, slots := 0, locals := 60 } : Room) s m ([.ref y] : List Value).toArray below meth c H locs 0 0 Q9 (F0 m 7 ls [])), ∀ (v1 : Int32) (v2 : Int32) (v3 : Int32) (H : Heap) (locs : List Loc) (ls : Array Slot), w_X2_missingOrphans_b52 post hM K7 v1 v2 v3 → va_P (dC, dI) vwCl [(y, .inr (2, [.int thr, .ref bH, .ref bS, .ref bL, .int mel, .ref bO, .ref bK, .ref bZ, .int sea, .int rnd, .int bas, .int lim, .ref bR, .ref bG, .ref bB, .ref bX])), (bH, .inl (cI, 34, .inl hM))] H → va_D A [(y, .inr (2, [.int thr, .ref bH, .ref bS, .ref bL, .int mel, .ref bO, .ref bK, .ref bZ, .int sea, .int rnd, .int bas, .int lim, .ref bR, .ref bG, .ref bB, .ref bX])), (bH, .inl (cI, 34, .inl hM))] → va_S A s.heap H locs → lv_has ls 4 [(0, .ref y), (1, .int v1), (2, .int v2), (3, .int v3)] → W p l e ({ frames := 3, cells := 0, slots := 0, locals := 60 } : Room) s m ([.ref y] : List Value).toArray below meth c H locs 0 0 Q9 (F0 m 52 ls []) := by
    intro K7 hK7 v1 v2 v3 H locs ls hw hP hD hS hl
    refine lv_iinc (v := v3 + 1) (lv' := [(3, .int (v3 + 1)), (0, .ref y), (1, .int v1), (2, .int v2)]) hx hb dX2_missingOrphans_52 hl (k := 3) rfl rfl (by decide) rfl (fun ls hl => ?_)
    refine lv_goto (tgt := 7) hx hb dX2_missingOrphans_55 (by decide) ?_
    exact hK7 v1 v2 (v3 + 1) _ _ _ hw hP hD hS (lv_sub hl [1, 2, 3, 0] rfl)
  have L38 : ∀ (K7 : Int32 → Int32 → Int32 → Prop) (hK7 : ∀ (v1 : Int32) (v2 : Int32) (v3 : Int32) (H : Heap) (locs : List Loc) (ls : Array Slot), K7 v1 v2 v3 → va_P (dC, dI) vwCl [(y, .inr (2, [.int thr, .ref bH, .ref bS, .ref bL, .int mel, .ref bO, .ref bK, .ref bZ, .int sea, .int rnd, .int bas, .int lim, .ref bR, .ref bG, .ref bB, .ref bX])), (bH, .inl (cI, 34, .inl hM))] H → va_D A [(y, .inr (2, [.int thr, .ref bH, .ref bS, .ref bL, .int mel, .ref bO, .ref bK, .ref bZ, .int sea, .int rnd, .int bas, .int lim, .ref bR, .ref bG, .ref bB, .ref bX])), (bH, .inl (cI, 34, .inl hM))] → va_S A s.heap H locs → lv_has ls 4 [(0, .ref y), (1, .int v1), (2, .int v2), (3, .int v3)] → W p l e ({ frames := 3, cells := 0, slots := 0, locals := 60 } : Room) s m ([.ref y] : List Value).toArray below meth c H locs 0 0 Q9 (F0 m 7 ls [])), ∀ (v2 : Int32) (v3 : Int32) (s2 : Int32) (s1 : Int32) (H : Heap) (locs : List Loc) (ls : Array Slot), w_X2_missingOrphans_b38 post hM K7 v2 v3 s2 s1 → va_P (dC, dI) vwCl [(y, .inr (2, [.int thr, .ref bH, .ref bS, .ref bL, .int mel, .ref bO, .ref bK, .ref bZ, .int sea, .int rnd, .int bas, .int lim, .ref bR, .ref bG, .ref bB, .ref bX])), (bH, .inl (cI, 34, .inl hM))] H → va_D A [(y, .inr (2, [.int thr, .ref bH, .ref bS, .ref bL, .int mel, .ref bO, .ref bK, .ref bZ, .int sea, .int rnd, .int bas, .int lim, .ref bR, .ref bG, .ref bB, .ref bX])), (bH, .inl (cI, 34, .inl hM))] → va_S A s.heap H locs → lv_has ls 4 [(0, .ref y), (2, .int v2), (3, .int v3)] → W p l e ({ frames := 3, cells := 0, slots := 0, locals := 60 } : Room) s m ([.ref y] : List Value).toArray below meth c H locs 0 0 Q9 (F0 m 38 ls [.int s2, .int s1]) := by
    intro K7 hK7 v2 v3 s2 s1 H locs ls hw hP hD hS hl
    refine lv_isub hx hb dX2_missingOrphans_38 ?_
    refine lv_istore_n (lv' := [(1, .int (s1 - s2)), (0, .ref y), (2, .int v2), (3, .int v3)]) hx hb dX2_missingOrphans_39 rfl hl (by decide) rfl (fun ls hl => ?_)
    refine lv_aload_n hx hb dX2_missingOrphans_40 rfl (lv_at hl 1 rfl) ?_
    refine va_get (D := (dC, dI)) (ci := 2) (v := .ref bH) (C := RX2) (T := TX2) (N := 16) hx hb hts hinX2 hown hK hP 0 rfl rfl 1 (by decide) (hts (.fieldLink RX2 9 "TileHandModel" "hand" "[I") (by decide +kernel)) (fun _ h9 => h9) rfl dX2_missingOrphans_41 ?_
    refine lv_iload_n hx hb dX2_missingOrphans_44 rfl (lv_at hl 3 rfl) ?_
    obtain ⟨h6, hw⟩ := hw
    refine va_iald hx hb hK hP 1 0 rfl rfl h6 dX2_missingOrphans_45 ?_
    refine lv_iconst (v := 1) hx hb dX2_missingOrphans_46 (by decide) ?_
    refine lv_icmp_le (tgt := 52) hx hb dX2_missingOrphans_47 (by decide) (fun c7 => ?_) (fun c7 => ?_)
    · have hw := hw.1 c7
      exact L52 K7 hK7 (s1 - s2) v2 v3 _ _ _ hw hP hD hS (lv_sub hl [1, 0, 2, 3] rfl)
    · have hw := hw.2 c7
      refine lv_iconst (v := 0) hx hb dX2_missingOrphans_50 (by decide) ?_
      refine lv_istore_n (lv' := [(2, .int (0 : Int32)), (1, .int (s1 - s2)), (0, .ref y), (3, .int v3)]) hx hb dX2_missingOrphans_51 rfl hl (by decide) rfl (fun ls hl => ?_)
      exact L52 K7 hK7 (s1 - s2) (0 : Int32) v3 _ _ _ hw hP hD hS (lv_sub hl [2, 1, 0, 3] rfl)
  have L7 : ∀ (n : Nat), ∀ (v1 : Int32) (v2 : Int32) (v3 : Int32) (H : Heap) (locs : List Loc) (ls : Array Slot), w_X2_missingOrphans_b7 post hM n v1 v2 v3 → va_P (dC, dI) vwCl [(y, .inr (2, [.int thr, .ref bH, .ref bS, .ref bL, .int mel, .ref bO, .ref bK, .ref bZ, .int sea, .int rnd, .int bas, .int lim, .ref bR, .ref bG, .ref bB, .ref bX])), (bH, .inl (cI, 34, .inl hM))] H → va_D A [(y, .inr (2, [.int thr, .ref bH, .ref bS, .ref bL, .int mel, .ref bO, .ref bK, .ref bZ, .int sea, .int rnd, .int bas, .int lim, .ref bR, .ref bG, .ref bB, .ref bX])), (bH, .inl (cI, 34, .inl hM))] → va_S A s.heap H locs → lv_has ls 4 [(0, .ref y), (1, .int v1), (2, .int v2), (3, .int v3)] → W p l e ({ frames := 3, cells := 0, slots := 0, locals := 60 } : Room) s m ([.ref y] : List Value).toArray below meth c H locs 0 0 Q9 (F0 m 7 ls []) := by
    intro n
    induction n with
    | zero => intro v1 v2 v3 H locs ls hw _ _ _ _; exact False.elim hw
    | succ n ih =>
      intro v1 v2 v3 H locs ls hw hP hD hS hl
      refine lv_iload_n hx hb dX2_missingOrphans_7 rfl (lv_at hl 3 rfl) ?_
      refine lv_bipush (v := 34) hx hb dX2_missingOrphans_8 (by decide) ?_
      refine lv_icmp_ge (tgt := 58) hx hb dX2_missingOrphans_10 (by decide) (fun c1 => ?_) (fun c1 => ?_)
      · have hw := hw.1 c1
        refine lv_iload_n hx hb dX2_missingOrphans_58 rfl (lv_at hl 1 rfl) ?_
        refine lv_iload_n hx hb dX2_missingOrphans_59 rfl (lv_at hl 2 rfl) ?_
        refine lv_iadd hx hb dX2_missingOrphans_60 ?_
        rw [← hQ9]
        exact W.iret (v := v1 + v2) hx hb hr (fun t ht hW => ⟨⟨v1 + v2, (), rfl, hw, by rw [ht]; exact hP, va_K.moved hW.alike hK, hD⟩, hS.F ht⟩) hS.2.2 dX2_missingOrphans_61
      · have hw := hw.2 c1
        refine lv_iload_n hx hb dX2_missingOrphans_13 rfl (lv_at hl 3 rfl) ?_
        have hPc := hP.sub (ws' := []) [] rfl
        have hDc := hD.sub (ws' := []) [] (by decide) rfl
        have hFc := va_free (wc := []) hD hS hA [] rfl
        refine va_calli (va_runS (As := [.int v3]) (rest := []) ⟨hx, hb, hml, hown, hts⟩ (c_X2_isOuter l dC dI cI cZ H.size v3 _ hw) (va_cwS 1 hts gX2_missingOrphans_X2_isOuter rfl rfl rfl (by decide +kernel) ⟨Nat.le_of_ble_eq_true rfl, Nat.le_of_ble_eq_true rfl⟩) ⟨fun a U g mk q => by obtain ⟨q0, q1, qP, qK, qD⟩ := q; exact ⟨q0, q1, qP, va_K.moved (u := U) (U := U.calling g mk a) (Vm.Alike.refl U.vm) qK, qD⟩, fun U hU hW => ⟨rfl, by rw [hU], by rw [hU]; exact hPc, va_K.moved hW.alike hK, hDc.weaken (fun _ _ _ _ => trivial)⟩⟩ rfl rfl hl.1 rfl (lv_room (Nat.le_of_ble_eq_true rfl)) dX2_missingOrphans_14 ⟨Nat.le_of_ble_eq_true rfl, Nat.le_of_ble_eq_true rfl⟩) hS (fun q _ h => hFc q h) hFc (fun r2 u t H1 locs ht hvm hw hB hz1 hk1 hS => ?_)
        obtain ⟨hP1, -, hD1⟩ := hB
        have hw := And.intro hw trivial
        try dsimp only at hw
        have hw := hw.1
        rw [ht] at hP1
        obtain ⟨hP, hD⟩ := va_join (wr := [(y, .inr (2, [.int thr, .ref bH, .ref bS, .ref bL, .int mel, .ref bO, .ref bK, .ref bZ, .int sea, .int rnd, .int bas, .int lim, .ref bR, .ref bG, .ref bB, .ref bX])), (bH, .inl (cI, 34, .inl hM))]) (w1 := []) hP hD [] [0, 1] rfl rfl (by decide) (by decide) hk1 hFc hP1 hD1
        generalize H1 = H at hP hS ⊢
        have hP : va_P (dC, dI) vwCl [(y, .inr (2, [.int thr, .ref bH, .ref bS, .ref bL, .int mel, .ref bO, .ref bK, .ref bZ, .int sea, .int rnd, .int bas, .int lim, .ref bR, .ref bG, .ref bB, .ref bX])), (bH, .inl (cI, 34, .inl hM))] H := hP
        have hD : va_D A [(y, .inr (2, [.int thr, .ref bH, .ref bS, .ref bL, .int mel, .ref bO, .ref bK, .ref bZ, .int sea, .int rnd, .int bas, .int lim, .ref bR, .ref bG, .ref bB, .ref bX])), (bH, .inl (cI, 34, .inl hM))] := hD
        refine lv_if_ne (tgt := 23) hx hb dX2_missingOrphans_17 (by decide) (fun c3 => ?_) (fun c3 => ?_)
        · have hw := hw.2 c3
          refine lv_iload_n hx hb dX2_missingOrphans_23 rfl (lv_at hl 1 rfl) ?_
          refine lv_aload_n hx hb dX2_missingOrphans_24 rfl (lv_at hl 0 rfl) ?_
          refine va_get (D := (dC, dI)) (ci := 2) (v := .ref bH) (C := RX2) (T := TX2) (N := 16) hx hb hts hinX2 hown hK hP 0 rfl rfl 1 (by decide) (hts (.fieldLink RX2 9 "TileHandModel" "hand" "[I") (by decide +kernel)) (fun _ h9 => h9) rfl dX2_missingOrphans_25 ?_
          refine lv_iload_n hx hb dX2_missingOrphans_28 rfl (lv_at hl 3 rfl) ?_
          obtain ⟨h4, hw⟩ := hw
          refine va_iald hx hb hK hP 1 0 rfl rfl h4 dX2_missingOrphans_29 ?_
          refine lv_if_le (tgt := 37) hx hb dX2_missingOrphans_30 (by decide) (fun c5 => ?_) (fun c5 => ?_)
          · have hw := hw.1 c5
            refine lv_iconst (v := 0) hx hb dX2_missingOrphans_37 (by decide) ?_
            exact L38 (w_X2_missingOrphans_b7 post hM n) ih v2 v3 (0 : Int32) v1 _ _ _ hw hP hD hS (lv_sub hl [0, 2, 3] rfl)
          · have hw := hw.2 c5
            refine lv_iconst (v := 1) hx hb dX2_missingOrphans_33 (by decide) ?_
            refine lv_goto (tgt := 38) hx hb dX2_missingOrphans_34 (by decide) ?_
            exact L38 (w_X2_missingOrphans_b7 post hM n) ih v2 v3 (1 : Int32) v1 _ _ _ hw hP hD hS (lv_sub hl [0, 2, 3] rfl)
        · have hw := hw.1 c3
          refine lv_goto (tgt := 52) hx hb dX2_missingOrphans_20 (by decide) ?_
          exact L52 (w_X2_missingOrphans_b7 post hM n) ih v1 v2 v3 _ _ _ hw hP hD hS (lv_sub hl [0, 1, 2, 3] rfl)
  refine lv_bipush (v := 13) hx hb dX2_missingOrphans_0 (by decide) ?_
  refine lv_istore_n (lv' := [(1, .int (13 : Int32)), (0, .ref y)]) hx hb dX2_missingOrphans_2 rfl hl (by decide) rfl (fun ls hl => ?_)
  refine lv_iconst (v := 1) hx hb dX2_missingOrphans_3 (by decide) ?_
  refine lv_istore_n (lv' := [(2, .int (1 : Int32)), (1, .int (13 : Int32)), (0, .ref y)]) hx hb dX2_missingOrphans_4 rfl hl (by decide) rfl (fun ls hl => ?_)
  refine lv_iconst (v := 0) hx hb dX2_missingOrphans_5 (by decide) ?_
  refine lv_istore_n (lv' := [(3, .int (0 : Int32)), (2, .int (1 : Int32)), (1, .int (13 : Int32)), (0, .ref y)]) hx hb dX2_missingOrphans_6 rfl hl (by decide) rfl (fun ls hl => ?_)
  obtain ⟨n9, hw⟩ := hw
  exact L7 n9 (13 : Int32) (1 : Int32) (0 : Int32) _ _ _ hw hP hD hS (lv_sub hl [3, 2, 1, 0] rfl)

def w_X2_missingTiles (mel : Int32) (hM : (Nat → Int32)) (lM : (Nat → Int32)) (bM : (Nat → Int32)) (xM : (Nat → Int32)) (post : Int32 → (Nat → Int32) → (Nat → Int32) → Prop) : Prop := w_X2_missingGroups mel hM lM bM xM (fun r1 bM_2 xM_3 => (((mel ≤ 0 → (w_X2_missingPairs hM (fun r7 => (w_X2_missingOrphans hM (fun r8 => (post (if (if r8 < r7 then r8 else r7) < r1 then (if r8 < r7 then r8 else r7) else r1) bM_2 xM_3)))))) ∧ (¬ mel ≤ 0 → (post r1 bM_2 xM_3)))))

set_option maxHeartbeats 4000000 in
set_option maxRecDepth 100000 in
theorem c_X2_missingTiles (l : Launch) (dC : Nat → ClassId) (dI : Nat → Nat → Nat) (cI cZ : ClassId) (y : Nat) (bH : Nat) (bS : Nat) (bL : Nat) (bO : Nat) (bK : Nat) (bZ : Nat) (bR : Nat) (bG : Nat) (bB : Nat) (bX : Nat) (sz : Nat) (thr : Int32) (mel : Int32) (sea : Int32) (rnd : Int32) (bas : Int32) (lim : Int32) (hM : (Nat → Int32)) (lM : (Nat → Int32)) (bM : (Nat → Int32)) (xM : (Nat → Int32)) (post : Int32 → (Nat → Int32) → (Nat → Int32) → Prop) (hw : w_X2_missingTiles mel hM lM bM xM post) : Met l yX2_missingTiles wsX2_missingTiles ({ frames := 4, cells := 0, slots := 0, locals := 97 } : Room) (va_Pc [.ref y] (fun U => U.heap.size = sz ∧ va_P (dC, dI) vwCl [(y, .inr (2, [.int thr, .ref bH, .ref bS, .ref bL, .int mel, .ref bO, .ref bK, .ref bZ, .int sea, .int rnd, .int bas, .int lim, .ref bR, .ref bG, .ref bB, .ref bX])), (bH, .inl (cI, 34, .inl hM)), (bL, .inl (cI, 34, .inl lM)), (bB, .inl (cI, 250, .inl bM)), (bX, .inl (cI, 250, .inl xM))] U.heap ∧ va_K (dC, dI) vwCl [(cI, .int), (cZ, .boolean)] U ∧ va_D (fun _ => True) [(y, .inr (2, [.int thr, .ref bH, .ref bS, .ref bL, .int mel, .ref bO, .ref bK, .ref bZ, .int sea, .int rnd, .int bas, .int lim, .ref bR, .ref bG, .ref bB, .ref bX])), (bH, .inl (cI, 34, .inl hM)), (bL, .inl (cI, 34, .inl lM)), (bB, .inl (cI, 250, .inl bM)), (bX, .inl (cI, 250, .inl xM))])) (va_Qi (fun (r9 : Int32) (u9 : (Nat → Int32) × (Nat → Int32)) => post r9 u9.1 u9.2) (fun (u9 : (Nat → Int32) × (Nat → Int32)) (t9 : State) => ∃ bB1 bX1 : Nat, va_P (dC, dI) vwCl [(y, .inr (2, [.int thr, .ref bH, .ref bS, .ref bL, .int mel, .ref bO, .ref bK, .ref bZ, .int sea, .int rnd, .int bas, .int lim, .ref bR, .ref bG, .ref bB1, .ref bX1])), (bH, .inl (cI, 34, .inl hM)), (bL, .inl (cI, 34, .inl lM)), (bB1, .inl (cI, 250, .inl u9.1)), (bX1, .inl (cI, 250, .inl u9.2))] t9.heap ∧ va_K (dC, dI) vwCl [(cI, .int), (cZ, .boolean)] t9 ∧ va_D (va_A [(y, .inr (2, [.int thr, .ref bH, .ref bS, .ref bL, .int mel, .ref bO, .ref bK, .ref bZ, .int sea, .int rnd, .int bas, .int lim, .ref bR, .ref bG, .ref bB, .ref bX])), (bH, .inl (cI, 34, .inl hM)), (bL, .inl (cI, 34, .inl lM)), (bB, .inl (cI, 250, .inl bM)), (bX, .inl (cI, 250, .inl xM))] sz) [(y, .inr (2, [.int thr, .ref bH, .ref bS, .ref bL, .int mel, .ref bO, .ref bK, .ref bZ, .int sea, .int rnd, .int bas, .int lim, .ref bR, .ref bG, .ref bB1, .ref bX1])), (bH, .inl (cI, 34, .inl hM)), (bL, .inl (cI, 34, .inl lM)), (bB1, .inl (cI, 250, .inl u9.1)), (bX1, .inl (cI, 250, .inl u9.2))]) (va_A [(y, .inr (2, [.int thr, .ref bH, .ref bS, .ref bL, .int mel, .ref bO, .ref bK, .ref bZ, .int sea, .int rnd, .int bas, .int lim, .ref bR, .ref bG, .ref bB, .ref bX])), (bH, .inl (cI, 34, .inl hM)), (bL, .inl (cI, 34, .inl lM)), (bB, .inl (cI, 250, .inl bM)), (bX, .inl (cI, 250, .inl xM))] sz)) 0 0 (va_A [(y, .inr (2, [.int thr, .ref bH, .ref bS, .ref bL, .int mel, .ref bO, .ref bK, .ref bZ, .int sea, .int rnd, .int bas, .int lim, .ref bR, .ref bG, .ref bB, .ref bX])), (bH, .inl (cI, 34, .inl hM)), (bL, .inl (cI, 34, .inl lM)), (bB, .inl (cI, 250, .inl bM)), (bX, .inl (cI, 250, .inl xM))] sz) := by
  refine Met.ofW (cc := cX2_missingTiles) (maxL := 2) (ret := (some .int)) (by decide) rfl ?_
  intro p e s m args below meth c s₁ B hml hv
  obtain ⟨rfl, hsz, hP, hK, hD0⟩ := hv
  have hx := B.exec
  have hb := B.bytes
  have hr := B.returns
  have hts := atoms_spec (ws := wsX2_missingTiles) B.pre
  have hown : s.vm.findClass RX2 = some m.cls := findClass_of_methodNamed B.named
  have hlocks := B.notSynchronized
  have hinX2 : ∀ w ∈ u_ws RX2 TX2 16, w ∈ wsX2_missingTiles := by decide +kernel
  subst hsz
  have hD := hD0.self (sz := s.heap.size)
  generalize hAe : va_A [(y, .inr (2, [.int thr, .ref bH, .ref bS, .ref bL, .int mel, .ref bO, .ref bK, .ref bZ, .int sea, .int rnd, .int bas, .int lim, .ref bR, .ref bG, .ref bB, .ref bX])), (bH, .inl (cI, 34, .inl hM)), (bL, .inl (cI, 34, .inl lM)), (bB, .inl (cI, 250, .inl bM)), (bX, .inl (cI, 250, .inl xM))] s.heap.size = A at hD ⊢
  have hA : ∀ q : Nat, s.heap.size ≤ q → A q := fun q h => by rw [← hAe]; exact Or.inr h
  have hS : va_S A s.heap s.heap [] := va_S.rf
  have hl := lv_entry ([.ref y]) (n := 2) (Nat.le_of_ble_eq_true rfl)
  rw [lg_entry_eq]
  generalize (lg_sl ([.ref y]) ++ List.replicate (2 - (lg_sl ([.ref y])).length) Slot.unset).toArray = ls at hl ⊢
  have hl : lv_has ls 2 [(0, .ref y)] := hl
  refine (?_ : ∀ Q9 : State → Prop, MQ below _ _ s _ _ _ = Q9 → W p l e ({ frames := 4, cells := 0, slots := 0, locals := 97 } : Room) s m _ below meth c s.heap [] 0 0 Q9 (F0 m 0 ls [])) _ rfl
  intro Q9 hQ9
  have hw : w_X2_missingGroups mel hM lM bM xM (fun r1 bM_2 xM_3 => (((mel ≤ 0 → (w_X2_missingPairs hM (fun r7 => (w_X2_missingOrphans hM (fun r8 => (post (if (if r8 < r7 then r8 else r7) < r1 then (if r8 < r7 then r8 else r7) else r1) bM_2 xM_3)))))) ∧ (¬ mel ≤ 0 → (post r1 bM_2 xM_3))))) := hw
  refine lv_aload_n hx hb dX2_missingTiles_0 rfl (lv_at hl 0 rfl) ?_
  have hPc := hP.sub (ws' := [(y, .inr (2, [.int thr, .ref bH, .ref bS, .ref bL, .int mel, .ref bO, .ref bK, .ref bZ, .int sea, .int rnd, .int bas, .int lim, .ref bR, .ref bG, .ref bB, .ref bX])), (bH, .inl (cI, 34, .inl hM)), (bL, .inl (cI, 34, .inl lM)), (bB, .inl (cI, 250, .inl bM)), (bX, .inl (cI, 250, .inl xM))]) [0, 1, 2, 3, 4] rfl
  have hDc := hD.sub (ws' := [(y, .inr (2, [.int thr, .ref bH, .ref bS, .ref bL, .int mel, .ref bO, .ref bK, .ref bZ, .int sea, .int rnd, .int bas, .int lim, .ref bR, .ref bG, .ref bB, .ref bX])), (bH, .inl (cI, 34, .inl hM)), (bL, .inl (cI, 34, .inl lM)), (bB, .inl (cI, 250, .inl bM)), (bX, .inl (cI, 250, .inl xM))]) [0, 1, 2, 3, 4] (by decide) rfl
  have hFc := va_free (wc := [(y, .inr (2, [.int thr, .ref bH, .ref bS, .ref bL, .int mel, .ref bO, .ref bK, .ref bZ, .int sea, .int rnd, .int bas, .int lim, .ref bR, .ref bG, .ref bB, .ref bX])), (bH, .inl (cI, 34, .inl hM)), (bL, .inl (cI, 34, .inl lM)), (bB, .inl (cI, 250, .inl bM)), (bX, .inl (cI, 250, .inl xM))]) hD hS hA [0, 1, 2, 3, 4] rfl
  refine va_calli (va_runV (As := []) (rest := []) ⟨hx, hb, hml, hown, hts⟩ (c_X2_missingGroups l dC dI cI cZ y bH bS bL bO bK bZ bR bG bB bX s.heap.size thr mel sea rnd bas lim hM lM bM xM _ hw) (cwV 0 hts gX2_missingTiles_X2_missingGroups rfl rfl rfl (by decide +kernel) ⟨Nat.le_of_ble_eq_true rfl, Nat.le_of_ble_eq_true rfl⟩) ⟨fun a U g mk q => by obtain ⟨q0, q1, qP, qK, qD⟩ := q; exact ⟨q0, q1, qP, va_K.moved (u := U) (U := U.calling g mk a) (Vm.Alike.refl U.vm) qK, qD⟩, va_recv hK hPc (ci := 2) (q0 := 0) rfl rfl, fun U hU hW => ⟨rfl, by rw [hU], by rw [hU]; exact hPc, va_K.moved hW.alike hK, hDc.weaken (fun _ _ _ _ => trivial)⟩⟩ rfl rfl hl.1 rfl (lv_room (Nat.le_of_ble_eq_true rfl)) dX2_missingTiles_1 ⟨Nat.le_of_ble_eq_true rfl, Nat.le_of_ble_eq_true rfl⟩) hS (fun q _ h => hFc q h) hFc (fun r1 u t H1 locs ht hvm hw hB hz1 hk1 hS => ?_)
  obtain ⟨bM_2, xM_3⟩ := u
  obtain ⟨q4, q5, hP1, -, hD1⟩ := hB
  have hw := And.intro hw trivial
  try dsimp only at hw
  have hw := hw.1
  rw [ht] at hP1
  obtain ⟨hP, hD⟩ := va_join (wr := []) (w1 := [(y, .inr (2, [.int thr, .ref bH, .ref bS, .ref bL, .int mel, .ref bO, .ref bK, .ref bZ, .int sea, .int rnd, .int bas, .int lim, .ref bR, .ref bG, .ref q4, .ref q5])), (bH, .inl (cI, 34, .inl hM)), (bL, .inl (cI, 34, .inl lM)), (q4, .inl (cI, 250, .inl bM_2)), (q5, .inl (cI, 250, .inl xM_3))]) hP hD [0, 1, 2, 3, 4] [] rfl rfl (by decide) (by decide) hk1 hFc hP1 hD1
  generalize H1 = H at hP hS ⊢
  have hP : va_P (dC, dI) vwCl [(y, .inr (2, [.int thr, .ref bH, .ref bS, .ref bL, .int mel, .ref bO, .ref bK, .ref bZ, .int sea, .int rnd, .int bas, .int lim, .ref bR, .ref bG, .ref q4, .ref q5])), (bH, .inl (cI, 34, .inl hM)), (bL, .inl (cI, 34, .inl lM)), (q4, .inl (cI, 250, .inl bM_2)), (q5, .inl (cI, 250, .inl xM_3))] H := hP
  have hD : va_D A [(y, .inr (2, [.int thr, .ref bH, .ref bS, .ref bL, .int mel, .ref bO, .ref bK, .ref bZ, .int sea, .int rnd, .int bas, .int lim, .ref bR, .ref bG, .ref q4, .ref q5])), (bH, .inl (cI, 34, .inl hM)), (bL, .inl (cI, 34, .inl lM)), (q4, .inl (cI, 250, .inl bM_2)), (q5, .inl (cI, 250, .inl xM_3))] := hD
  refine lv_istore_n (lv' := [(1, .int r1), (0, .ref y)]) hx hb dX2_missingTiles_4 rfl hl (by decide) rfl (fun ls hl => ?_)
  refine lv_aload_n hx hb dX2_missingTiles_5 rfl (lv_at hl 1 rfl) ?_
  refine va_get (D := (dC, dI)) (ci := 2) (v := .int mel) (C := RX2) (T := TX2) (N := 16) hx hb hts hinX2 hown hK hP 0 rfl rfl 4 (by decide) (hts (.fieldLink RX2 69 "TileHandModel" "melds" "I") (by decide +kernel)) (fun _ h9 => h9) rfl dX2_missingTiles_6 ?_
  refine lv_if_le (tgt := 16) hx hb dX2_missingTiles_9 (by decide) (fun c6 => ?_) (fun c6 => ?_)
  · have hw := hw.1 c6
    refine lv_iload_n hx hb dX2_missingTiles_16 rfl (lv_at hl 0 rfl) ?_
    refine lv_aload_n hx hb dX2_missingTiles_17 rfl (lv_at hl 1 rfl) ?_
    have hPc := hP.sub (ws' := [(y, .inr (2, [.int thr, .ref bH, .ref bS, .ref bL, .int mel, .ref bO, .ref bK, .ref bZ, .int sea, .int rnd, .int bas, .int lim, .ref bR, .ref bG, .ref q4, .ref q5])), (bH, .inl (cI, 34, .inl hM))]) [0, 1] rfl
    have hDc := hD.sub (ws' := [(y, .inr (2, [.int thr, .ref bH, .ref bS, .ref bL, .int mel, .ref bO, .ref bK, .ref bZ, .int sea, .int rnd, .int bas, .int lim, .ref bR, .ref bG, .ref q4, .ref q5])), (bH, .inl (cI, 34, .inl hM))]) [0, 1] (by decide) rfl
    have hFc := va_free (wc := [(y, .inr (2, [.int thr, .ref bH, .ref bS, .ref bL, .int mel, .ref bO, .ref bK, .ref bZ, .int sea, .int rnd, .int bas, .int lim, .ref bR, .ref bG, .ref q4, .ref q5])), (bH, .inl (cI, 34, .inl hM))]) hD hS hA [0, 1] rfl
    refine va_calli (va_runV (As := []) (rest := [.int r1]) ⟨hx, hb, hml, hown, hts⟩ (c_X2_missingPairs l dC dI cI cZ y bH bS bL bO bK bZ bR bG q4 q5 H.size thr mel sea rnd bas lim hM _ hw) (cwV 0 hts gX2_missingTiles_X2_missingPairs rfl rfl rfl (by decide +kernel) ⟨Nat.le_of_ble_eq_true rfl, Nat.le_of_ble_eq_true rfl⟩) ⟨fun a U g mk q => by obtain ⟨q0, q1, qP, qK, qD⟩ := q; exact ⟨q0, q1, qP, va_K.moved (u := U) (U := U.calling g mk a) (Vm.Alike.refl U.vm) qK, qD⟩, va_recv hK hPc (ci := 2) (q0 := 0) rfl rfl, fun U hU hW => ⟨rfl, by rw [hU], by rw [hU]; exact hPc, va_K.moved hW.alike hK, hDc.weaken (fun _ _ _ _ => trivial)⟩⟩ rfl rfl hl.1 rfl (lv_room (Nat.le_of_ble_eq_true rfl)) dX2_missingTiles_18 ⟨Nat.le_of_ble_eq_true rfl, Nat.le_of_ble_eq_true rfl⟩) hS (fun q _ h => hFc q h) hFc (fun r7 u t H1 locs ht hvm hw hB hz1 hk1 hS => ?_)
    obtain ⟨hP1, -, hD1⟩ := hB
    have hw := And.intro hw trivial
    try dsimp only at hw
    have hw := hw.1
    rw [ht] at hP1
    obtain ⟨hP, hD⟩ := va_join (wr := [(bL, .inl (cI, 34, .inl lM)), (q4, .inl (cI, 250, .inl bM_2)), (q5, .inl (cI, 250, .inl xM_3))]) (w1 := [(y, .inr (2, [.int thr, .ref bH, .ref bS, .ref bL, .int mel, .ref bO, .ref bK, .ref bZ, .int sea, .int rnd, .int bas, .int lim, .ref bR, .ref bG, .ref q4, .ref q5])), (bH, .inl (cI, 34, .inl hM))]) hP hD [0, 1] [2, 3, 4] rfl rfl (by decide) (by decide) hk1 hFc hP1 hD1
    generalize H1 = H at hP hS ⊢
    have hP : va_P (dC, dI) vwCl [(bL, .inl (cI, 34, .inl lM)), (q4, .inl (cI, 250, .inl bM_2)), (q5, .inl (cI, 250, .inl xM_3)), (y, .inr (2, [.int thr, .ref bH, .ref bS, .ref bL, .int mel, .ref bO, .ref bK, .ref bZ, .int sea, .int rnd, .int bas, .int lim, .ref bR, .ref bG, .ref q4, .ref q5])), (bH, .inl (cI, 34, .inl hM))] H := hP
    have hD : va_D A [(bL, .inl (cI, 34, .inl lM)), (q4, .inl (cI, 250, .inl bM_2)), (q5, .inl (cI, 250, .inl xM_3)), (y, .inr (2, [.int thr, .ref bH, .ref bS, .ref bL, .int mel, .ref bO, .ref bK, .ref bZ, .int sea, .int rnd, .int bas, .int lim, .ref bR, .ref bG, .ref q4, .ref q5])), (bH, .inl (cI, 34, .inl hM))] := hD
    refine lv_aload_n hx hb dX2_missingTiles_21 rfl (lv_at hl 1 rfl) ?_
    have hPc := hP.sub (ws' := [(y, .inr (2, [.int thr, .ref bH, .ref bS, .ref bL, .int mel, .ref bO, .ref bK, .ref bZ, .int sea, .int rnd, .int bas, .int lim, .ref bR, .ref bG, .ref q4, .ref q5])), (bH, .inl (cI, 34, .inl hM))]) [3, 4] rfl
    have hDc := hD.sub (ws' := [(y, .inr (2, [.int thr, .ref bH, .ref bS, .ref bL, .int mel, .ref bO, .ref bK, .ref bZ, .int sea, .int rnd, .int bas, .int lim, .ref bR, .ref bG, .ref q4, .ref q5])), (bH, .inl (cI, 34, .inl hM))]) [3, 4] (by decide) rfl
    have hFc := va_free (wc := [(y, .inr (2, [.int thr, .ref bH, .ref bS, .ref bL, .int mel, .ref bO, .ref bK, .ref bZ, .int sea, .int rnd, .int bas, .int lim, .ref bR, .ref bG, .ref q4, .ref q5])), (bH, .inl (cI, 34, .inl hM))]) hD hS hA [3, 4] rfl
    refine va_calli (va_runV (As := []) (rest := [.int r7, .int r1]) ⟨hx, hb, hml, hown, hts⟩ (c_X2_missingOrphans l dC dI cI cZ y bH bS bL bO bK bZ bR bG q4 q5 H.size thr mel sea rnd bas lim hM _ hw) (cwV 0 hts gX2_missingTiles_X2_missingOrphans rfl rfl rfl (by decide +kernel) ⟨Nat.le_of_ble_eq_true rfl, Nat.le_of_ble_eq_true rfl⟩) ⟨fun a U g mk q => by obtain ⟨q0, q1, qP, qK, qD⟩ := q; exact ⟨q0, q1, qP, va_K.moved (u := U) (U := U.calling g mk a) (Vm.Alike.refl U.vm) qK, qD⟩, va_recv hK hPc (ci := 2) (q0 := 0) rfl rfl, fun U hU hW => ⟨rfl, by rw [hU], by rw [hU]; exact hPc, va_K.moved hW.alike hK, hDc.weaken (fun _ _ _ _ => trivial)⟩⟩ rfl rfl hl.1 rfl (lv_room (Nat.le_of_ble_eq_true rfl)) dX2_missingTiles_22 ⟨Nat.le_of_ble_eq_true rfl, Nat.le_of_ble_eq_true rfl⟩) hS (fun q _ h => hFc q h) hFc (fun r8 u t H1 locs ht hvm hw hB hz1 hk1 hS => ?_)
    obtain ⟨hP1, -, hD1⟩ := hB
    have hw := And.intro hw trivial
    try dsimp only at hw
    have hw := hw.1
    rw [ht] at hP1
    obtain ⟨hP, hD⟩ := va_join (wr := [(bL, .inl (cI, 34, .inl lM)), (q4, .inl (cI, 250, .inl bM_2)), (q5, .inl (cI, 250, .inl xM_3))]) (w1 := [(y, .inr (2, [.int thr, .ref bH, .ref bS, .ref bL, .int mel, .ref bO, .ref bK, .ref bZ, .int sea, .int rnd, .int bas, .int lim, .ref bR, .ref bG, .ref q4, .ref q5])), (bH, .inl (cI, 34, .inl hM))]) hP hD [3, 4] [0, 1, 2] rfl rfl (by decide) (by decide) hk1 hFc hP1 hD1
    generalize H1 = H at hP hS ⊢
    have hP : va_P (dC, dI) vwCl [(bL, .inl (cI, 34, .inl lM)), (q4, .inl (cI, 250, .inl bM_2)), (q5, .inl (cI, 250, .inl xM_3)), (y, .inr (2, [.int thr, .ref bH, .ref bS, .ref bL, .int mel, .ref bO, .ref bK, .ref bZ, .int sea, .int rnd, .int bas, .int lim, .ref bR, .ref bG, .ref q4, .ref q5])), (bH, .inl (cI, 34, .inl hM))] H := hP
    have hD : va_D A [(bL, .inl (cI, 34, .inl lM)), (q4, .inl (cI, 250, .inl bM_2)), (q5, .inl (cI, 250, .inl xM_3)), (y, .inr (2, [.int thr, .ref bH, .ref bS, .ref bL, .int mel, .ref bO, .ref bK, .ref bZ, .int sea, .int rnd, .int bas, .int lim, .ref bR, .ref bG, .ref q4, .ref q5])), (bH, .inl (cI, 34, .inl hM))] := hD
    refine va_mmin hx hb (hml.trans hl.1.symm) hown (hts (.methodLink RX2 139 Lib.Math.min.name) (by decide +kernel)) (hts (.static Lib.Math.min.name) (by decide +kernel)) (hts (.initialized "java/lang/Math") (by decide +kernel)) (hts (.code Lib.Math.min.name Lib.Math.min.code 2 (some .int)) (by decide +kernel)) (Nat.le_of_ble_eq_true rfl) (Nat.le_of_ble_eq_true rfl) (Nat.le_of_ble_eq_true rfl) (Nat.le_of_ble_eq_true rfl) dX2_missingTiles_25 ?_
    refine va_mmin hx hb (hml.trans hl.1.symm) hown (hts (.methodLink RX2 139 Lib.Math.min.name) (by decide +kernel)) (hts (.static Lib.Math.min.name) (by decide +kernel)) (hts (.initialized "java/lang/Math") (by decide +kernel)) (hts (.code Lib.Math.min.name Lib.Math.min.code 2 (some .int)) (by decide +kernel)) (Nat.le_of_ble_eq_true rfl) (Nat.le_of_ble_eq_true rfl) (Nat.le_of_ble_eq_true rfl) (Nat.le_of_ble_eq_true rfl) dX2_missingTiles_28 ?_
    have hP9 := hP.sub (ws' := [(y, .inr (2, [.int thr, .ref bH, .ref bS, .ref bL, .int mel, .ref bO, .ref bK, .ref bZ, .int sea, .int rnd, .int bas, .int lim, .ref bR, .ref bG, .ref q4, .ref q5])), (bH, .inl (cI, 34, .inl hM)), (bL, .inl (cI, 34, .inl lM)), (q4, .inl (cI, 250, .inl bM_2)), (q5, .inl (cI, 250, .inl xM_3))]) [3, 4, 0, 1, 2] rfl
    have hD9 := hD.sub (ws' := [(y, .inr (2, [.int thr, .ref bH, .ref bS, .ref bL, .int mel, .ref bO, .ref bK, .ref bZ, .int sea, .int rnd, .int bas, .int lim, .ref bR, .ref bG, .ref q4, .ref q5])), (bH, .inl (cI, 34, .inl hM)), (bL, .inl (cI, 34, .inl lM)), (q4, .inl (cI, 250, .inl bM_2)), (q5, .inl (cI, 250, .inl xM_3))]) [3, 4, 0, 1, 2] (by decide) rfl
    rw [← hQ9]
    exact W.iret (v := (if (if r8 < r7 then r8 else r7) < r1 then (if r8 < r7 then r8 else r7) else r1)) hx hb hr (fun t ht hW => ⟨⟨(if (if r8 < r7 then r8 else r7) < r1 then (if r8 < r7 then r8 else r7) else r1), (bM_2, xM_3), rfl, hw, q4, q5, by rw [ht]; exact hP9, va_K.moved hW.alike hK, hD9⟩, hS.F ht⟩) hS.2.2 dX2_missingTiles_31
  · have hw := hw.2 c6
    refine lv_iload_n hx hb dX2_missingTiles_12 rfl (lv_at hl 0 rfl) ?_
    refine lv_goto (tgt := 31) hx hb dX2_missingTiles_13 (by decide) ?_
    rw [← hQ9]
    exact W.iret (v := r1) hx hb hr (fun t ht hW => ⟨⟨r1, (bM_2, xM_3), rfl, hw, q4, q5, by rw [ht]; exact hP, va_K.moved hW.alike hK, hD⟩, hS.F ht⟩) hS.2.2 dX2_missingTiles_31

def w_X2_missing (thr : Int32) (mel : Int32) (hM : (Nat → Int32)) (lM : (Nat → Int32)) (bM : (Nat → Int32)) (xM : (Nat → Int32)) (post : Int32 → Int32 → (Nat → Int32) → (Nat → Int32) → Prop) : Prop := w_X2_missingTiles mel hM lM bM xM (fun r1 bM_2 xM_3 => (post r1 (0 : Int32) bM_2 xM_3))

set_option maxHeartbeats 4000000 in
set_option maxRecDepth 100000 in
theorem c_X2_missing (l : Launch) (dC : Nat → ClassId) (dI : Nat → Nat → Nat) (cI cZ : ClassId) (y : Nat) (bH : Nat) (bS : Nat) (bL : Nat) (bO : Nat) (bK : Nat) (bZ : Nat) (bR : Nat) (bG : Nat) (bB : Nat) (bX : Nat) (sz : Nat) (thr : Int32) (mel : Int32) (sea : Int32) (rnd : Int32) (bas : Int32) (lim : Int32) (hM : (Nat → Int32)) (lM : (Nat → Int32)) (bM : (Nat → Int32)) (xM : (Nat → Int32)) (post : Int32 → Int32 → (Nat → Int32) → (Nat → Int32) → Prop) (hw : w_X2_missing thr mel hM lM bM xM post) : Met l yX2_missing wsX2_missing ({ frames := 5, cells := 0, slots := 0, locals := 118 } : Room) (va_Pc [.ref y] (fun U => U.heap.size = sz ∧ va_P (dC, dI) vwCl [(y, .inr (2, [.int thr, .ref bH, .ref bS, .ref bL, .int mel, .ref bO, .ref bK, .ref bZ, .int sea, .int rnd, .int bas, .int lim, .ref bR, .ref bG, .ref bB, .ref bX])), (bH, .inl (cI, 34, .inl hM)), (bL, .inl (cI, 34, .inl lM)), (bB, .inl (cI, 250, .inl bM)), (bX, .inl (cI, 250, .inl xM))] U.heap ∧ va_K (dC, dI) vwCl [(cI, .int), (cZ, .boolean)] U ∧ va_D (fun _ => True) [(y, .inr (2, [.int thr, .ref bH, .ref bS, .ref bL, .int mel, .ref bO, .ref bK, .ref bZ, .int sea, .int rnd, .int bas, .int lim, .ref bR, .ref bG, .ref bB, .ref bX])), (bH, .inl (cI, 34, .inl hM)), (bL, .inl (cI, 34, .inl lM)), (bB, .inl (cI, 250, .inl bM)), (bX, .inl (cI, 250, .inl xM))])) (va_Qi (fun (r9 : Int32) (u9 : Int32 × (Nat → Int32) × (Nat → Int32)) => post r9 u9.1 u9.2.1 u9.2.2) (fun (u9 : Int32 × (Nat → Int32) × (Nat → Int32)) (t9 : State) => ∃ bB1 bX1 : Nat, va_P (dC, dI) vwCl [(y, .inr (2, [.int u9.1, .ref bH, .ref bS, .ref bL, .int mel, .ref bO, .ref bK, .ref bZ, .int sea, .int rnd, .int bas, .int lim, .ref bR, .ref bG, .ref bB1, .ref bX1])), (bH, .inl (cI, 34, .inl hM)), (bL, .inl (cI, 34, .inl lM)), (bB1, .inl (cI, 250, .inl u9.2.1)), (bX1, .inl (cI, 250, .inl u9.2.2))] t9.heap ∧ va_K (dC, dI) vwCl [(cI, .int), (cZ, .boolean)] t9 ∧ va_D (va_A [(y, .inr (2, [.int thr, .ref bH, .ref bS, .ref bL, .int mel, .ref bO, .ref bK, .ref bZ, .int sea, .int rnd, .int bas, .int lim, .ref bR, .ref bG, .ref bB, .ref bX])), (bH, .inl (cI, 34, .inl hM)), (bL, .inl (cI, 34, .inl lM)), (bB, .inl (cI, 250, .inl bM)), (bX, .inl (cI, 250, .inl xM))] sz) [(y, .inr (2, [.int u9.1, .ref bH, .ref bS, .ref bL, .int mel, .ref bO, .ref bK, .ref bZ, .int sea, .int rnd, .int bas, .int lim, .ref bR, .ref bG, .ref bB1, .ref bX1])), (bH, .inl (cI, 34, .inl hM)), (bL, .inl (cI, 34, .inl lM)), (bB1, .inl (cI, 250, .inl u9.2.1)), (bX1, .inl (cI, 250, .inl u9.2.2))]) (va_A [(y, .inr (2, [.int thr, .ref bH, .ref bS, .ref bL, .int mel, .ref bO, .ref bK, .ref bZ, .int sea, .int rnd, .int bas, .int lim, .ref bR, .ref bG, .ref bB, .ref bX])), (bH, .inl (cI, 34, .inl hM)), (bL, .inl (cI, 34, .inl lM)), (bB, .inl (cI, 250, .inl bM)), (bX, .inl (cI, 250, .inl xM))] sz)) 0 0 (va_A [(y, .inr (2, [.int thr, .ref bH, .ref bS, .ref bL, .int mel, .ref bO, .ref bK, .ref bZ, .int sea, .int rnd, .int bas, .int lim, .ref bR, .ref bG, .ref bB, .ref bX])), (bH, .inl (cI, 34, .inl hM)), (bL, .inl (cI, 34, .inl lM)), (bB, .inl (cI, 250, .inl bM)), (bX, .inl (cI, 250, .inl xM))] sz) := by
  refine Met.ofW (cc := cX2_missing) (maxL := 1) (ret := (some .int)) (by decide) rfl ?_
  intro p e s m args below meth c s₁ B hml hv
  obtain ⟨rfl, hsz, hP, hK, hD0⟩ := hv
  have hx := B.exec
  have hb := B.bytes
  have hr := B.returns
  have hts := atoms_spec (ws := wsX2_missing) B.pre
  have hown : s.vm.findClass RX2 = some m.cls := findClass_of_methodNamed B.named
  have hlocks := B.notSynchronized
  have hinX2 : ∀ w ∈ u_ws RX2 TX2 16, w ∈ wsX2_missing := by decide +kernel
  subst hsz
  have hD := hD0.self (sz := s.heap.size)
  generalize hAe : va_A [(y, .inr (2, [.int thr, .ref bH, .ref bS, .ref bL, .int mel, .ref bO, .ref bK, .ref bZ, .int sea, .int rnd, .int bas, .int lim, .ref bR, .ref bG, .ref bB, .ref bX])), (bH, .inl (cI, 34, .inl hM)), (bL, .inl (cI, 34, .inl lM)), (bB, .inl (cI, 250, .inl bM)), (bX, .inl (cI, 250, .inl xM))] s.heap.size = A at hD ⊢
  have hA : ∀ q : Nat, s.heap.size ≤ q → A q := fun q h => by rw [← hAe]; exact Or.inr h
  have hS : va_S A s.heap s.heap [] := va_S.rf
  have hl := lv_entry ([.ref y]) (n := 1) (Nat.le_of_ble_eq_true rfl)
  rw [lg_entry_eq]
  generalize (lg_sl ([.ref y]) ++ List.replicate (1 - (lg_sl ([.ref y])).length) Slot.unset).toArray = ls at hl ⊢
  have hl : lv_has ls 1 [(0, .ref y)] := hl
  refine (?_ : ∀ Q9 : State → Prop, MQ below _ _ s _ _ _ = Q9 → W p l e ({ frames := 5, cells := 0, slots := 0, locals := 118 } : Room) s m _ below meth c s.heap [] 0 0 Q9 (F0 m 0 ls [])) _ rfl
  intro Q9 hQ9
  have hw : w_X2_missingTiles mel hM lM bM xM (fun r1 bM_2 xM_3 => (post r1 (0 : Int32) bM_2 xM_3)) := hw
  refine lv_aload_n hx hb dX2_missing_0 rfl (lv_at hl 0 rfl) ?_
  refine lv_iconst (v := 0) hx hb dX2_missing_1 (by decide) ?_
  refine va_put (D := (dC, dI)) (ci := 2) (v := .int (0 : Int32)) (ty := .int) (C := RX2) (T := TX2) (N := 16) hx hb hts hinX2 tyX2 tyX2_ok nmX2 hown hK hP hD hS 0 rfl rfl 0 (by decide) (hts (.fieldLink RX2 54 "TileHandModel" "thrown" "I") (by decide +kernel)) (fun _ h9 => h9) rfl (by decide +kernel) rfl rfl (Nat.le_of_ble_eq_true rfl) dX2_missing_2 (fun H locs hP hD hS => ?_)
  have hP : va_P (dC, dI) vwCl [(y, .inr (2, [.int (0 : Int32), .ref bH, .ref bS, .ref bL, .int mel, .ref bO, .ref bK, .ref bZ, .int sea, .int rnd, .int bas, .int lim, .ref bR, .ref bG, .ref bB, .ref bX])), (bH, .inl (cI, 34, .inl hM)), (bL, .inl (cI, 34, .inl lM)), (bB, .inl (cI, 250, .inl bM)), (bX, .inl (cI, 250, .inl xM))] H := hP
  have hD : va_D A [(y, .inr (2, [.int (0 : Int32), .ref bH, .ref bS, .ref bL, .int mel, .ref bO, .ref bK, .ref bZ, .int sea, .int rnd, .int bas, .int lim, .ref bR, .ref bG, .ref bB, .ref bX])), (bH, .inl (cI, 34, .inl hM)), (bL, .inl (cI, 34, .inl lM)), (bB, .inl (cI, 250, .inl bM)), (bX, .inl (cI, 250, .inl xM))] := hD
  refine lv_aload_n hx hb dX2_missing_5 rfl (lv_at hl 0 rfl) ?_
  have hPc := hP.sub (ws' := [(y, .inr (2, [.int (0 : Int32), .ref bH, .ref bS, .ref bL, .int mel, .ref bO, .ref bK, .ref bZ, .int sea, .int rnd, .int bas, .int lim, .ref bR, .ref bG, .ref bB, .ref bX])), (bH, .inl (cI, 34, .inl hM)), (bL, .inl (cI, 34, .inl lM)), (bB, .inl (cI, 250, .inl bM)), (bX, .inl (cI, 250, .inl xM))]) [0, 1, 2, 3, 4] rfl
  have hDc := hD.sub (ws' := [(y, .inr (2, [.int (0 : Int32), .ref bH, .ref bS, .ref bL, .int mel, .ref bO, .ref bK, .ref bZ, .int sea, .int rnd, .int bas, .int lim, .ref bR, .ref bG, .ref bB, .ref bX])), (bH, .inl (cI, 34, .inl hM)), (bL, .inl (cI, 34, .inl lM)), (bB, .inl (cI, 250, .inl bM)), (bX, .inl (cI, 250, .inl xM))]) [0, 1, 2, 3, 4] (by decide) rfl
  have hFc := va_free (wc := [(y, .inr (2, [.int (0 : Int32), .ref bH, .ref bS, .ref bL, .int mel, .ref bO, .ref bK, .ref bZ, .int sea, .int rnd, .int bas, .int lim, .ref bR, .ref bG, .ref bB, .ref bX])), (bH, .inl (cI, 34, .inl hM)), (bL, .inl (cI, 34, .inl lM)), (bB, .inl (cI, 250, .inl bM)), (bX, .inl (cI, 250, .inl xM))]) hD hS hA [0, 1, 2, 3, 4] rfl
  refine va_calli (va_runV (As := []) (rest := []) ⟨hx, hb, hml, hown, hts⟩ (c_X2_missingTiles l dC dI cI cZ y bH bS bL bO bK bZ bR bG bB bX H.size (0 : Int32) mel sea rnd bas lim hM lM bM xM _ hw) (cwV 0 hts gX2_missing_X2_missingTiles rfl rfl rfl (by decide +kernel) ⟨Nat.le_of_ble_eq_true rfl, Nat.le_of_ble_eq_true rfl⟩) ⟨fun a U g mk q => by obtain ⟨q0, q1, qP, qK, qD⟩ := q; exact ⟨q0, q1, qP, va_K.moved (u := U) (U := U.calling g mk a) (Vm.Alike.refl U.vm) qK, qD⟩, va_recv hK hPc (ci := 2) (q0 := 0) rfl rfl, fun U hU hW => ⟨rfl, by rw [hU], by rw [hU]; exact hPc, va_K.moved hW.alike hK, hDc.weaken (fun _ _ _ _ => trivial)⟩⟩ rfl rfl hl.1 rfl (lv_room (Nat.le_of_ble_eq_true rfl)) dX2_missing_6 ⟨Nat.le_of_ble_eq_true rfl, Nat.le_of_ble_eq_true rfl⟩) hS (fun q _ h => hFc q h) hFc (fun r1 u t H1 locs ht hvm hw hB hz1 hk1 hS => ?_)
  obtain ⟨bM_2, xM_3⟩ := u
  obtain ⟨q4, q5, hP1, -, hD1⟩ := hB
  have hw := And.intro hw trivial
  try dsimp only at hw
  have hw := hw.1
  rw [ht] at hP1
  obtain ⟨hP, hD⟩ := va_join (wr := []) (w1 := [(y, .inr (2, [.int (0 : Int32), .ref bH, .ref bS, .ref bL, .int mel, .ref bO, .ref bK, .ref bZ, .int sea, .int rnd, .int bas, .int lim, .ref bR, .ref bG, .ref q4, .ref q5])), (bH, .inl (cI, 34, .inl hM)), (bL, .inl (cI, 34, .inl lM)), (q4, .inl (cI, 250, .inl bM_2)), (q5, .inl (cI, 250, .inl xM_3))]) hP hD [0, 1, 2, 3, 4] [] rfl rfl (by decide) (by decide) hk1 hFc hP1 hD1
  generalize H1 = H at hP hS ⊢
  have hP : va_P (dC, dI) vwCl [(y, .inr (2, [.int (0 : Int32), .ref bH, .ref bS, .ref bL, .int mel, .ref bO, .ref bK, .ref bZ, .int sea, .int rnd, .int bas, .int lim, .ref bR, .ref bG, .ref q4, .ref q5])), (bH, .inl (cI, 34, .inl hM)), (bL, .inl (cI, 34, .inl lM)), (q4, .inl (cI, 250, .inl bM_2)), (q5, .inl (cI, 250, .inl xM_3))] H := hP
  have hD : va_D A [(y, .inr (2, [.int (0 : Int32), .ref bH, .ref bS, .ref bL, .int mel, .ref bO, .ref bK, .ref bZ, .int sea, .int rnd, .int bas, .int lim, .ref bR, .ref bG, .ref q4, .ref q5])), (bH, .inl (cI, 34, .inl hM)), (bL, .inl (cI, 34, .inl lM)), (q4, .inl (cI, 250, .inl bM_2)), (q5, .inl (cI, 250, .inl xM_3))] := hD
  rw [← hQ9]
  exact W.iret (v := r1) hx hb hr (fun t ht hW => ⟨⟨r1, ((0 : Int32), bM_2, xM_3), rfl, hw, q4, q5, by rw [ht]; exact hP, va_K.moved hW.alike hK, hD⟩, hS.F ht⟩) hS.2.2 dX2_missing_9

def w_X2_advice_b76 (post : Int32 → Int32 → (Nat → Int32) → (Nat → Int32) → (Nat → Int32) → Prop) (mel : Int32) (lM : (Nat → Int32)) (v1 : Int32) (thr : Int32) (hM : (Nat → Int32)) (bM : (Nat → Int32)) (xM : (Nat → Int32)) : Prop := ((v1 = (-1 : Int32) → (w_X2_fail thr (1 : Int32) (fun r3 thr_4 => (post r3 thr_4 hM bM xM)))) ∧ (¬ v1 = (-1 : Int32) → (post v1 thr hM bM xM)))

def w_X2_advice_b70 (post : Int32 → Int32 → (Nat → Int32) → (Nat → Int32) → (Nat → Int32) → Prop) (mel : Int32) (lM : (Nat → Int32)) (K12 : Int32 → Int32 → Int32 → Int32 → (Nat → Int32) → (Nat → Int32) → (Nat → Int32) → Prop) (v1 : Int32) (v2 : Int32) (v3 : Int32) (thr : Int32) (hM : (Nat → Int32)) (bM : (Nat → Int32)) (xM : (Nat → Int32)) : Prop := K12 v1 v2 (v3 + 1) thr hM bM xM

def w_X2_advice_b12 (post : Int32 → Int32 → (Nat → Int32) → (Nat → Int32) → (Nat → Int32) → Prop) (mel : Int32) (lM : (Nat → Int32)) : Nat → Int32 → Int32 → Int32 → Int32 → (Nat → Int32) → (Nat → Int32) → (Nat → Int32) → Prop
  | 0, _, _, _, _, _, _, _ => False
  | n + 1, v1, v2, v3, thr, hM, bM, xM => (((34 : Int32) ≤ v3 → (w_X2_advice_b76 post mel lM v1 thr hM bM xM)) ∧ (¬ (34 : Int32) ≤ v3 → (vp_in v3 34 ∧ ((((hM v3.toNatClampNeg) = 0 → (w_X2_advice_b70 post mel lM (w_X2_advice_b12 post mel lM n) v1 v2 v3 thr hM bM xM)) ∧ (¬ (hM v3.toNatClampNeg) = 0 → (vp_in v3 34 ∧ (vp_in v3 34 ∧ (w_X2_missingTiles mel (upd hM v3.toNatClampNeg ((hM v3.toNatClampNeg) - (1 : Int32))) lM bM xM (fun r9 bM_10 xM_11 => (vp_in v3 34 ∧ (vp_in v3 34 ∧ (((r9 < v2 → (w_X2_advice_b70 post mel lM (w_X2_advice_b12 post mel lM n) v3 r9 v3 thr (upd (upd hM v3.toNatClampNeg ((hM v3.toNatClampNeg) - (1 : Int32))) v3.toNatClampNeg (((upd hM v3.toNatClampNeg ((hM v3.toNatClampNeg) - (1 : Int32))) v3.toNatClampNeg) + (1 : Int32))) bM_10 xM_11)) ∧ (¬ r9 < v2 → (w_X2_advice_b70 post mel lM (w_X2_advice_b12 post mel lM n) v1 v2 v3 thr (upd (upd hM v3.toNatClampNeg ((hM v3.toNatClampNeg) - (1 : Int32))) v3.toNatClampNeg (((upd hM v3.toNatClampNeg ((hM v3.toNatClampNeg) - (1 : Int32))) v3.toNatClampNeg) + (1 : Int32))) bM_10 xM_11))))))))))))))))

def w_X2_advice (thr : Int32) (mel : Int32) (hM : (Nat → Int32)) (lM : (Nat → Int32)) (bM : (Nat → Int32)) (xM : (Nat → Int32)) (post : Int32 → Int32 → (Nat → Int32) → (Nat → Int32) → (Nat → Int32) → Prop) : Prop := ∃ n9, w_X2_advice_b12 post mel lM n9 (-1 : Int32) (99 : Int32) (0 : Int32) (0 : Int32) hM bM xM

set_option maxHeartbeats 4000000 in
set_option maxRecDepth 100000 in
theorem c_X2_advice (l : Launch) (dC : Nat → ClassId) (dI : Nat → Nat → Nat) (cI cZ : ClassId) (y : Nat) (bH : Nat) (bS : Nat) (bL : Nat) (bO : Nat) (bK : Nat) (bZ : Nat) (bR : Nat) (bG : Nat) (bB : Nat) (bX : Nat) (sz : Nat) (thr : Int32) (mel : Int32) (sea : Int32) (rnd : Int32) (bas : Int32) (lim : Int32) (hM : (Nat → Int32)) (lM : (Nat → Int32)) (bM : (Nat → Int32)) (xM : (Nat → Int32)) (post : Int32 → Int32 → (Nat → Int32) → (Nat → Int32) → (Nat → Int32) → Prop) (hw : w_X2_advice thr mel hM lM bM xM post) : Met l yX2_advice wsX2_advice ({ frames := 5, cells := 0, slots := 0, locals := 118 } : Room) (va_Pc [.ref y] (fun U => U.heap.size = sz ∧ va_P (dC, dI) vwCl [(y, .inr (2, [.int thr, .ref bH, .ref bS, .ref bL, .int mel, .ref bO, .ref bK, .ref bZ, .int sea, .int rnd, .int bas, .int lim, .ref bR, .ref bG, .ref bB, .ref bX])), (bH, .inl (cI, 34, .inl hM)), (bL, .inl (cI, 34, .inl lM)), (bB, .inl (cI, 250, .inl bM)), (bX, .inl (cI, 250, .inl xM))] U.heap ∧ va_K (dC, dI) vwCl [(cI, .int), (cZ, .boolean)] U ∧ va_D (fun _ => True) [(y, .inr (2, [.int thr, .ref bH, .ref bS, .ref bL, .int mel, .ref bO, .ref bK, .ref bZ, .int sea, .int rnd, .int bas, .int lim, .ref bR, .ref bG, .ref bB, .ref bX])), (bH, .inl (cI, 34, .inl hM)), (bL, .inl (cI, 34, .inl lM)), (bB, .inl (cI, 250, .inl bM)), (bX, .inl (cI, 250, .inl xM))])) (va_Qi (fun (r9 : Int32) (u9 : Int32 × (Nat → Int32) × (Nat → Int32) × (Nat → Int32)) => post r9 u9.1 u9.2.1 u9.2.2.1 u9.2.2.2) (fun (u9 : Int32 × (Nat → Int32) × (Nat → Int32) × (Nat → Int32)) (t9 : State) => ∃ bB1 bX1 : Nat, va_P (dC, dI) vwCl [(y, .inr (2, [.int u9.1, .ref bH, .ref bS, .ref bL, .int mel, .ref bO, .ref bK, .ref bZ, .int sea, .int rnd, .int bas, .int lim, .ref bR, .ref bG, .ref bB1, .ref bX1])), (bH, .inl (cI, 34, .inl u9.2.1)), (bL, .inl (cI, 34, .inl lM)), (bB1, .inl (cI, 250, .inl u9.2.2.1)), (bX1, .inl (cI, 250, .inl u9.2.2.2))] t9.heap ∧ va_K (dC, dI) vwCl [(cI, .int), (cZ, .boolean)] t9 ∧ va_D (va_A [(y, .inr (2, [.int thr, .ref bH, .ref bS, .ref bL, .int mel, .ref bO, .ref bK, .ref bZ, .int sea, .int rnd, .int bas, .int lim, .ref bR, .ref bG, .ref bB, .ref bX])), (bH, .inl (cI, 34, .inl hM)), (bL, .inl (cI, 34, .inl lM)), (bB, .inl (cI, 250, .inl bM)), (bX, .inl (cI, 250, .inl xM))] sz) [(y, .inr (2, [.int u9.1, .ref bH, .ref bS, .ref bL, .int mel, .ref bO, .ref bK, .ref bZ, .int sea, .int rnd, .int bas, .int lim, .ref bR, .ref bG, .ref bB1, .ref bX1])), (bH, .inl (cI, 34, .inl u9.2.1)), (bL, .inl (cI, 34, .inl lM)), (bB1, .inl (cI, 250, .inl u9.2.2.1)), (bX1, .inl (cI, 250, .inl u9.2.2.2))]) (va_A [(y, .inr (2, [.int thr, .ref bH, .ref bS, .ref bL, .int mel, .ref bO, .ref bK, .ref bZ, .int sea, .int rnd, .int bas, .int lim, .ref bR, .ref bG, .ref bB, .ref bX])), (bH, .inl (cI, 34, .inl hM)), (bL, .inl (cI, 34, .inl lM)), (bB, .inl (cI, 250, .inl bM)), (bX, .inl (cI, 250, .inl xM))] sz)) 0 0 (va_A [(y, .inr (2, [.int thr, .ref bH, .ref bS, .ref bL, .int mel, .ref bO, .ref bK, .ref bZ, .int sea, .int rnd, .int bas, .int lim, .ref bR, .ref bG, .ref bB, .ref bX])), (bH, .inl (cI, 34, .inl hM)), (bL, .inl (cI, 34, .inl lM)), (bB, .inl (cI, 250, .inl bM)), (bX, .inl (cI, 250, .inl xM))] sz) := by
  refine Met.ofW (cc := cX2_advice) (maxL := 5) (ret := (some .int)) (by decide) rfl ?_
  intro p e s m args below meth c s₁ B hml hv
  obtain ⟨rfl, hsz, hP, hK, hD0⟩ := hv
  have hx := B.exec
  have hb := B.bytes
  have hr := B.returns
  have hts := atoms_spec (ws := wsX2_advice) B.pre
  have hown : s.vm.findClass RX2 = some m.cls := findClass_of_methodNamed B.named
  have hlocks := B.notSynchronized
  have hinX2 : ∀ w ∈ u_ws RX2 TX2 16, w ∈ wsX2_advice := by decide +kernel
  subst hsz
  have hD := hD0.self (sz := s.heap.size)
  generalize hAe : va_A [(y, .inr (2, [.int thr, .ref bH, .ref bS, .ref bL, .int mel, .ref bO, .ref bK, .ref bZ, .int sea, .int rnd, .int bas, .int lim, .ref bR, .ref bG, .ref bB, .ref bX])), (bH, .inl (cI, 34, .inl hM)), (bL, .inl (cI, 34, .inl lM)), (bB, .inl (cI, 250, .inl bM)), (bX, .inl (cI, 250, .inl xM))] s.heap.size = A at hD ⊢
  have hA : ∀ q : Nat, s.heap.size ≤ q → A q := fun q h => by rw [← hAe]; exact Or.inr h
  have hS : va_S A s.heap s.heap [] := va_S.rf
  have hl := lv_entry ([.ref y]) (n := 5) (Nat.le_of_ble_eq_true rfl)
  rw [lg_entry_eq]
  generalize (lg_sl ([.ref y]) ++ List.replicate (5 - (lg_sl ([.ref y])).length) Slot.unset).toArray = ls at hl ⊢
  have hl : lv_has ls 5 [(0, .ref y)] := hl
  refine (?_ : ∀ Q9 : State → Prop, MQ below _ _ s _ _ _ = Q9 → W p l e ({ frames := 5, cells := 0, slots := 0, locals := 118 } : Room) s m _ below meth c s.heap [] 0 0 Q9 (F0 m 0 ls [])) _ rfl
  intro Q9 hQ9
  have hw : ∃ n9, w_X2_advice_b12 post mel lM n9 (-1 : Int32) (99 : Int32) (0 : Int32) (0 : Int32) hM bM xM := hw
  have L76 : ∀ (v1 : Int32) (thr : Int32) (hM : (Nat → Int32)) (bM : (Nat → Int32)) (xM : (Nat → Int32)) (bB bX : Nat) (H : Heap) (locs : List Loc) (ls : Array Slot), w_X2_advice_b76 post mel lM v1 thr hM bM xM → va_P (dC, dI) vwCl [(y, .inr (2, [.int thr, .ref bH, .ref bS, .ref bL, .int mel, .ref bO, .ref bK, .ref bZ, .int sea, .int rnd, .int bas, .int lim, .ref bR, .ref bG, .ref bB, .ref bX])), (bH, .inl (cI, 34, .inl hM)), (bL, .inl (cI, 34, .inl lM)), (bB, .inl (cI, 250, .inl bM)), (bX, .inl (cI, 250, .inl xM))] H → va_D A [(y, .inr (2, [.int thr, .ref bH, .ref bS, .ref bL, .int mel, .ref bO, .ref bK, .ref bZ, .int sea, .int rnd, .int bas, .int lim, .ref bR, .ref bG, .ref bB, .ref bX])), (bH, .inl (cI, 34, .inl hM)), (bL, .inl (cI, 34, .inl lM)), (bB, .inl (cI, 250, .inl bM)), (bX, .inl (cI, 250, .inl xM))] → va_S A s.heap H locs → lv_has ls 5 [(0, .ref y), (1, .int v1)] → W p l e ({ frames := 5, cells := 0, slots := 0, locals := 118 } : Room) s m ([.ref y] : List Value).toArray below meth c H locs 0 0 Q9 (F0 m 76 ls []) := by
    intro v1 thr hM bM xM bB bX H locs ls hw hP hD hS hl
    refine lv_iload_n hx hb dX2_advice_76 rfl (lv_at hl 1 rfl) ?_
    refine lv_iconst (v := -1) hx hb dX2_advice_77 (by decide) ?_
    refine lv_icmp_ne (tgt := 89) hx hb dX2_advice_78 (by decide) (fun c2 => ?_) (fun c2 => ?_)
    · have hw := hw.2 c2
      refine lv_iload_n hx hb dX2_advice_89 rfl (lv_at hl 1 rfl) ?_
      rw [← hQ9]
      exact W.iret (v := v1) hx hb hr (fun t ht hW => ⟨⟨v1, (thr, hM, bM, xM), rfl, hw, bB, bX, by rw [ht]; exact hP, va_K.moved hW.alike hK, hD⟩, hS.F ht⟩) hS.2.2 dX2_advice_90
    · have hw := hw.1 c2
      refine lv_aload_n hx hb dX2_advice_81 rfl (lv_at hl 0 rfl) ?_
      refine lv_iconst (v := 1) hx hb dX2_advice_82 (by decide) ?_
      have hPc := hP.sub (ws' := [(y, .inr (2, [.int thr, .ref bH, .ref bS, .ref bL, .int mel, .ref bO, .ref bK, .ref bZ, .int sea, .int rnd, .int bas, .int lim, .ref bR, .ref bG, .ref bB, .ref bX]))]) [0] rfl
      have hDc := hD.sub (ws' := [(y, .inr (2, [.int thr, .ref bH, .ref bS, .ref bL, .int mel, .ref bO, .ref bK, .ref bZ, .int sea, .int rnd, .int bas, .int lim, .ref bR, .ref bG, .ref bB, .ref bX]))]) [0] (by decide) rfl
      have hFc := va_free (wc := [(y, .inr (2, [.int thr, .ref bH, .ref bS, .ref bL, .int mel, .ref bO, .ref bK, .ref bZ, .int sea, .int rnd, .int bas, .int lim, .ref bR, .ref bG, .ref bB, .ref bX]))]) hD hS hA [0] rfl
      refine va_calli (va_runV (As := [.int (1 : Int32)]) (rest := []) ⟨hx, hb, hml, hown, hts⟩ (c_X2_fail l dC dI cI cZ y bH bS bL bO bK bZ bR bG bB bX H.size thr mel sea rnd bas lim (1 : Int32) _ hw) (cwV 1 hts gX2_advice_X2_fail rfl rfl rfl (by decide +kernel) ⟨Nat.le_of_ble_eq_true rfl, Nat.le_of_ble_eq_true rfl⟩) ⟨fun a U g mk q => by obtain ⟨q0, q1, qP, qK, qD⟩ := q; exact ⟨q0, q1, qP, va_K.moved (u := U) (U := U.calling g mk a) (Vm.Alike.refl U.vm) qK, qD⟩, va_recv hK hPc (ci := 2) (q0 := 0) rfl rfl, fun U hU hW => ⟨rfl, by rw [hU], by rw [hU]; exact hPc, va_K.moved hW.alike hK, hDc.weaken (fun _ _ _ _ => trivial)⟩⟩ rfl rfl hl.1 rfl (lv_room (Nat.le_of_ble_eq_true rfl)) dX2_advice_83 ⟨Nat.le_of_ble_eq_true rfl, Nat.le_of_ble_eq_true rfl⟩) hS (fun q _ h => hFc q h) hFc (fun r3 u t H1 locs ht hvm hw hB hz1 hk1 hS => ?_)
      obtain ⟨thr_4, rfl⟩ : ∃ z, z = u := ⟨_, rfl⟩
      obtain ⟨hP1, -, hD1⟩ := hB
      have hw := And.intro hw trivial
      try dsimp only at hw
      have hw := hw.1
      rw [ht] at hP1
      obtain ⟨hP, hD⟩ := va_join (wr := [(bH, .inl (cI, 34, .inl hM)), (bL, .inl (cI, 34, .inl lM)), (bB, .inl (cI, 250, .inl bM)), (bX, .inl (cI, 250, .inl xM))]) (w1 := [(y, .inr (2, [.int thr_4, .ref bH, .ref bS, .ref bL, .int mel, .ref bO, .ref bK, .ref bZ, .int sea, .int rnd, .int bas, .int lim, .ref bR, .ref bG, .ref bB, .ref bX]))]) hP hD [0] [1, 2, 3, 4] rfl rfl (by decide) (by decide) hk1 hFc hP1 hD1
      generalize H1 = H at hP hS ⊢
      have hP : va_P (dC, dI) vwCl [(bH, .inl (cI, 34, .inl hM)), (bL, .inl (cI, 34, .inl lM)), (bB, .inl (cI, 250, .inl bM)), (bX, .inl (cI, 250, .inl xM)), (y, .inr (2, [.int thr_4, .ref bH, .ref bS, .ref bL, .int mel, .ref bO, .ref bK, .ref bZ, .int sea, .int rnd, .int bas, .int lim, .ref bR, .ref bG, .ref bB, .ref bX]))] H := hP
      have hD : va_D A [(bH, .inl (cI, 34, .inl hM)), (bL, .inl (cI, 34, .inl lM)), (bB, .inl (cI, 250, .inl bM)), (bX, .inl (cI, 250, .inl xM)), (y, .inr (2, [.int thr_4, .ref bH, .ref bS, .ref bL, .int mel, .ref bO, .ref bK, .ref bZ, .int sea, .int rnd, .int bas, .int lim, .ref bR, .ref bG, .ref bB, .ref bX]))] := hD
      refine lv_goto (tgt := 90) hx hb dX2_advice_86 (by decide) ?_
      have hP9 := hP.sub (ws' := [(y, .inr (2, [.int thr_4, .ref bH, .ref bS, .ref bL, .int mel, .ref bO, .ref bK, .ref bZ, .int sea, .int rnd, .int bas, .int lim, .ref bR, .ref bG, .ref bB, .ref bX])), (bH, .inl (cI, 34, .inl hM)), (bL, .inl (cI, 34, .inl lM)), (bB, .inl (cI, 250, .inl bM)), (bX, .inl (cI, 250, .inl xM))]) [4, 0, 1, 2, 3] rfl
      have hD9 := hD.sub (ws' := [(y, .inr (2, [.int thr_4, .ref bH, .ref bS, .ref bL, .int mel, .ref bO, .ref bK, .ref bZ, .int sea, .int rnd, .int bas, .int lim, .ref bR, .ref bG, .ref bB, .ref bX])), (bH, .inl (cI, 34, .inl hM)), (bL, .inl (cI, 34, .inl lM)), (bB, .inl (cI, 250, .inl bM)), (bX, .inl (cI, 250, .inl xM))]) [4, 0, 1, 2, 3] (by decide) rfl
      rw [← hQ9]
      exact W.iret (v := r3) hx hb hr (fun t ht hW => ⟨⟨r3, (thr_4, hM, bM, xM), rfl, hw, bB, bX, by rw [ht]; exact hP9, va_K.moved hW.alike hK, hD9⟩, hS.F ht⟩) hS.2.2 dX2_advice_90
  have L70 : ∀ (K12 : Int32 → Int32 → Int32 → Int32 → (Nat → Int32) → (Nat → Int32) → (Nat → Int32) → Prop) (hK12 : ∀ (v1 : Int32) (v2 : Int32) (v3 : Int32) (thr : Int32) (hM : (Nat → Int32)) (bM : (Nat → Int32)) (xM : (Nat → Int32)) (bB bX : Nat) (H : Heap) (locs : List Loc) (ls : Array Slot), K12 v1 v2 v3 thr hM bM xM → va_P (dC, dI) vwCl [(y, .inr (2, [.int thr, .ref bH, .ref bS, .ref bL, .int mel, .ref bO, .ref bK, .ref bZ, .int sea, .int rnd, .int bas, .int lim, .ref bR, .ref bG, .ref bB, .ref bX])), (bH, .inl (cI, 34, .inl hM)), (bL, .inl (cI, 34, .inl lM)), (bB, .inl (cI, 250, .inl bM)), (bX, .inl (cI, 250, .inl xM))] H → va_D A [(y, .inr (2, [.int thr, .ref bH, .ref bS, .ref bL, .int mel, .ref bO, .ref bK, .ref bZ, .int sea, .int rnd, .int bas, .int lim, .ref bR, .ref bG, .ref bB, .ref bX])), (bH, .inl (cI, 34, .inl hM)), (bL, .inl (cI, 34, .inl lM)), (bB, .inl (cI, 250, .inl bM)), (bX, .inl (cI, 250, .inl xM))] → va_S A s.heap H locs → lv_has ls 5 [(0, .ref y), (1, .int v1), (2, .int v2), (3, .int v3)] → W p l e ({ frames := 5, cells := 0, slots := 0, locals := 118 } : Room) s m ([.ref y] : List Value).toArray below meth c H locs 0 0 Q9 (F0 m 12 ls [])), ∀ (v1 : Int32) (v2 : Int32) (v3 : Int32) (thr : Int32) (hM : (Nat → Int32)) (bM : (Nat → Int32)) (xM : (Nat → Int32)) (bB bX : Nat) (H : Heap) (locs : List Loc) (ls : Array Slot), w_X2_advice_b70 post mel lM K12 v1 v2 v3 thr hM bM xM → va_P (dC, dI) vwCl [(y, .inr (2, [.int thr, .ref bH, .ref bS, .ref bL, .int mel, .ref bO, .ref bK, .ref bZ, .int sea, .int rnd, .int bas, .int lim, .ref bR, .ref bG, .ref bB, .ref bX])), (bH, .inl (cI, 34, .inl hM)), (bL, .inl (cI, 34, .inl lM)), (bB, .inl (cI, 250, .inl bM)), (bX, .inl (cI, 250, .inl xM))] H → va_D A [(y, .inr (2, [.int thr, .ref bH, .ref bS, .ref bL, .int mel, .ref bO, .ref bK, .ref bZ, .int sea, .int rnd, .int bas, .int lim, .ref bR, .ref bG, .ref bB, .ref bX])), (bH, .inl (cI, 34, .inl hM)), (bL, .inl (cI, 34, .inl lM)), (bB, .inl (cI, 250, .inl bM)), (bX, .inl (cI, 250, .inl xM))] → va_S A s.heap H locs → lv_has ls 5 [(0, .ref y), (1, .int v1), (2, .int v2), (3, .int v3)] → W p l e ({ frames := 5, cells := 0, slots := 0, locals := 118 } : Room) s m ([.ref y] : List Value).toArray below meth c H locs 0 0 Q9 (F0 m 70 ls []) := by
    intro K12 hK12 v1 v2 v3 thr hM bM xM bB bX H locs ls hw hP hD hS hl
    refine lv_iinc (v := v3 + 1) (lv' := [(3, .int (v3 + 1)), (0, .ref y), (1, .int v1), (2, .int v2)]) hx hb dX2_advice_70 hl (k := 3) rfl rfl (by decide) rfl (fun ls hl => ?_)
    refine lv_goto (tgt := 12) hx hb dX2_advice_73 (by decide) ?_
    exact hK12 v1 v2 (v3 + 1) thr hM bM xM bB bX _ _ _ hw hP hD hS (lv_sub hl [1, 2, 3, 0] rfl)
  have L12 : ∀ (n : Nat), ∀ (v1 : Int32) (v2 : Int32) (v3 : Int32) (thr : Int32) (hM : (Nat → Int32)) (bM : (Nat → Int32)) (xM : (Nat → Int32)) (bB bX : Nat) (H : Heap) (locs : List Loc) (ls : Array Slot), w_X2_advice_b12 post mel lM n v1 v2 v3 thr hM bM xM → va_P (dC, dI) vwCl [(y, .inr (2, [.int thr, .ref bH, .ref bS, .ref bL, .int mel, .ref bO, .ref bK, .ref bZ, .int sea, .int rnd, .int bas, .int lim, .ref bR, .ref bG, .ref bB, .ref bX])), (bH, .inl (cI, 34, .inl hM)), (bL, .inl (cI, 34, .inl lM)), (bB, .inl (cI, 250, .inl bM)), (bX, .inl (cI, 250, .inl xM))] H → va_D A [(y, .inr (2, [.int thr, .ref bH, .ref bS, .ref bL, .int mel, .ref bO, .ref bK, .ref bZ, .int sea, .int rnd, .int bas, .int lim, .ref bR, .ref bG, .ref bB, .ref bX])), (bH, .inl (cI, 34, .inl hM)), (bL, .inl (cI, 34, .inl lM)), (bB, .inl (cI, 250, .inl bM)), (bX, .inl (cI, 250, .inl xM))] → va_S A s.heap H locs → lv_has ls 5 [(0, .ref y), (1, .int v1), (2, .int v2), (3, .int v3)] → W p l e ({ frames := 5, cells := 0, slots := 0, locals := 118 } : Room) s m ([.ref y] : List Value).toArray below meth c H locs 0 0 Q9 (F0 m 12 ls []) := by
    intro n
    induction n with
    | zero => intro v1 v2 v3 thr hM bM xM bB bX H locs ls hw _ _ _ _; exact False.elim hw
    | succ n ih =>
      intro v1 v2 v3 thr hM bM xM bB bX H locs ls hw hP hD hS hl
      refine lv_iload_n hx hb dX2_advice_12 rfl (lv_at hl 3 rfl) ?_
      refine lv_bipush (v := 34) hx hb dX2_advice_13 (by decide) ?_
      refine lv_icmp_ge (tgt := 76) hx hb dX2_advice_15 (by decide) (fun c1 => ?_) (fun c1 => ?_)
      · have hw := hw.1 c1
        exact L76 v1 thr hM bM xM bB bX _ _ _ hw hP hD hS (lv_sub hl [0, 1] rfl)
      · have hw := hw.2 c1
        refine lv_aload_n hx hb dX2_advice_18 rfl (lv_at hl 0 rfl) ?_
        refine va_get (D := (dC, dI)) (ci := 2) (v := .ref bH) (C := RX2) (T := TX2) (N := 16) hx hb hts hinX2 hown hK hP 0 rfl rfl 1 (by decide) (hts (.fieldLink RX2 9 "TileHandModel" "hand" "[I") (by decide +kernel)) (fun _ h9 => h9) rfl dX2_advice_19 ?_
        refine lv_iload_n hx hb dX2_advice_22 rfl (lv_at hl 3 rfl) ?_
        obtain ⟨h5, hw⟩ := hw
        refine va_iald hx hb hK hP 1 0 rfl rfl h5 dX2_advice_23 ?_
        refine lv_if_ne (tgt := 30) hx hb dX2_advice_24 (by decide) (fun c6 => ?_) (fun c6 => ?_)
        · have hw := hw.2 c6
          refine lv_aload_n hx hb dX2_advice_30 rfl (lv_at hl 0 rfl) ?_
          refine va_get (D := (dC, dI)) (ci := 2) (v := .ref bH) (C := RX2) (T := TX2) (N := 16) hx hb hts hinX2 hown hK hP 0 rfl rfl 1 (by decide) (hts (.fieldLink RX2 9 "TileHandModel" "hand" "[I") (by decide +kernel)) (fun _ h9 => h9) rfl dX2_advice_31 ?_
          refine lv_iload_n hx hb dX2_advice_34 rfl (lv_at hl 3 rfl) ?_
          refine lv_dup2_11 hx hb dX2_advice_35 rfl rfl ?_
          obtain ⟨h7, hw⟩ := hw
          refine va_iald hx hb hK hP 1 0 rfl rfl h7 dX2_advice_36 ?_
          refine lv_iconst (v := 1) hx hb dX2_advice_37 (by decide) ?_
          refine lv_isub hx hb dX2_advice_38 ?_
          obtain ⟨h8, hw⟩ := hw
          refine va_iast hx hb hK hP hD hS 1 0 rfl rfl h8 dX2_advice_39 (fun H locs hP hD hS => ?_)
          have hP : va_P (dC, dI) vwCl [(y, .inr (2, [.int thr, .ref bH, .ref bS, .ref bL, .int mel, .ref bO, .ref bK, .ref bZ, .int sea, .int rnd, .int bas, .int lim, .ref bR, .ref bG, .ref bB, .ref bX])), (bH, .inl (cI, 34, .inl (upd hM v3.toNatClampNeg ((hM v3.toNatClampNeg) - (1 : Int32))))), (bL, .inl (cI, 34, .inl lM)), (bB, .inl (cI, 250, .inl bM)), (bX, .inl (cI, 250, .inl xM))] H := hP
          have hD : va_D A [(y, .inr (2, [.int thr, .ref bH, .ref bS, .ref bL, .int mel, .ref bO, .ref bK, .ref bZ, .int sea, .int rnd, .int bas, .int lim, .ref bR, .ref bG, .ref bB, .ref bX])), (bH, .inl (cI, 34, .inl (upd hM v3.toNatClampNeg ((hM v3.toNatClampNeg) - (1 : Int32))))), (bL, .inl (cI, 34, .inl lM)), (bB, .inl (cI, 250, .inl bM)), (bX, .inl (cI, 250, .inl xM))] := hD
          refine lv_aload_n hx hb dX2_advice_40 rfl (lv_at hl 0 rfl) ?_
          have hPc := hP.sub (ws' := [(y, .inr (2, [.int thr, .ref bH, .ref bS, .ref bL, .int mel, .ref bO, .ref bK, .ref bZ, .int sea, .int rnd, .int bas, .int lim, .ref bR, .ref bG, .ref bB, .ref bX])), (bH, .inl (cI, 34, .inl (upd hM v3.toNatClampNeg ((hM v3.toNatClampNeg) - (1 : Int32))))), (bL, .inl (cI, 34, .inl lM)), (bB, .inl (cI, 250, .inl bM)), (bX, .inl (cI, 250, .inl xM))]) [0, 1, 2, 3, 4] rfl
          have hDc := hD.sub (ws' := [(y, .inr (2, [.int thr, .ref bH, .ref bS, .ref bL, .int mel, .ref bO, .ref bK, .ref bZ, .int sea, .int rnd, .int bas, .int lim, .ref bR, .ref bG, .ref bB, .ref bX])), (bH, .inl (cI, 34, .inl (upd hM v3.toNatClampNeg ((hM v3.toNatClampNeg) - (1 : Int32))))), (bL, .inl (cI, 34, .inl lM)), (bB, .inl (cI, 250, .inl bM)), (bX, .inl (cI, 250, .inl xM))]) [0, 1, 2, 3, 4] (by decide) rfl
          have hFc := va_free (wc := [(y, .inr (2, [.int thr, .ref bH, .ref bS, .ref bL, .int mel, .ref bO, .ref bK, .ref bZ, .int sea, .int rnd, .int bas, .int lim, .ref bR, .ref bG, .ref bB, .ref bX])), (bH, .inl (cI, 34, .inl (upd hM v3.toNatClampNeg ((hM v3.toNatClampNeg) - (1 : Int32))))), (bL, .inl (cI, 34, .inl lM)), (bB, .inl (cI, 250, .inl bM)), (bX, .inl (cI, 250, .inl xM))]) hD hS hA [0, 1, 2, 3, 4] rfl
          refine va_calli (va_runV (As := []) (rest := []) ⟨hx, hb, hml, hown, hts⟩ (c_X2_missingTiles l dC dI cI cZ y bH bS bL bO bK bZ bR bG bB bX H.size thr mel sea rnd bas lim (upd hM v3.toNatClampNeg ((hM v3.toNatClampNeg) - (1 : Int32))) lM bM xM _ hw) (cwV 0 hts gX2_advice_X2_missingTiles rfl rfl rfl (by decide +kernel) ⟨Nat.le_of_ble_eq_true rfl, Nat.le_of_ble_eq_true rfl⟩) ⟨fun a U g mk q => by obtain ⟨q0, q1, qP, qK, qD⟩ := q; exact ⟨q0, q1, qP, va_K.moved (u := U) (U := U.calling g mk a) (Vm.Alike.refl U.vm) qK, qD⟩, va_recv hK hPc (ci := 2) (q0 := 0) rfl rfl, fun U hU hW => ⟨rfl, by rw [hU], by rw [hU]; exact hPc, va_K.moved hW.alike hK, hDc.weaken (fun _ _ _ _ => trivial)⟩⟩ rfl rfl hl.1 rfl (lv_room (Nat.le_of_ble_eq_true rfl)) dX2_advice_41 ⟨Nat.le_of_ble_eq_true rfl, Nat.le_of_ble_eq_true rfl⟩) hS (fun q _ h => hFc q h) hFc (fun r9 u t H1 locs ht hvm hw hB hz1 hk1 hS => ?_)
          obtain ⟨bM_10, xM_11⟩ := u
          obtain ⟨q12, q13, hP1, -, hD1⟩ := hB
          have hw := And.intro hw trivial
          try dsimp only at hw
          have hw := hw.1
          rw [ht] at hP1
          obtain ⟨hP, hD⟩ := va_join (wr := []) (w1 := [(y, .inr (2, [.int thr, .ref bH, .ref bS, .ref bL, .int mel, .ref bO, .ref bK, .ref bZ, .int sea, .int rnd, .int bas, .int lim, .ref bR, .ref bG, .ref q12, .ref q13])), (bH, .inl (cI, 34, .inl (upd hM v3.toNatClampNeg ((hM v3.toNatClampNeg) - (1 : Int32))))), (bL, .inl (cI, 34, .inl lM)), (q12, .inl (cI, 250, .inl bM_10)), (q13, .inl (cI, 250, .inl xM_11))]) hP hD [0, 1, 2, 3, 4] [] rfl rfl (by decide) (by decide) hk1 hFc hP1 hD1
          generalize H1 = H at hP hS ⊢
          have hP : va_P (dC, dI) vwCl [(y, .inr (2, [.int thr, .ref bH, .ref bS, .ref bL, .int mel, .ref bO, .ref bK, .ref bZ, .int sea, .int rnd, .int bas, .int lim, .ref bR, .ref bG, .ref q12, .ref q13])), (bH, .inl (cI, 34, .inl (upd hM v3.toNatClampNeg ((hM v3.toNatClampNeg) - (1 : Int32))))), (bL, .inl (cI, 34, .inl lM)), (q12, .inl (cI, 250, .inl bM_10)), (q13, .inl (cI, 250, .inl xM_11))] H := hP
          have hD : va_D A [(y, .inr (2, [.int thr, .ref bH, .ref bS, .ref bL, .int mel, .ref bO, .ref bK, .ref bZ, .int sea, .int rnd, .int bas, .int lim, .ref bR, .ref bG, .ref q12, .ref q13])), (bH, .inl (cI, 34, .inl (upd hM v3.toNatClampNeg ((hM v3.toNatClampNeg) - (1 : Int32))))), (bL, .inl (cI, 34, .inl lM)), (q12, .inl (cI, 250, .inl bM_10)), (q13, .inl (cI, 250, .inl xM_11))] := hD
          refine lv_istore (lv' := [(4, .int r9), (0, .ref y), (1, .int v1), (2, .int v2), (3, .int v3)]) hx hb dX2_advice_44 hl (by decide) rfl (fun ls hl => ?_)
          refine lv_aload_n hx hb dX2_advice_46 rfl (lv_at hl 1 rfl) ?_
          refine va_get (D := (dC, dI)) (ci := 2) (v := .ref bH) (C := RX2) (T := TX2) (N := 16) hx hb hts hinX2 hown hK hP 0 rfl rfl 1 (by decide) (hts (.fieldLink RX2 9 "TileHandModel" "hand" "[I") (by decide +kernel)) (fun _ h9 => h9) rfl dX2_advice_47 ?_
          refine lv_iload_n hx hb dX2_advice_50 rfl (lv_at hl 4 rfl) ?_
          refine lv_dup2_11 hx hb dX2_advice_51 rfl rfl ?_
          obtain ⟨h14, hw⟩ := hw
          refine va_iald hx hb hK hP 1 0 rfl rfl h14 dX2_advice_52 ?_
          refine lv_iconst (v := 1) hx hb dX2_advice_53 (by decide) ?_
          refine lv_iadd hx hb dX2_advice_54 ?_
          obtain ⟨h15, hw⟩ := hw
          refine va_iast hx hb hK hP hD hS 1 0 rfl rfl h15 dX2_advice_55 (fun H locs hP hD hS => ?_)
          have hP : va_P (dC, dI) vwCl [(y, .inr (2, [.int thr, .ref bH, .ref bS, .ref bL, .int mel, .ref bO, .ref bK, .ref bZ, .int sea, .int rnd, .int bas, .int lim, .ref bR, .ref bG, .ref q12, .ref q13])), (bH, .inl (cI, 34, .inl (upd (upd hM v3.toNatClampNeg ((hM v3.toNatClampNeg) - (1 : Int32))) v3.toNatClampNeg (((upd hM v3.toNatClampNeg ((hM v3.toNatClampNeg) - (1 : Int32))) v3.toNatClampNeg) + (1 : Int32))))), (bL, .inl (cI, 34, .inl lM)), (q12, .inl (cI, 250, .inl bM_10)), (q13, .inl (cI, 250, .inl xM_11))] H := hP
          have hD : va_D A [(y, .inr (2, [.int thr, .ref bH, .ref bS, .ref bL, .int mel, .ref bO, .ref bK, .ref bZ, .int sea, .int rnd, .int bas, .int lim, .ref bR, .ref bG, .ref q12, .ref q13])), (bH, .inl (cI, 34, .inl (upd (upd hM v3.toNatClampNeg ((hM v3.toNatClampNeg) - (1 : Int32))) v3.toNatClampNeg (((upd hM v3.toNatClampNeg ((hM v3.toNatClampNeg) - (1 : Int32))) v3.toNatClampNeg) + (1 : Int32))))), (bL, .inl (cI, 34, .inl lM)), (q12, .inl (cI, 250, .inl bM_10)), (q13, .inl (cI, 250, .inl xM_11))] := hD
          refine lv_iload hx hb dX2_advice_56 (lv_at hl 0 rfl) ?_
          refine lv_iload_n hx hb dX2_advice_58 rfl (lv_at hl 3 rfl) ?_
          refine lv_icmp_lt (tgt := 65) hx hb dX2_advice_59 (by decide) (fun c16 => ?_) (fun c16 => ?_)
          · have hw := hw.1 c16
            refine lv_iload_n hx hb dX2_advice_65 rfl (lv_at hl 4 rfl) ?_
            refine lv_istore_n (lv' := [(1, .int v3), (4, .int r9), (0, .ref y), (2, .int v2), (3, .int v3)]) hx hb dX2_advice_66 rfl hl (by decide) rfl (fun ls hl => ?_)
            refine lv_iload hx hb dX2_advice_67 (lv_at hl 1 rfl) ?_
            refine lv_istore_n (lv' := [(2, .int r9), (1, .int v3), (4, .int r9), (0, .ref y), (3, .int v3)]) hx hb dX2_advice_69 rfl hl (by decide) rfl (fun ls hl => ?_)
            exact L70 (w_X2_advice_b12 post mel lM n) ih v3 r9 v3 thr (upd (upd hM v3.toNatClampNeg ((hM v3.toNatClampNeg) - (1 : Int32))) v3.toNatClampNeg (((upd hM v3.toNatClampNeg ((hM v3.toNatClampNeg) - (1 : Int32))) v3.toNatClampNeg) + (1 : Int32))) bM_10 xM_11 q12 q13 _ _ _ hw hP hD hS (lv_sub hl [3, 1, 0, 4] rfl)
          · have hw := hw.2 c16
            refine lv_goto (tgt := 70) hx hb dX2_advice_62 (by decide) ?_
            exact L70 (w_X2_advice_b12 post mel lM n) ih v1 v2 v3 thr (upd (upd hM v3.toNatClampNeg ((hM v3.toNatClampNeg) - (1 : Int32))) v3.toNatClampNeg (((upd hM v3.toNatClampNeg ((hM v3.toNatClampNeg) - (1 : Int32))) v3.toNatClampNeg) + (1 : Int32))) bM_10 xM_11 q12 q13 _ _ _ hw hP hD hS (lv_sub hl [1, 2, 3, 4] rfl)
        · have hw := hw.1 c6
          refine lv_goto (tgt := 70) hx hb dX2_advice_27 (by decide) ?_
          exact L70 (w_X2_advice_b12 post mel lM n) ih v1 v2 v3 thr hM bM xM bB bX _ _ _ hw hP hD hS (lv_sub hl [0, 1, 2, 3] rfl)
  refine lv_aload_n hx hb dX2_advice_0 rfl (lv_at hl 0 rfl) ?_
  refine lv_iconst (v := 0) hx hb dX2_advice_1 (by decide) ?_
  refine va_put (D := (dC, dI)) (ci := 2) (v := .int (0 : Int32)) (ty := .int) (C := RX2) (T := TX2) (N := 16) hx hb hts hinX2 tyX2 tyX2_ok nmX2 hown hK hP hD hS 0 rfl rfl 0 (by decide) (hts (.fieldLink RX2 54 "TileHandModel" "thrown" "I") (by decide +kernel)) (fun _ h9 => h9) rfl (by decide +kernel) rfl rfl (Nat.le_of_ble_eq_true rfl) dX2_advice_2 (fun H locs hP hD hS => ?_)
  have hP : va_P (dC, dI) vwCl [(y, .inr (2, [.int (0 : Int32), .ref bH, .ref bS, .ref bL, .int mel, .ref bO, .ref bK, .ref bZ, .int sea, .int rnd, .int bas, .int lim, .ref bR, .ref bG, .ref bB, .ref bX])), (bH, .inl (cI, 34, .inl hM)), (bL, .inl (cI, 34, .inl lM)), (bB, .inl (cI, 250, .inl bM)), (bX, .inl (cI, 250, .inl xM))] H := hP
  have hD : va_D A [(y, .inr (2, [.int (0 : Int32), .ref bH, .ref bS, .ref bL, .int mel, .ref bO, .ref bK, .ref bZ, .int sea, .int rnd, .int bas, .int lim, .ref bR, .ref bG, .ref bB, .ref bX])), (bH, .inl (cI, 34, .inl hM)), (bL, .inl (cI, 34, .inl lM)), (bB, .inl (cI, 250, .inl bM)), (bX, .inl (cI, 250, .inl xM))] := hD
  refine lv_iconst (v := -1) hx hb dX2_advice_5 (by decide) ?_
  refine lv_istore_n (lv' := [(1, .int (-1 : Int32)), (0, .ref y)]) hx hb dX2_advice_6 rfl hl (by decide) rfl (fun ls hl => ?_)
  refine lv_bipush (v := 99) hx hb dX2_advice_7 (by decide) ?_
  refine lv_istore_n (lv' := [(2, .int (99 : Int32)), (1, .int (-1 : Int32)), (0, .ref y)]) hx hb dX2_advice_9 rfl hl (by decide) rfl (fun ls hl => ?_)
  refine lv_iconst (v := 0) hx hb dX2_advice_10 (by decide) ?_
  refine lv_istore_n (lv' := [(3, .int (0 : Int32)), (2, .int (99 : Int32)), (1, .int (-1 : Int32)), (0, .ref y)]) hx hb dX2_advice_11 rfl hl (by decide) rfl (fun ls hl => ?_)
  obtain ⟨n9, hw⟩ := hw
  exact L12 n9 (-1 : Int32) (99 : Int32) (0 : Int32) (0 : Int32) hM bM xM bB bX _ _ _ hw hP hD hS (lv_sub hl [3, 2, 1, 0] rfl)

def w_X2_setWinds_b27 (post : Int32 → Int32 → Int32 → Int32 → Prop) (p0 : Int32) (p1 : Int32) (thr : Int32) (sea : Int32) (rnd : Int32) : Prop := w_X2_fail thr (1 : Int32) (fun r3 thr_4 => (post r3 thr_4 sea rnd))

def w_X2_setWinds (thr : Int32) (sea : Int32) (rnd : Int32) (p0 : Int32) (p1 : Int32) (post : Int32 → Int32 → Int32 → Int32 → Prop) : Prop := w_X2_isIn p0 (27 : Int32) (30 : Int32) (fun r1 => (((r1 = 0 → (w_X2_setWinds_b27 post p0 p1 (0 : Int32) sea rnd)) ∧ (¬ r1 = 0 → (w_X2_isIn p1 (27 : Int32) (30 : Int32) (fun r5 => (((r5 = 0 → (w_X2_setWinds_b27 post p0 p1 (0 : Int32) sea rnd)) ∧ (¬ r5 = 0 → (post sea (0 : Int32) p0 p1))))))))))

set_option maxHeartbeats 4000000 in
set_option maxRecDepth 100000 in
theorem c_X2_setWinds (l : Launch) (dC : Nat → ClassId) (dI : Nat → Nat → Nat) (cI cZ : ClassId) (y : Nat) (bH : Nat) (bS : Nat) (bL : Nat) (bO : Nat) (bK : Nat) (bZ : Nat) (bR : Nat) (bG : Nat) (bB : Nat) (bX : Nat) (sz : Nat) (thr : Int32) (mel : Int32) (sea : Int32) (rnd : Int32) (bas : Int32) (lim : Int32) (p0 : Int32) (p1 : Int32) (post : Int32 → Int32 → Int32 → Int32 → Prop) (hw : w_X2_setWinds thr sea rnd p0 p1 post) : Met l yX2_setWinds wsX2_setWinds ({ frames := 2, cells := 0, slots := 0, locals := 40 } : Room) (va_Pc [.ref y, .int p0, .int p1] (fun U => U.heap.size = sz ∧ va_P (dC, dI) vwCl [(y, .inr (2, [.int thr, .ref bH, .ref bS, .ref bL, .int mel, .ref bO, .ref bK, .ref bZ, .int sea, .int rnd, .int bas, .int lim, .ref bR, .ref bG, .ref bB, .ref bX]))] U.heap ∧ va_K (dC, dI) vwCl [(cI, .int), (cZ, .boolean)] U ∧ va_D (fun _ => True) [(y, .inr (2, [.int thr, .ref bH, .ref bS, .ref bL, .int mel, .ref bO, .ref bK, .ref bZ, .int sea, .int rnd, .int bas, .int lim, .ref bR, .ref bG, .ref bB, .ref bX]))])) (va_Qi (fun (r9 : Int32) (u9 : Int32 × Int32 × Int32) => post r9 u9.1 u9.2.1 u9.2.2) (fun (u9 : Int32 × Int32 × Int32) (t9 : State) => va_P (dC, dI) vwCl [(y, .inr (2, [.int u9.1, .ref bH, .ref bS, .ref bL, .int mel, .ref bO, .ref bK, .ref bZ, .int u9.2.1, .int u9.2.2, .int bas, .int lim, .ref bR, .ref bG, .ref bB, .ref bX]))] t9.heap ∧ va_K (dC, dI) vwCl [(cI, .int), (cZ, .boolean)] t9 ∧ va_D (va_A [(y, .inr (2, [.int thr, .ref bH, .ref bS, .ref bL, .int mel, .ref bO, .ref bK, .ref bZ, .int sea, .int rnd, .int bas, .int lim, .ref bR, .ref bG, .ref bB, .ref bX]))] sz) [(y, .inr (2, [.int u9.1, .ref bH, .ref bS, .ref bL, .int mel, .ref bO, .ref bK, .ref bZ, .int u9.2.1, .int u9.2.2, .int bas, .int lim, .ref bR, .ref bG, .ref bB, .ref bX]))]) (va_A [(y, .inr (2, [.int thr, .ref bH, .ref bS, .ref bL, .int mel, .ref bO, .ref bK, .ref bZ, .int sea, .int rnd, .int bas, .int lim, .ref bR, .ref bG, .ref bB, .ref bX]))] sz)) 0 0 (va_A [(y, .inr (2, [.int thr, .ref bH, .ref bS, .ref bL, .int mel, .ref bO, .ref bK, .ref bZ, .int sea, .int rnd, .int bas, .int lim, .ref bR, .ref bG, .ref bB, .ref bX]))] sz) := by
  refine Met.ofW (cc := cX2_setWinds) (maxL := 4) (ret := (some .int)) (by decide) rfl ?_
  intro p e s m args below meth c s₁ B hml hv
  obtain ⟨rfl, hsz, hP, hK, hD0⟩ := hv
  have hx := B.exec
  have hb := B.bytes
  have hr := B.returns
  have hts := atoms_spec (ws := wsX2_setWinds) B.pre
  have hown : s.vm.findClass RX2 = some m.cls := findClass_of_methodNamed B.named
  have hlocks := B.notSynchronized
  have hinX2 : ∀ w ∈ u_ws RX2 TX2 16, w ∈ wsX2_setWinds := by decide +kernel
  subst hsz
  have hD := hD0.self (sz := s.heap.size)
  generalize hAe : va_A [(y, .inr (2, [.int thr, .ref bH, .ref bS, .ref bL, .int mel, .ref bO, .ref bK, .ref bZ, .int sea, .int rnd, .int bas, .int lim, .ref bR, .ref bG, .ref bB, .ref bX]))] s.heap.size = A at hD ⊢
  have hA : ∀ q : Nat, s.heap.size ≤ q → A q := fun q h => by rw [← hAe]; exact Or.inr h
  have hS : va_S A s.heap s.heap [] := va_S.rf
  have hl := lv_entry ([.ref y, .int p0, .int p1]) (n := 4) (Nat.le_of_ble_eq_true rfl)
  rw [lg_entry_eq]
  generalize (lg_sl ([.ref y, .int p0, .int p1]) ++ List.replicate (4 - (lg_sl ([.ref y, .int p0, .int p1])).length) Slot.unset).toArray = ls at hl ⊢
  have hl : lv_has ls 4 [(0, .ref y), (1, .int p0), (2, .int p1)] := hl
  refine (?_ : ∀ Q9 : State → Prop, MQ below _ _ s _ _ _ = Q9 → W p l e ({ frames := 2, cells := 0, slots := 0, locals := 40 } : Room) s m _ below meth c s.heap [] 0 0 Q9 (F0 m 0 ls [])) _ rfl
  intro Q9 hQ9
  have hw : w_X2_isIn p0 (27 : Int32) (30 : Int32) (fun r1 => (((r1 = 0 → (w_X2_setWinds_b27 post p0 p1 (0 : Int32) sea rnd)) ∧ (¬ r1 = 0 → (w_X2_isIn p1 (27 : Int32) (30 : Int32) (fun r5 => (((r5 = 0 → (w_X2_setWinds_b27 post p0 p1 (0 : Int32) sea rnd)) ∧ (¬ r5 = 0 → (post sea (0 : Int32) p0 p1)))))))))) := hw
  have L27 : ∀ (thr : Int32) (sea : Int32) (rnd : Int32) (H : Heap) (locs : List Loc) (ls : Array Slot), w_X2_setWinds_b27 post p0 p1 thr sea rnd → va_P (dC, dI) vwCl [(y, .inr (2, [.int thr, .ref bH, .ref bS, .ref bL, .int mel, .ref bO, .ref bK, .ref bZ, .int sea, .int rnd, .int bas, .int lim, .ref bR, .ref bG, .ref bB, .ref bX]))] H → va_D A [(y, .inr (2, [.int thr, .ref bH, .ref bS, .ref bL, .int mel, .ref bO, .ref bK, .ref bZ, .int sea, .int rnd, .int bas, .int lim, .ref bR, .ref bG, .ref bB, .ref bX]))] → va_S A s.heap H locs → lv_has ls 4 [(0, .ref y)] → W p l e ({ frames := 2, cells := 0, slots := 0, locals := 40 } : Room) s m ([.ref y, .int p0, .int p1] : List Value).toArray below meth c H locs 0 0 Q9 (F0 m 27 ls []) := by
    intro thr sea rnd H locs ls hw hP hD hS hl
    refine lv_aload_n hx hb dX2_setWinds_27 rfl (lv_at hl 0 rfl) ?_
    refine lv_iconst (v := 1) hx hb dX2_setWinds_28 (by decide) ?_
    have hPc := hP.sub (ws' := [(y, .inr (2, [.int thr, .ref bH, .ref bS, .ref bL, .int mel, .ref bO, .ref bK, .ref bZ, .int sea, .int rnd, .int bas, .int lim, .ref bR, .ref bG, .ref bB, .ref bX]))]) [0] rfl
    have hDc := hD.sub (ws' := [(y, .inr (2, [.int thr, .ref bH, .ref bS, .ref bL, .int mel, .ref bO, .ref bK, .ref bZ, .int sea, .int rnd, .int bas, .int lim, .ref bR, .ref bG, .ref bB, .ref bX]))]) [0] (by decide) rfl
    have hFc := va_free (wc := [(y, .inr (2, [.int thr, .ref bH, .ref bS, .ref bL, .int mel, .ref bO, .ref bK, .ref bZ, .int sea, .int rnd, .int bas, .int lim, .ref bR, .ref bG, .ref bB, .ref bX]))]) hD hS hA [0] rfl
    refine va_calli (va_runV (As := [.int (1 : Int32)]) (rest := []) ⟨hx, hb, hml, hown, hts⟩ (c_X2_fail l dC dI cI cZ y bH bS bL bO bK bZ bR bG bB bX H.size thr mel sea rnd bas lim (1 : Int32) _ hw) (cwV 1 hts gX2_setWinds_X2_fail rfl rfl rfl (by decide +kernel) ⟨Nat.le_of_ble_eq_true rfl, Nat.le_of_ble_eq_true rfl⟩) ⟨fun a U g mk q => by obtain ⟨q0, q1, qP, qK, qD⟩ := q; exact ⟨q0, q1, qP, va_K.moved (u := U) (U := U.calling g mk a) (Vm.Alike.refl U.vm) qK, qD⟩, va_recv hK hPc (ci := 2) (q0 := 0) rfl rfl, fun U hU hW => ⟨rfl, by rw [hU], by rw [hU]; exact hPc, va_K.moved hW.alike hK, hDc.weaken (fun _ _ _ _ => trivial)⟩⟩ rfl rfl hl.1 rfl (lv_room (Nat.le_of_ble_eq_true rfl)) dX2_setWinds_29 ⟨Nat.le_of_ble_eq_true rfl, Nat.le_of_ble_eq_true rfl⟩) hS (fun q _ h => hFc q h) hFc (fun r3 u t H1 locs ht hvm hw hB hz1 hk1 hS => ?_)
    obtain ⟨thr_4, rfl⟩ : ∃ z, z = u := ⟨_, rfl⟩
    obtain ⟨hP1, -, hD1⟩ := hB
    have hw := And.intro hw trivial
    try dsimp only at hw
    have hw := hw.1
    rw [ht] at hP1
    obtain ⟨hP, hD⟩ := va_join (wr := []) (w1 := [(y, .inr (2, [.int thr_4, .ref bH, .ref bS, .ref bL, .int mel, .ref bO, .ref bK, .ref bZ, .int sea, .int rnd, .int bas, .int lim, .ref bR, .ref bG, .ref bB, .ref bX]))]) hP hD [0] [] rfl rfl (by decide) (by decide) hk1 hFc hP1 hD1
    generalize H1 = H at hP hS ⊢
    have hP : va_P (dC, dI) vwCl [(y, .inr (2, [.int thr_4, .ref bH, .ref bS, .ref bL, .int mel, .ref bO, .ref bK, .ref bZ, .int sea, .int rnd, .int bas, .int lim, .ref bR, .ref bG, .ref bB, .ref bX]))] H := hP
    have hD : va_D A [(y, .inr (2, [.int thr_4, .ref bH, .ref bS, .ref bL, .int mel, .ref bO, .ref bK, .ref bZ, .int sea, .int rnd, .int bas, .int lim, .ref bR, .ref bG, .ref bB, .ref bX]))] := hD
    rw [← hQ9]
    exact W.iret (v := r3) hx hb hr (fun t ht hW => ⟨⟨r3, (thr_4, sea, rnd), rfl, hw, by rw [ht]; exact hP, va_K.moved hW.alike hK, hD⟩, hS.F ht⟩) hS.2.2 dX2_setWinds_32
  refine lv_aload_n hx hb dX2_setWinds_0 rfl (lv_at hl 0 rfl) ?_
  refine lv_iconst (v := 0) hx hb dX2_setWinds_1 (by decide) ?_
  refine va_put (D := (dC, dI)) (ci := 2) (v := .int (0 : Int32)) (ty := .int) (C := RX2) (T := TX2) (N := 16) hx hb hts hinX2 tyX2 tyX2_ok nmX2 hown hK hP hD hS 0 rfl rfl 0 (by decide) (hts (.fieldLink RX2 54 "TileHandModel" "thrown" "I") (by decide +kernel)) (fun _ h9 => h9) rfl (by decide +kernel) rfl rfl (Nat.le_of_ble_eq_true rfl) dX2_setWinds_2 (fun H locs hP hD hS => ?_)
  have hP : va_P (dC, dI) vwCl [(y, .inr (2, [.int (0 : Int32), .ref bH, .ref bS, .ref bL, .int mel, .ref bO, .ref bK, .ref bZ, .int sea, .int rnd, .int bas, .int lim, .ref bR, .ref bG, .ref bB, .ref bX]))] H := hP
  have hD : va_D A [(y, .inr (2, [.int (0 : Int32), .ref bH, .ref bS, .ref bL, .int mel, .ref bO, .ref bK, .ref bZ, .int sea, .int rnd, .int bas, .int lim, .ref bR, .ref bG, .ref bB, .ref bX]))] := hD
  refine lv_iload_n hx hb dX2_setWinds_5 rfl (lv_at hl 1 rfl) ?_
  refine lv_bipush (v := 27) hx hb dX2_setWinds_6 (by decide) ?_
  refine lv_bipush (v := 30) hx hb dX2_setWinds_8 (by decide) ?_
  have hPc := hP.sub (ws' := []) [] rfl
  have hDc := hD.sub (ws' := []) [] (by decide) rfl
  have hFc := va_free (wc := []) hD hS hA [] rfl
  refine va_calli (va_runS (As := [.int p0, .int (27 : Int32), .int (30 : Int32)]) (rest := []) ⟨hx, hb, hml, hown, hts⟩ (c_X2_isIn l dC dI cI cZ H.size p0 (27 : Int32) (30 : Int32) _ hw) (va_cwS 3 hts gX2_setWinds_X2_isIn rfl rfl rfl (by decide +kernel) ⟨Nat.le_of_ble_eq_true rfl, Nat.le_of_ble_eq_true rfl⟩) ⟨fun a U g mk q => by obtain ⟨q0, q1, qP, qK, qD⟩ := q; exact ⟨q0, q1, qP, va_K.moved (u := U) (U := U.calling g mk a) (Vm.Alike.refl U.vm) qK, qD⟩, fun U hU hW => ⟨rfl, by rw [hU], by rw [hU]; exact hPc, va_K.moved hW.alike hK, hDc.weaken (fun _ _ _ _ => trivial)⟩⟩ rfl rfl hl.1 rfl (lv_room (Nat.le_of_ble_eq_true rfl)) dX2_setWinds_10 ⟨Nat.le_of_ble_eq_true rfl, Nat.le_of_ble_eq_true rfl⟩) hS (fun q _ h => hFc q h) hFc (fun r1 u t H1 locs ht hvm hw hB hz1 hk1 hS => ?_)
  obtain ⟨hP1, -, hD1⟩ := hB
  have hw := And.intro hw trivial
  try dsimp only at hw
  have hw := hw.1
  rw [ht] at hP1
  obtain ⟨hP, hD⟩ := va_join (wr := [(y, .inr (2, [.int (0 : Int32), .ref bH, .ref bS, .ref bL, .int mel, .ref bO, .ref bK, .ref bZ, .int sea, .int rnd, .int bas, .int lim, .ref bR, .ref bG, .ref bB, .ref bX]))]) (w1 := []) hP hD [] [0] rfl rfl (by decide) (by decide) hk1 hFc hP1 hD1
  generalize H1 = H at hP hS ⊢
  have hP : va_P (dC, dI) vwCl [(y, .inr (2, [.int (0 : Int32), .ref bH, .ref bS, .ref bL, .int mel, .ref bO, .ref bK, .ref bZ, .int sea, .int rnd, .int bas, .int lim, .ref bR, .ref bG, .ref bB, .ref bX]))] H := hP
  have hD : va_D A [(y, .inr (2, [.int (0 : Int32), .ref bH, .ref bS, .ref bL, .int mel, .ref bO, .ref bK, .ref bZ, .int sea, .int rnd, .int bas, .int lim, .ref bR, .ref bG, .ref bB, .ref bX]))] := hD
  refine lv_if_eq (tgt := 27) hx hb dX2_setWinds_13 (by decide) (fun c2 => ?_) (fun c2 => ?_)
  · have hw := hw.1 c2
    exact L27 (0 : Int32) sea rnd _ _ _ hw hP hD hS (lv_sub hl [0] rfl)
  · have hw := hw.2 c2
    refine lv_iload_n hx hb dX2_setWinds_16 rfl (lv_at hl 2 rfl) ?_
    refine lv_bipush (v := 27) hx hb dX2_setWinds_17 (by decide) ?_
    refine lv_bipush (v := 30) hx hb dX2_setWinds_19 (by decide) ?_
    have hPc := hP.sub (ws' := []) [] rfl
    have hDc := hD.sub (ws' := []) [] (by decide) rfl
    have hFc := va_free (wc := []) hD hS hA [] rfl
    refine va_calli (va_runS (As := [.int p1, .int (27 : Int32), .int (30 : Int32)]) (rest := []) ⟨hx, hb, hml, hown, hts⟩ (c_X2_isIn l dC dI cI cZ H.size p1 (27 : Int32) (30 : Int32) _ hw) (va_cwS 3 hts gX2_setWinds_X2_isIn rfl rfl rfl (by decide +kernel) ⟨Nat.le_of_ble_eq_true rfl, Nat.le_of_ble_eq_true rfl⟩) ⟨fun a U g mk q => by obtain ⟨q0, q1, qP, qK, qD⟩ := q; exact ⟨q0, q1, qP, va_K.moved (u := U) (U := U.calling g mk a) (Vm.Alike.refl U.vm) qK, qD⟩, fun U hU hW => ⟨rfl, by rw [hU], by rw [hU]; exact hPc, va_K.moved hW.alike hK, hDc.weaken (fun _ _ _ _ => trivial)⟩⟩ rfl rfl hl.1 rfl (lv_room (Nat.le_of_ble_eq_true rfl)) dX2_setWinds_21 ⟨Nat.le_of_ble_eq_true rfl, Nat.le_of_ble_eq_true rfl⟩) hS (fun q _ h => hFc q h) hFc (fun r5 u t H1 locs ht hvm hw hB hz1 hk1 hS => ?_)
    obtain ⟨hP1, -, hD1⟩ := hB
    have hw := And.intro hw trivial
    try dsimp only at hw
    have hw := hw.1
    rw [ht] at hP1
    obtain ⟨hP, hD⟩ := va_join (wr := [(y, .inr (2, [.int (0 : Int32), .ref bH, .ref bS, .ref bL, .int mel, .ref bO, .ref bK, .ref bZ, .int sea, .int rnd, .int bas, .int lim, .ref bR, .ref bG, .ref bB, .ref bX]))]) (w1 := []) hP hD [] [0] rfl rfl (by decide) (by decide) hk1 hFc hP1 hD1
    generalize H1 = H at hP hS ⊢
    have hP : va_P (dC, dI) vwCl [(y, .inr (2, [.int (0 : Int32), .ref bH, .ref bS, .ref bL, .int mel, .ref bO, .ref bK, .ref bZ, .int sea, .int rnd, .int bas, .int lim, .ref bR, .ref bG, .ref bB, .ref bX]))] H := hP
    have hD : va_D A [(y, .inr (2, [.int (0 : Int32), .ref bH, .ref bS, .ref bL, .int mel, .ref bO, .ref bK, .ref bZ, .int sea, .int rnd, .int bas, .int lim, .ref bR, .ref bG, .ref bB, .ref bX]))] := hD
    refine lv_if_ne (tgt := 33) hx hb dX2_setWinds_24 (by decide) (fun c6 => ?_) (fun c6 => ?_)
    · have hw := hw.2 c6
      refine lv_aload_n hx hb dX2_setWinds_33 rfl (lv_at hl 0 rfl) ?_
      refine va_get (D := (dC, dI)) (ci := 2) (v := .int sea) (C := RX2) (T := TX2) (N := 16) hx hb hts hinX2 hown hK hP 0 rfl rfl 8 (by decide) (hts (.fieldLink RX2 29 "TileHandModel" "seat" "I") (by decide +kernel)) (fun _ h9 => h9) rfl dX2_setWinds_34 ?_
      refine lv_istore_n (lv' := [(3, .int sea), (0, .ref y), (1, .int p0), (2, .int p1)]) hx hb dX2_setWinds_37 rfl hl (by decide) rfl (fun ls hl => ?_)
      refine lv_aload_n hx hb dX2_setWinds_38 rfl (lv_at hl 1 rfl) ?_
      refine lv_iload_n hx hb dX2_setWinds_39 rfl (lv_at hl 2 rfl) ?_
      refine va_put (D := (dC, dI)) (ci := 2) (v := .int p0) (ty := .int) (C := RX2) (T := TX2) (N := 16) hx hb hts hinX2 tyX2 tyX2_ok nmX2 hown hK hP hD hS 0 rfl rfl 8 (by decide) (hts (.fieldLink RX2 29 "TileHandModel" "seat" "I") (by decide +kernel)) (fun _ h9 => h9) rfl (by decide +kernel) rfl rfl (Nat.le_of_ble_eq_true rfl) dX2_setWinds_40 (fun H locs hP hD hS => ?_)
      have hP : va_P (dC, dI) vwCl [(y, .inr (2, [.int (0 : Int32), .ref bH, .ref bS, .ref bL, .int mel, .ref bO, .ref bK, .ref bZ, .int p0, .int rnd, .int bas, .int lim, .ref bR, .ref bG, .ref bB, .ref bX]))] H := hP
      have hD : va_D A [(y, .inr (2, [.int (0 : Int32), .ref bH, .ref bS, .ref bL, .int mel, .ref bO, .ref bK, .ref bZ, .int p0, .int rnd, .int bas, .int lim, .ref bR, .ref bG, .ref bB, .ref bX]))] := hD
      refine lv_aload_n hx hb dX2_setWinds_43 rfl (lv_at hl 1 rfl) ?_
      refine lv_iload_n hx hb dX2_setWinds_44 rfl (lv_at hl 3 rfl) ?_
      refine va_put (D := (dC, dI)) (ci := 2) (v := .int p1) (ty := .int) (C := RX2) (T := TX2) (N := 16) hx hb hts hinX2 tyX2 tyX2_ok nmX2 hown hK hP hD hS 0 rfl rfl 9 (by decide) (hts (.fieldLink RX2 33 "TileHandModel" "round" "I") (by decide +kernel)) (fun _ h9 => h9) rfl (by decide +kernel) rfl rfl (Nat.le_of_ble_eq_true rfl) dX2_setWinds_45 (fun H locs hP hD hS => ?_)
      have hP : va_P (dC, dI) vwCl [(y, .inr (2, [.int (0 : Int32), .ref bH, .ref bS, .ref bL, .int mel, .ref bO, .ref bK, .ref bZ, .int p0, .int p1, .int bas, .int lim, .ref bR, .ref bG, .ref bB, .ref bX]))] H := hP
      have hD : va_D A [(y, .inr (2, [.int (0 : Int32), .ref bH, .ref bS, .ref bL, .int mel, .ref bO, .ref bK, .ref bZ, .int p0, .int p1, .int bas, .int lim, .ref bR, .ref bG, .ref bB, .ref bX]))] := hD
      refine lv_iload_n hx hb dX2_setWinds_48 rfl (lv_at hl 0 rfl) ?_
      rw [← hQ9]
      exact W.iret (v := sea) hx hb hr (fun t ht hW => ⟨⟨sea, ((0 : Int32), p0, p1), rfl, hw, by rw [ht]; exact hP, va_K.moved hW.alike hK, hD⟩, hS.F ht⟩) hS.2.2 dX2_setWinds_49
    · have hw := hw.1 c6
      exact L27 (0 : Int32) sea rnd _ _ _ hw hP hD hS (lv_sub hl [0] rfl)

def w_X2_setPoints_b25 (post : Int32 → Int32 → Int32 → Int32 → Prop) (p0 : Int32) (p1 : Int32) (thr : Int32) (bas : Int32) (lim : Int32) : Prop := w_X2_fail thr (1 : Int32) (fun r3 thr_4 => (post r3 thr_4 bas lim))

def w_X2_setPoints (thr : Int32) (bas : Int32) (lim : Int32) (p0 : Int32) (p1 : Int32) (post : Int32 → Int32 → Int32 → Int32 → Prop) : Prop := w_X2_isIn p0 (1 : Int32) (100 : Int32) (fun r1 => (((r1 = 0 → (w_X2_setPoints_b25 post p0 p1 (0 : Int32) bas lim)) ∧ (¬ r1 = 0 → (w_X2_isIn p1 (1 : Int32) (13 : Int32) (fun r5 => (((r5 = 0 → (w_X2_setPoints_b25 post p0 p1 (0 : Int32) bas lim)) ∧ (¬ r5 = 0 → (post lim (0 : Int32) p0 p1))))))))))

set_option maxHeartbeats 4000000 in
set_option maxRecDepth 100000 in
theorem c_X2_setPoints (l : Launch) (dC : Nat → ClassId) (dI : Nat → Nat → Nat) (cI cZ : ClassId) (y : Nat) (bH : Nat) (bS : Nat) (bL : Nat) (bO : Nat) (bK : Nat) (bZ : Nat) (bR : Nat) (bG : Nat) (bB : Nat) (bX : Nat) (sz : Nat) (thr : Int32) (mel : Int32) (sea : Int32) (rnd : Int32) (bas : Int32) (lim : Int32) (p0 : Int32) (p1 : Int32) (post : Int32 → Int32 → Int32 → Int32 → Prop) (hw : w_X2_setPoints thr bas lim p0 p1 post) : Met l yX2_setPoints wsX2_setPoints ({ frames := 2, cells := 0, slots := 0, locals := 40 } : Room) (va_Pc [.ref y, .int p0, .int p1] (fun U => U.heap.size = sz ∧ va_P (dC, dI) vwCl [(y, .inr (2, [.int thr, .ref bH, .ref bS, .ref bL, .int mel, .ref bO, .ref bK, .ref bZ, .int sea, .int rnd, .int bas, .int lim, .ref bR, .ref bG, .ref bB, .ref bX]))] U.heap ∧ va_K (dC, dI) vwCl [(cI, .int), (cZ, .boolean)] U ∧ va_D (fun _ => True) [(y, .inr (2, [.int thr, .ref bH, .ref bS, .ref bL, .int mel, .ref bO, .ref bK, .ref bZ, .int sea, .int rnd, .int bas, .int lim, .ref bR, .ref bG, .ref bB, .ref bX]))])) (va_Qi (fun (r9 : Int32) (u9 : Int32 × Int32 × Int32) => post r9 u9.1 u9.2.1 u9.2.2) (fun (u9 : Int32 × Int32 × Int32) (t9 : State) => va_P (dC, dI) vwCl [(y, .inr (2, [.int u9.1, .ref bH, .ref bS, .ref bL, .int mel, .ref bO, .ref bK, .ref bZ, .int sea, .int rnd, .int u9.2.1, .int u9.2.2, .ref bR, .ref bG, .ref bB, .ref bX]))] t9.heap ∧ va_K (dC, dI) vwCl [(cI, .int), (cZ, .boolean)] t9 ∧ va_D (va_A [(y, .inr (2, [.int thr, .ref bH, .ref bS, .ref bL, .int mel, .ref bO, .ref bK, .ref bZ, .int sea, .int rnd, .int bas, .int lim, .ref bR, .ref bG, .ref bB, .ref bX]))] sz) [(y, .inr (2, [.int u9.1, .ref bH, .ref bS, .ref bL, .int mel, .ref bO, .ref bK, .ref bZ, .int sea, .int rnd, .int u9.2.1, .int u9.2.2, .ref bR, .ref bG, .ref bB, .ref bX]))]) (va_A [(y, .inr (2, [.int thr, .ref bH, .ref bS, .ref bL, .int mel, .ref bO, .ref bK, .ref bZ, .int sea, .int rnd, .int bas, .int lim, .ref bR, .ref bG, .ref bB, .ref bX]))] sz)) 0 0 (va_A [(y, .inr (2, [.int thr, .ref bH, .ref bS, .ref bL, .int mel, .ref bO, .ref bK, .ref bZ, .int sea, .int rnd, .int bas, .int lim, .ref bR, .ref bG, .ref bB, .ref bX]))] sz) := by
  refine Met.ofW (cc := cX2_setPoints) (maxL := 4) (ret := (some .int)) (by decide) rfl ?_
  intro p e s m args below meth c s₁ B hml hv
  obtain ⟨rfl, hsz, hP, hK, hD0⟩ := hv
  have hx := B.exec
  have hb := B.bytes
  have hr := B.returns
  have hts := atoms_spec (ws := wsX2_setPoints) B.pre
  have hown : s.vm.findClass RX2 = some m.cls := findClass_of_methodNamed B.named
  have hlocks := B.notSynchronized
  have hinX2 : ∀ w ∈ u_ws RX2 TX2 16, w ∈ wsX2_setPoints := by decide +kernel
  subst hsz
  have hD := hD0.self (sz := s.heap.size)
  generalize hAe : va_A [(y, .inr (2, [.int thr, .ref bH, .ref bS, .ref bL, .int mel, .ref bO, .ref bK, .ref bZ, .int sea, .int rnd, .int bas, .int lim, .ref bR, .ref bG, .ref bB, .ref bX]))] s.heap.size = A at hD ⊢
  have hA : ∀ q : Nat, s.heap.size ≤ q → A q := fun q h => by rw [← hAe]; exact Or.inr h
  have hS : va_S A s.heap s.heap [] := va_S.rf
  have hl := lv_entry ([.ref y, .int p0, .int p1]) (n := 4) (Nat.le_of_ble_eq_true rfl)
  rw [lg_entry_eq]
  generalize (lg_sl ([.ref y, .int p0, .int p1]) ++ List.replicate (4 - (lg_sl ([.ref y, .int p0, .int p1])).length) Slot.unset).toArray = ls at hl ⊢
  have hl : lv_has ls 4 [(0, .ref y), (1, .int p0), (2, .int p1)] := hl
  refine (?_ : ∀ Q9 : State → Prop, MQ below _ _ s _ _ _ = Q9 → W p l e ({ frames := 2, cells := 0, slots := 0, locals := 40 } : Room) s m _ below meth c s.heap [] 0 0 Q9 (F0 m 0 ls [])) _ rfl
  intro Q9 hQ9
  have hw : w_X2_isIn p0 (1 : Int32) (100 : Int32) (fun r1 => (((r1 = 0 → (w_X2_setPoints_b25 post p0 p1 (0 : Int32) bas lim)) ∧ (¬ r1 = 0 → (w_X2_isIn p1 (1 : Int32) (13 : Int32) (fun r5 => (((r5 = 0 → (w_X2_setPoints_b25 post p0 p1 (0 : Int32) bas lim)) ∧ (¬ r5 = 0 → (post lim (0 : Int32) p0 p1)))))))))) := hw
  have L25 : ∀ (thr : Int32) (bas : Int32) (lim : Int32) (H : Heap) (locs : List Loc) (ls : Array Slot), w_X2_setPoints_b25 post p0 p1 thr bas lim → va_P (dC, dI) vwCl [(y, .inr (2, [.int thr, .ref bH, .ref bS, .ref bL, .int mel, .ref bO, .ref bK, .ref bZ, .int sea, .int rnd, .int bas, .int lim, .ref bR, .ref bG, .ref bB, .ref bX]))] H → va_D A [(y, .inr (2, [.int thr, .ref bH, .ref bS, .ref bL, .int mel, .ref bO, .ref bK, .ref bZ, .int sea, .int rnd, .int bas, .int lim, .ref bR, .ref bG, .ref bB, .ref bX]))] → va_S A s.heap H locs → lv_has ls 4 [(0, .ref y)] → W p l e ({ frames := 2, cells := 0, slots := 0, locals := 40 } : Room) s m ([.ref y, .int p0, .int p1] : List Value).toArray below meth c H locs 0 0 Q9 (F0 m 25 ls []) := by
    intro thr bas lim H locs ls hw hP hD hS hl
    refine lv_aload_n hx hb dX2_setPoints_25 rfl (lv_at hl 0 rfl) ?_
    refine lv_iconst (v := 1) hx hb dX2_setPoints_26 (by decide) ?_
    have hPc := hP.sub (ws' := [(y, .inr (2, [.int thr, .ref bH, .ref bS, .ref bL, .int mel, .ref bO, .ref bK, .ref bZ, .int sea, .int rnd, .int bas, .int lim, .ref bR, .ref bG, .ref bB, .ref bX]))]) [0] rfl
    have hDc := hD.sub (ws' := [(y, .inr (2, [.int thr, .ref bH, .ref bS, .ref bL, .int mel, .ref bO, .ref bK, .ref bZ, .int sea, .int rnd, .int bas, .int lim, .ref bR, .ref bG, .ref bB, .ref bX]))]) [0] (by decide) rfl
    have hFc := va_free (wc := [(y, .inr (2, [.int thr, .ref bH, .ref bS, .ref bL, .int mel, .ref bO, .ref bK, .ref bZ, .int sea, .int rnd, .int bas, .int lim, .ref bR, .ref bG, .ref bB, .ref bX]))]) hD hS hA [0] rfl
    refine va_calli (va_runV (As := [.int (1 : Int32)]) (rest := []) ⟨hx, hb, hml, hown, hts⟩ (c_X2_fail l dC dI cI cZ y bH bS bL bO bK bZ bR bG bB bX H.size thr mel sea rnd bas lim (1 : Int32) _ hw) (cwV 1 hts gX2_setPoints_X2_fail rfl rfl rfl (by decide +kernel) ⟨Nat.le_of_ble_eq_true rfl, Nat.le_of_ble_eq_true rfl⟩) ⟨fun a U g mk q => by obtain ⟨q0, q1, qP, qK, qD⟩ := q; exact ⟨q0, q1, qP, va_K.moved (u := U) (U := U.calling g mk a) (Vm.Alike.refl U.vm) qK, qD⟩, va_recv hK hPc (ci := 2) (q0 := 0) rfl rfl, fun U hU hW => ⟨rfl, by rw [hU], by rw [hU]; exact hPc, va_K.moved hW.alike hK, hDc.weaken (fun _ _ _ _ => trivial)⟩⟩ rfl rfl hl.1 rfl (lv_room (Nat.le_of_ble_eq_true rfl)) dX2_setPoints_27 ⟨Nat.le_of_ble_eq_true rfl, Nat.le_of_ble_eq_true rfl⟩) hS (fun q _ h => hFc q h) hFc (fun r3 u t H1 locs ht hvm hw hB hz1 hk1 hS => ?_)
    obtain ⟨thr_4, rfl⟩ : ∃ z, z = u := ⟨_, rfl⟩
    obtain ⟨hP1, -, hD1⟩ := hB
    have hw := And.intro hw trivial
    try dsimp only at hw
    have hw := hw.1
    rw [ht] at hP1
    obtain ⟨hP, hD⟩ := va_join (wr := []) (w1 := [(y, .inr (2, [.int thr_4, .ref bH, .ref bS, .ref bL, .int mel, .ref bO, .ref bK, .ref bZ, .int sea, .int rnd, .int bas, .int lim, .ref bR, .ref bG, .ref bB, .ref bX]))]) hP hD [0] [] rfl rfl (by decide) (by decide) hk1 hFc hP1 hD1
    generalize H1 = H at hP hS ⊢
    have hP : va_P (dC, dI) vwCl [(y, .inr (2, [.int thr_4, .ref bH, .ref bS, .ref bL, .int mel, .ref bO, .ref bK, .ref bZ, .int sea, .int rnd, .int bas, .int lim, .ref bR, .ref bG, .ref bB, .ref bX]))] H := hP
    have hD : va_D A [(y, .inr (2, [.int thr_4, .ref bH, .ref bS, .ref bL, .int mel, .ref bO, .ref bK, .ref bZ, .int sea, .int rnd, .int bas, .int lim, .ref bR, .ref bG, .ref bB, .ref bX]))] := hD
    rw [← hQ9]
    exact W.iret (v := r3) hx hb hr (fun t ht hW => ⟨⟨r3, (thr_4, bas, lim), rfl, hw, by rw [ht]; exact hP, va_K.moved hW.alike hK, hD⟩, hS.F ht⟩) hS.2.2 dX2_setPoints_30
  refine lv_aload_n hx hb dX2_setPoints_0 rfl (lv_at hl 0 rfl) ?_
  refine lv_iconst (v := 0) hx hb dX2_setPoints_1 (by decide) ?_
  refine va_put (D := (dC, dI)) (ci := 2) (v := .int (0 : Int32)) (ty := .int) (C := RX2) (T := TX2) (N := 16) hx hb hts hinX2 tyX2 tyX2_ok nmX2 hown hK hP hD hS 0 rfl rfl 0 (by decide) (hts (.fieldLink RX2 54 "TileHandModel" "thrown" "I") (by decide +kernel)) (fun _ h9 => h9) rfl (by decide +kernel) rfl rfl (Nat.le_of_ble_eq_true rfl) dX2_setPoints_2 (fun H locs hP hD hS => ?_)
  have hP : va_P (dC, dI) vwCl [(y, .inr (2, [.int (0 : Int32), .ref bH, .ref bS, .ref bL, .int mel, .ref bO, .ref bK, .ref bZ, .int sea, .int rnd, .int bas, .int lim, .ref bR, .ref bG, .ref bB, .ref bX]))] H := hP
  have hD : va_D A [(y, .inr (2, [.int (0 : Int32), .ref bH, .ref bS, .ref bL, .int mel, .ref bO, .ref bK, .ref bZ, .int sea, .int rnd, .int bas, .int lim, .ref bR, .ref bG, .ref bB, .ref bX]))] := hD
  refine lv_iload_n hx hb dX2_setPoints_5 rfl (lv_at hl 1 rfl) ?_
  refine lv_iconst (v := 1) hx hb dX2_setPoints_6 (by decide) ?_
  refine lv_bipush (v := 100) hx hb dX2_setPoints_7 (by decide) ?_
  have hPc := hP.sub (ws' := []) [] rfl
  have hDc := hD.sub (ws' := []) [] (by decide) rfl
  have hFc := va_free (wc := []) hD hS hA [] rfl
  refine va_calli (va_runS (As := [.int p0, .int (1 : Int32), .int (100 : Int32)]) (rest := []) ⟨hx, hb, hml, hown, hts⟩ (c_X2_isIn l dC dI cI cZ H.size p0 (1 : Int32) (100 : Int32) _ hw) (va_cwS 3 hts gX2_setPoints_X2_isIn rfl rfl rfl (by decide +kernel) ⟨Nat.le_of_ble_eq_true rfl, Nat.le_of_ble_eq_true rfl⟩) ⟨fun a U g mk q => by obtain ⟨q0, q1, qP, qK, qD⟩ := q; exact ⟨q0, q1, qP, va_K.moved (u := U) (U := U.calling g mk a) (Vm.Alike.refl U.vm) qK, qD⟩, fun U hU hW => ⟨rfl, by rw [hU], by rw [hU]; exact hPc, va_K.moved hW.alike hK, hDc.weaken (fun _ _ _ _ => trivial)⟩⟩ rfl rfl hl.1 rfl (lv_room (Nat.le_of_ble_eq_true rfl)) dX2_setPoints_9 ⟨Nat.le_of_ble_eq_true rfl, Nat.le_of_ble_eq_true rfl⟩) hS (fun q _ h => hFc q h) hFc (fun r1 u t H1 locs ht hvm hw hB hz1 hk1 hS => ?_)
  obtain ⟨hP1, -, hD1⟩ := hB
  have hw := And.intro hw trivial
  try dsimp only at hw
  have hw := hw.1
  rw [ht] at hP1
  obtain ⟨hP, hD⟩ := va_join (wr := [(y, .inr (2, [.int (0 : Int32), .ref bH, .ref bS, .ref bL, .int mel, .ref bO, .ref bK, .ref bZ, .int sea, .int rnd, .int bas, .int lim, .ref bR, .ref bG, .ref bB, .ref bX]))]) (w1 := []) hP hD [] [0] rfl rfl (by decide) (by decide) hk1 hFc hP1 hD1
  generalize H1 = H at hP hS ⊢
  have hP : va_P (dC, dI) vwCl [(y, .inr (2, [.int (0 : Int32), .ref bH, .ref bS, .ref bL, .int mel, .ref bO, .ref bK, .ref bZ, .int sea, .int rnd, .int bas, .int lim, .ref bR, .ref bG, .ref bB, .ref bX]))] H := hP
  have hD : va_D A [(y, .inr (2, [.int (0 : Int32), .ref bH, .ref bS, .ref bL, .int mel, .ref bO, .ref bK, .ref bZ, .int sea, .int rnd, .int bas, .int lim, .ref bR, .ref bG, .ref bB, .ref bX]))] := hD
  refine lv_if_eq (tgt := 25) hx hb dX2_setPoints_12 (by decide) (fun c2 => ?_) (fun c2 => ?_)
  · have hw := hw.1 c2
    exact L25 (0 : Int32) bas lim _ _ _ hw hP hD hS (lv_sub hl [0] rfl)
  · have hw := hw.2 c2
    refine lv_iload_n hx hb dX2_setPoints_15 rfl (lv_at hl 2 rfl) ?_
    refine lv_iconst (v := 1) hx hb dX2_setPoints_16 (by decide) ?_
    refine lv_bipush (v := 13) hx hb dX2_setPoints_17 (by decide) ?_
    have hPc := hP.sub (ws' := []) [] rfl
    have hDc := hD.sub (ws' := []) [] (by decide) rfl
    have hFc := va_free (wc := []) hD hS hA [] rfl
    refine va_calli (va_runS (As := [.int p1, .int (1 : Int32), .int (13 : Int32)]) (rest := []) ⟨hx, hb, hml, hown, hts⟩ (c_X2_isIn l dC dI cI cZ H.size p1 (1 : Int32) (13 : Int32) _ hw) (va_cwS 3 hts gX2_setPoints_X2_isIn rfl rfl rfl (by decide +kernel) ⟨Nat.le_of_ble_eq_true rfl, Nat.le_of_ble_eq_true rfl⟩) ⟨fun a U g mk q => by obtain ⟨q0, q1, qP, qK, qD⟩ := q; exact ⟨q0, q1, qP, va_K.moved (u := U) (U := U.calling g mk a) (Vm.Alike.refl U.vm) qK, qD⟩, fun U hU hW => ⟨rfl, by rw [hU], by rw [hU]; exact hPc, va_K.moved hW.alike hK, hDc.weaken (fun _ _ _ _ => trivial)⟩⟩ rfl rfl hl.1 rfl (lv_room (Nat.le_of_ble_eq_true rfl)) dX2_setPoints_19 ⟨Nat.le_of_ble_eq_true rfl, Nat.le_of_ble_eq_true rfl⟩) hS (fun q _ h => hFc q h) hFc (fun r5 u t H1 locs ht hvm hw hB hz1 hk1 hS => ?_)
    obtain ⟨hP1, -, hD1⟩ := hB
    have hw := And.intro hw trivial
    try dsimp only at hw
    have hw := hw.1
    rw [ht] at hP1
    obtain ⟨hP, hD⟩ := va_join (wr := [(y, .inr (2, [.int (0 : Int32), .ref bH, .ref bS, .ref bL, .int mel, .ref bO, .ref bK, .ref bZ, .int sea, .int rnd, .int bas, .int lim, .ref bR, .ref bG, .ref bB, .ref bX]))]) (w1 := []) hP hD [] [0] rfl rfl (by decide) (by decide) hk1 hFc hP1 hD1
    generalize H1 = H at hP hS ⊢
    have hP : va_P (dC, dI) vwCl [(y, .inr (2, [.int (0 : Int32), .ref bH, .ref bS, .ref bL, .int mel, .ref bO, .ref bK, .ref bZ, .int sea, .int rnd, .int bas, .int lim, .ref bR, .ref bG, .ref bB, .ref bX]))] H := hP
    have hD : va_D A [(y, .inr (2, [.int (0 : Int32), .ref bH, .ref bS, .ref bL, .int mel, .ref bO, .ref bK, .ref bZ, .int sea, .int rnd, .int bas, .int lim, .ref bR, .ref bG, .ref bB, .ref bX]))] := hD
    refine lv_if_ne (tgt := 31) hx hb dX2_setPoints_22 (by decide) (fun c6 => ?_) (fun c6 => ?_)
    · have hw := hw.2 c6
      refine lv_aload_n hx hb dX2_setPoints_31 rfl (lv_at hl 0 rfl) ?_
      refine va_get (D := (dC, dI)) (ci := 2) (v := .int lim) (C := RX2) (T := TX2) (N := 16) hx hb hts hinX2 hown hK hP 0 rfl rfl 11 (by decide) (hts (.fieldLink RX2 39 "TileHandModel" "limit" "I") (by decide +kernel)) (fun _ h9 => h9) rfl dX2_setPoints_32 ?_
      refine lv_istore_n (lv' := [(3, .int lim), (0, .ref y), (1, .int p0), (2, .int p1)]) hx hb dX2_setPoints_35 rfl hl (by decide) rfl (fun ls hl => ?_)
      refine lv_aload_n hx hb dX2_setPoints_36 rfl (lv_at hl 1 rfl) ?_
      refine lv_iload_n hx hb dX2_setPoints_37 rfl (lv_at hl 2 rfl) ?_
      refine va_put (D := (dC, dI)) (ci := 2) (v := .int p0) (ty := .int) (C := RX2) (T := TX2) (N := 16) hx hb hts hinX2 tyX2 tyX2_ok nmX2 hown hK hP hD hS 0 rfl rfl 10 (by decide) (hts (.fieldLink RX2 36 "TileHandModel" "base" "I") (by decide +kernel)) (fun _ h9 => h9) rfl (by decide +kernel) rfl rfl (Nat.le_of_ble_eq_true rfl) dX2_setPoints_38 (fun H locs hP hD hS => ?_)
      have hP : va_P (dC, dI) vwCl [(y, .inr (2, [.int (0 : Int32), .ref bH, .ref bS, .ref bL, .int mel, .ref bO, .ref bK, .ref bZ, .int sea, .int rnd, .int p0, .int lim, .ref bR, .ref bG, .ref bB, .ref bX]))] H := hP
      have hD : va_D A [(y, .inr (2, [.int (0 : Int32), .ref bH, .ref bS, .ref bL, .int mel, .ref bO, .ref bK, .ref bZ, .int sea, .int rnd, .int p0, .int lim, .ref bR, .ref bG, .ref bB, .ref bX]))] := hD
      refine lv_aload_n hx hb dX2_setPoints_41 rfl (lv_at hl 1 rfl) ?_
      refine lv_iload_n hx hb dX2_setPoints_42 rfl (lv_at hl 3 rfl) ?_
      refine va_put (D := (dC, dI)) (ci := 2) (v := .int p1) (ty := .int) (C := RX2) (T := TX2) (N := 16) hx hb hts hinX2 tyX2 tyX2_ok nmX2 hown hK hP hD hS 0 rfl rfl 11 (by decide) (hts (.fieldLink RX2 39 "TileHandModel" "limit" "I") (by decide +kernel)) (fun _ h9 => h9) rfl (by decide +kernel) rfl rfl (Nat.le_of_ble_eq_true rfl) dX2_setPoints_43 (fun H locs hP hD hS => ?_)
      have hP : va_P (dC, dI) vwCl [(y, .inr (2, [.int (0 : Int32), .ref bH, .ref bS, .ref bL, .int mel, .ref bO, .ref bK, .ref bZ, .int sea, .int rnd, .int p0, .int p1, .ref bR, .ref bG, .ref bB, .ref bX]))] H := hP
      have hD : va_D A [(y, .inr (2, [.int (0 : Int32), .ref bH, .ref bS, .ref bL, .int mel, .ref bO, .ref bK, .ref bZ, .int sea, .int rnd, .int p0, .int p1, .ref bR, .ref bG, .ref bB, .ref bX]))] := hD
      refine lv_iload_n hx hb dX2_setPoints_46 rfl (lv_at hl 0 rfl) ?_
      rw [← hQ9]
      exact W.iret (v := lim) hx hb hr (fun t ht hW => ⟨⟨lim, ((0 : Int32), p0, p1), rfl, hw, by rw [ht]; exact hP, va_K.moved hW.alike hK, hD⟩, hS.F ht⟩) hS.2.2 dX2_setPoints_47
    · have hw := hw.1 c6
      exact L25 (0 : Int32) bas lim _ _ _ hw hP hD hS (lv_sub hl [0] rfl)
