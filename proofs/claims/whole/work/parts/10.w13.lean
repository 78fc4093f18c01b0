def w_X2_areSevenPairs_b45 (post : Int32 → Prop) (mel : Int32) (hM : (Nat → Int32)) (v1 : Int32) : Prop := ((mel = 0 → (((v1 = (7 : Int32) → (w_X2_tiles hM (fun r4 => (((r4 = (14 : Int32) → (post (1 : Int32))) ∧ (¬ r4 = (14 : Int32) → (post (0 : Int32)))))))) ∧ (¬ v1 = (7 : Int32) → (post (0 : Int32)))))) ∧ (¬ mel = 0 → (post (0 : Int32))))

def w_X2_areSevenPairs_b37 (post : Int32 → Prop) (mel : Int32) (hM : (Nat → Int32)) (K13 : Int32 → Int32 → Int32 → Prop) (v3 : Int32) (v4 : Int32) (s2 : Int32) (s1 : Int32) : Prop := K13 (s1 + s2) v3 (v4 + 1)

def w_X2_areSevenPairs_b13 (post : Int32 → Prop) (mel : Int32) (hM : (Nat → Int32)) : Nat → Int32 → Int32 → Int32 → Prop
  | 0, _, _, _ => False
  | n + 1, v1, v3, v4 => ((v3 ≤ v4 → (w_X2_areSevenPairs_b45 post mel hM v1)) ∧ (¬ v3 ≤ v4 → (vp_in v4 34 ∧ ((((hM v4.toNatClampNeg) = (2 : Int32) → (w_X2_areSevenPairs_b37 post mel hM (w_X2_areSevenPairs_b13 post mel hM n) v3 v4 (1 : Int32) v1)) ∧ (¬ (hM v4.toNatClampNeg) = (2 : Int32) → (w_X2_areSevenPairs_b37 post mel hM (w_X2_areSevenPairs_b13 post mel hM n) v3 v4 (0 : Int32) v1)))))))

def w_X2_areSevenPairs (mel : Int32) (hM : (Nat → Int32)) (post : Int32 → Prop) : Prop := ∃ n9, w_X2_areSevenPairs_b13 post mel hM n9 (0 : Int32) (34 : Int32) (0 : Int32)

set_option maxHeartbeats 4000000 in
set_option maxRecDepth 100000 in
theorem c_X2_areSevenPairs (l : Launch) (dC : Nat → ClassId) (dI : Nat → Nat → Nat) (cI cZ : ClassId) (y : Nat) (bH : Nat) (bS : Nat) (bL : Nat) (bO : Nat) (bK : Nat) (bZ : Nat) (bR : Nat) (bG : Nat) (bB : Nat) (bX : Nat) (sz : Nat) (thr : Int32) (mel : Int32) (sea : Int32) (rnd : Int32) (bas : Int32) (lim : Int32) (hM : (Nat → Int32)) (post : Int32 → Prop) (hw : w_X2_areSevenPairs mel hM post) : Met l yX2_areSevenPairs wsX2_areSevenPairs ({ frames := 2, cells := 0, slots := 0, locals := 40 } : Room) (va_Pc [.ref y] (fun U => U.heap.size = sz ∧ va_P (dC, dI) vwCl [(y, .inr (2, [.int thr, .ref bH, .ref bS, .ref bL, .int mel, .ref bO, .ref bK, .ref bZ, .int sea, .int rnd, .int bas, .int lim, .ref bR, .ref bG, .ref bB, .ref bX])), (bH, .inl (cI, 34, .inl hM))] U.heap ∧ va_K (dC, dI) vwCl [(cI, .int), (cZ, .boolean)] U ∧ va_D (fun _ => True) [(y, .inr (2, [.int thr, .ref bH, .ref bS, .ref bL, .int mel, .ref bO, .ref bK, .ref bZ, .int sea, .int rnd, .int bas, .int lim, .ref bR, .ref bG, .ref bB, .ref bX])), (bH, .inl (cI, 34, .inl hM))])) (va_Qi (fun (r9 : Int32) (u9 : Unit) => post r9) (fun (u9 : Unit) (t9 : State) => va_P (dC, dI) vwCl [(y, .inr (2, [.int thr, .ref bH, .ref bS, .ref bL, .int mel, .ref bO, .ref bK, .ref bZ, .int sea, .int rnd, .int bas, .int lim, .ref bR, .ref bG, .ref bB, .ref bX])), (bH, .inl (cI, 34, .inl hM))] t9.heap ∧ va_K (dC, dI) vwCl [(cI, .int), (cZ, .boolean)] t9 ∧ va_D (va_A [(y, .inr (2, [.int thr, .ref bH, .ref bS, .ref bL, .int mel, .ref bO, .ref bK, .ref bZ, .int sea, .int rnd, .int bas, .int lim, .ref bR, .ref bG, .ref bB, .ref bX])), (bH, .inl (cI, 34, .inl hM))] sz) [(y, .inr (2, [.int thr, .ref bH, .ref bS, .ref bL, .int mel, .ref bO, .ref bK, .ref bZ, .int sea, .int rnd, .int bas, .int lim, .ref bR, .ref bG, .ref bB, .ref bX])), (bH, .inl (cI, 34, .inl hM))]) (va_A [(y, .inr (2, [.int thr, .ref bH, .ref bS, .ref bL, .int mel, .ref bO, .ref bK, .ref bZ, .int sea, .int rnd, .int bas, .int lim, .ref bR, .ref bG, .ref bB, .ref bX])), (bH, .inl (cI, 34, .inl hM))] sz)) 0 0 (va_A [(y, .inr (2, [.int thr, .ref bH, .ref bS, .ref bL, .int mel, .ref bO, .ref bK, .ref bZ, .int sea, .int rnd, .int bas, .int lim, .ref bR, .ref bG, .ref bB, .ref bX])), (bH, .inl (cI, 34, .inl hM))] sz) := by
  refine Met.ofW (cc := cX2_areSevenPairs) (maxL := 6) (ret := (some .boolean)) (by decide) rfl ?_
  intro p e s m args below meth c s₁ B hml hv
  obtain ⟨rfl, hsz, hP, hK, hD0⟩ := hv
  have hx := B.exec
  have hb := B.bytes
  have hr := B.returns
  have hts := atoms_spec (ws := wsX2_areSevenPairs) B.pre
  have hown : s.vm.findClass RX2 = some m.cls := findClass_of_methodNamed B.named
  have hlocks := B.notSynchronized
  have hinX2 : ∀ w ∈ u_ws RX2 TX2 16, w ∈ wsX2_areSevenPairs := by decide +kernel
  subst hsz
  have hD := hD0.self (sz := s.heap.size)
  generalize hAe : va_A [(y, .inr (2, [.int thr, .ref bH, .ref bS, .ref bL, .int mel, .ref bO, .ref bK, .ref bZ, .int sea, .int rnd, .int bas, .int lim, .ref bR, .ref bG, .ref bB, .ref bX])), (bH, .inl (cI, 34, .inl hM))] s.heap.size = A at hD ⊢
  have hA : ∀ q : Nat, s.heap.size ≤ q → A q := fun q h => by rw [← hAe]; exact Or.inr h
  have hS : va_S A s.heap s.heap [] := va_S.rf
  have hl := lv_entry ([.ref y]) (n := 6) (Nat.le_of_ble_eq_true rfl)
  rw [lg_entry_eq]
  generalize (lg_sl ([.ref y]) ++ List.replicate (6 - (lg_sl ([.ref y])).length) Slot.unset).toArray = ls at hl ⊢
  have hl : lv_has ls 6 [(0, .ref y)] := hl
  refine (?_ : ∀ Q9 : State → Prop, MQ below _ _ s _ _ _ = Q9 → W p l e ({ frames := 2, cells := 0, slots := 0, locals := 40 } : Room) s m _ below meth c s.heap [] 0 0 Q9 (F0 m 0 ls [])) _ rfl
  intro Q9 hQ9
  have hw : ∃ n9, w_X2_areSevenPairs_b13 post mel hM n9 (0 : Int32) (34 : Int32) (0 : Int32) := hw
  have L45 : ∀ (v1 : Int32) (H : Heap) (locs : List Loc) (ls : Array Slot), w_X2_areSevenPairs_b45 post mel hM v1 → va_P (dC, dI) vwCl [(y, .inr (2, [.int thr, .ref bH, .ref bS, .ref bL, .int mel, .ref bO, .ref bK, .ref bZ, .int sea, .int rnd, .int bas, .int lim, .ref bR, .ref bG, .ref bB, .ref bX])), (bH, .inl (cI, 34, .inl hM))] H → va_D A [(y, .inr (2, [.int thr, .ref bH, .ref bS, .ref bL, .int mel, .ref bO, .ref bK, .ref bZ, .int sea, .int rnd, .int bas, .int lim, .ref bR, .ref bG, .ref bB, .ref bX])), (bH, .inl (cI, 34, .inl hM))] → va_S A s.heap H locs → lv_has ls 6 [(0, .ref y), (1, .int v1)] → W p l e ({ frames := 2, cells := 0, slots := 0, locals := 40 } : Room) s m ([.ref y] : List Value).toArray below meth c H locs 0 0 Q9 (F0 m 45 ls []) := by
    intro v1 H locs ls hw hP hD hS hl
    refine lv_aload_n hx hb dX2_areSevenPairs_45 rfl (lv_at hl 0 rfl) ?_
    refine va_get (D := (dC, dI)) (ci := 2) (v := .int mel) (C := RX2) (T := TX2) (N := 16) hx hb hts hinX2 hown hK hP 0 rfl rfl 4 (by decide) (hts (.fieldLink RX2 69 "TileHandModel" "melds" "I") (by decide +kernel)) (fun _ h9 => h9) rfl dX2_areSevenPairs_46 ?_
    refine lv_if_ne (tgt := 71) hx hb dX2_areSevenPairs_49 (by decide) (fun c2 => ?_) (fun c2 => ?_)
    · have hw := hw.2 c2
      refine lv_iconst (v := 0) hx hb dX2_areSevenPairs_71 (by decide) ?_
      rw [← hQ9]
      exact W.zret (v := (0 : Int32)) hx hb hr rfl (fun t ht hW => ⟨⟨(0 : Int32), (), rfl, hw, by rw [ht]; exact hP, va_K.moved hW.alike hK, hD⟩, hS.F ht⟩) hS.2.2 dX2_areSevenPairs_72
    · have hw := hw.1 c2
      refine lv_iload_n hx hb dX2_areSevenPairs_52 rfl (lv_at hl 1 rfl) ?_
      refine lv_bipush (v := 7) hx hb dX2_areSevenPairs_53 (by decide) ?_
      refine lv_icmp_ne (tgt := 71) hx hb dX2_areSevenPairs_55 (by decide) (fun c3 => ?_) (fun c3 => ?_)
      · have hw := hw.2 c3
        refine lv_iconst (v := 0) hx hb dX2_areSevenPairs_71 (by decide) ?_
        rw [← hQ9]
        exact W.zret (v := (0 : Int32)) hx hb hr rfl (fun t ht hW => ⟨⟨(0 : Int32), (), rfl, hw, by rw [ht]; exact hP, va_K.moved hW.alike hK, hD⟩, hS.F ht⟩) hS.2.2 dX2_areSevenPairs_72
      · have hw := hw.1 c3
        refine lv_aload_n hx hb dX2_areSevenPairs_58 rfl (lv_at hl 0 rfl) ?_
        have hPc := hP.sub (ws' := [(y, .inr (2, [.int thr, .ref bH, .ref bS, .ref bL, .int mel, .ref bO, .ref bK, .ref bZ, .int sea, .int rnd, .int bas, .int lim, .ref bR, .ref bG, .ref bB, .ref bX])), (bH, .inl (cI, 34, .inl hM))]) [0, 1] rfl
        have hDc := hD.sub (ws' := [(y, .inr (2, [.int thr, .ref bH, .ref bS, .ref bL, .int mel, .ref bO, .ref bK, .ref bZ, .int sea, .int rnd, .int bas, .int lim, .ref bR, .ref bG, .ref bB, .ref bX])), (bH, .inl (cI, 34, .inl hM))]) [0, 1] (by decide) rfl
        have hFc := va_free (wc := [(y, .inr (2, [.int thr, .ref bH, .ref bS, .ref bL, .int mel, .ref bO, .ref bK, .ref bZ, .int sea, .int rnd, .int bas, .int lim, .ref bR, .ref bG, .ref bB, .ref bX])), (bH, .inl (cI, 34, .inl hM))]) hD hS hA [0, 1] rfl
        refine va_calli (va_runV (As := []) (rest := []) ⟨hx, hb, hml, hown, hts⟩ (c_X2_tiles l dC dI cI cZ y bH bS bL bO bK bZ bR bG bB bX H.size thr mel sea rnd bas lim hM _ hw) (cwV 0 hts gX2_areSevenPairs_X2_tiles rfl rfl rfl (by decide +kernel) ⟨Nat.le_of_ble_eq_true rfl, Nat.le_of_ble_eq_true rfl⟩) ⟨fun a U g mk q => by obtain ⟨q0, q1, qP, qK, qD⟩ := q; exact ⟨q0, q1, qP, va_K.moved (u := U) (U := U.calling g mk a) (Vm.Alike.refl U.vm) qK, qD⟩, va_recv hK hPc (ci := 2) (q0 := 0) rfl rfl, fun U hU hW => ⟨rfl, by rw [hU], by rw [hU]; exact hPc, va_K.moved hW.alike hK, hDc.weaken (fun _ _ _ _ => trivial)⟩⟩ rfl rfl hl.1 rfl (lv_room (Nat.le_of_ble_eq_true rfl)) dX2_areSevenPairs_59 ⟨Nat.le_of_ble_eq_true rfl, Nat.le_of_ble_eq_true rfl⟩) hS (fun q _ h => hFc q h) hFc (fun r4 u t H1 locs ht hvm hw hB hz1 hk1 hS => ?_)
        obtain ⟨hP1, -, hD1⟩ := hB
        have hw := And.intro hw trivial
        try dsimp only at hw
        have hw := hw.1
        rw [ht] at hP1
        obtain ⟨hP, hD⟩ := va_join (wr := []) (w1 := [(y, .inr (2, [.int thr, .ref bH, .ref bS, .ref bL, .int mel, .ref bO, .ref bK, .ref bZ, .int sea, .int rnd, .int bas, .int lim, .ref bR, .ref bG, .ref bB, .ref bX])), (bH, .inl (cI, 34, .inl hM))]) hP hD [0, 1] [] rfl rfl (by decide) (by decide) hk1 hFc hP1 hD1
        generalize H1 = H at hP hS ⊢
        have hP : va_P (dC, dI) vwCl [(y, .inr (2, [.int thr, .ref bH, .ref bS, .ref bL, .int mel, .ref bO, .ref bK, .ref bZ, .int sea, .int rnd, .int bas, .int lim, .ref bR, .ref bG, .ref bB, .ref bX])), (bH, .inl (cI, 34, .inl hM))] H := hP
        have hD : va_D A [(y, .inr (2, [.int thr, .ref bH, .ref bS, .ref bL, .int mel, .ref bO, .ref bK, .ref bZ, .int sea, .int rnd, .int bas, .int lim, .ref bR, .ref bG, .ref bB, .ref bX])), (bH, .inl (cI, 34, .inl hM))] := hD
        refine lv_bipush (v := 14) hx hb dX2_areSevenPairs_62 (by decide) ?_
        refine lv_icmp_ne (tgt := 71) hx hb dX2_areSevenPairs_64 (by decide) (fun c5 => ?_) (fun c5 => ?_)
        · have hw := hw.2 c5
          refine lv_iconst (v := 0) hx hb dX2_areSevenPairs_71 (by decide) ?_
          rw [← hQ9]
          exact W.zret (v := (0 : Int32)) hx hb hr rfl (fun t ht hW => ⟨⟨(0 : Int32), (), rfl, hw, by rw [ht]; exact hP, va_K.moved hW.alike hK, hD⟩, hS.F ht⟩) hS.2.2 dX2_areSevenPairs_72
        · have hw := hw.1 c5
          refine lv_iconst (v := 1) hx hb dX2_areSevenPairs_67 (by decide) ?_
          refine lv_goto (tgt := 72) hx hb dX2_areSevenPairs_68 (by decide) ?_
          rw [← hQ9]
          exact W.zret (v := (1 : Int32)) hx hb hr rfl (fun t ht hW => ⟨⟨(1 : Int32), (), rfl, hw, by rw [ht]; exact hP, va_K.moved hW.alike hK, hD⟩, hS.F ht⟩) hS.2.2 dX2_areSevenPairs_72
  have L37 : ∀ (K13 : Int32 → Int32 → Int32 → Prop) (hK13 : ∀ (v1 : Int32) (v3 : Int32) (v4 : Int32) (H : Heap) (locs : List Loc) (ls : Array Slot), K13 v1 v3 v4 → va_P (dC, dI) vwCl [(y, .inr (2, [.int thr, .ref bH, .ref bS, .ref bL, .int mel, .ref bO, .ref bK, .ref bZ, .int sea, .int rnd, .int bas, .int lim, .ref bR, .ref bG, .ref bB, .ref bX])), (bH, .inl (cI, 34, .inl hM))] H → va_D A [(y, .inr (2, [.int thr, .ref bH, .ref bS, .ref bL, .int mel, .ref bO, .ref bK, .ref bZ, .int sea, .int rnd, .int bas, .int lim, .ref bR, .ref bG, .ref bB, .ref bX])), (bH, .inl (cI, 34, .inl hM))] → va_S A s.heap H locs → lv_has ls 6 [(0, .ref y), (1, .int v1), (2, .ref bH), (3, .int v3), (4, .int v4)] → W p l e ({ frames := 2, cells := 0, slots := 0, locals := 40 } : Room) s m ([.ref y] : List Value).toArray below meth c H locs 0 0 Q9 (F0 m 13 ls [])), ∀ (v3 : Int32) (v4 : Int32) (s2 : Int32) (s1 : Int32) (H : Heap) (locs : List Loc) (ls : Array Slot), w_X2_areSevenPairs_b37 post mel hM K13 v3 v4 s2 s1 → va_P (dC, dI) vwCl [(y, .inr (2, [.int thr, .ref bH, .ref bS, .ref bL, .int mel, .ref bO, .ref bK, .ref bZ, .int sea, .int rnd, .int bas, .int lim, .ref bR, .ref bG, .ref bB, .ref bX])), (bH, .inl (cI, 34, .inl hM))] H → va_D A [(y, .inr (2, [.int thr, .ref bH, .ref bS, .ref bL, .int mel, .ref bO, .ref bK, .ref bZ, .int sea, .int rnd, .int bas, .int lim, .ref bR, .ref bG, .ref bB, .ref bX])), (bH, .inl (cI, 34, .inl hM))] → va_S A s.heap H locs → lv_has ls 6 [(0, .ref y), (2, .ref bH), (3, .int v3), (4, .int v4)] → W p l e ({ frames := 2, cells := 0, slots := 0, locals := 40 } : Room) s m ([.ref y] : List Value).toArray below meth c H locs 0 0 Q9 (F0 m 37 ls [.int s2, .int s1]) := by
    intro K13 hK13 v3 v4 s2 s1 H locs ls hw hP hD hS hl
    refine lv_iadd hx hb dX2_areSevenPairs_37 ?_
    refine lv_istore_n (lv' := [(1, .int (s1 + s2)), (0, .ref y), (2, .ref bH), (3, .int v3), (4, .int v4)]) hx hb dX2_areSevenPairs_38 rfl hl (by decide) rfl (fun ls hl => ?_)
    refine lv_iinc (v := v4 + 1) (lv' := [(4, .int (v4 + 1)), (1, .int (s1 + s2)), (0, .ref y), (2, .ref bH), (3, .int v3)]) hx hb dX2_areSevenPairs_39 hl (k := 4) rfl rfl (by decide) rfl (fun ls hl => ?_)
    refine lv_goto (tgt := 13) hx hb dX2_areSevenPairs_42 (by decide) ?_
    exact hK13 (s1 + s2) v3 (v4 + 1) _ _ _ hw hP hD hS (lv_sub hl [2, 1, 3, 4, 0] rfl)
  have L13 : ∀ (n : Nat), ∀ (v1 : Int32) (v3 : Int32) (v4 : Int32) (H : Heap) (locs : List Loc) (ls : Array Slot), w_X2_areSevenPairs_b13 post mel hM n v1 v3 v4 → va_P (dC, dI) vwCl [(y, .inr (2, [.int thr, .ref bH, .ref bS, .ref bL, .int mel, .ref bO, .ref bK, .ref bZ, .int sea, .int rnd, .int bas, .int lim, .ref bR, .ref bG, .ref bB, .ref bX])), (bH, .inl (cI, 34, .inl hM))] H → va_D A [(y, .inr (2, [.int thr, .ref bH, .ref bS, .ref bL, .int mel, .ref bO, .ref bK, .ref bZ, .int sea, .int rnd, .int bas, .int lim, .ref bR, .ref bG, .ref bB, .ref bX])), (bH, .inl (cI, 34, .inl hM))] → va_S A s.heap H locs → lv_has ls 6 [(0, .ref y), (1, .int v1), (2, .ref bH), (3, .int v3), (4, .int v4)] → W p l e ({ frames := 2, cells := 0, slots := 0, locals := 40 } : Room) s m ([.ref y] : List Value).toArray below meth c H locs 0 0 Q9 (F0 m 13 ls []) := by
    intro n
    induction n with
    | zero => intro v1 v3 v4 H locs ls hw _ _ _ _; exact False.elim hw
    | succ n ih =>
      intro v1 v3 v4 H locs ls hw hP hD hS hl
      refine lv_iload hx hb dX2_areSevenPairs_13 (lv_at hl 4 rfl) ?_
      refine lv_iload_n hx hb dX2_areSevenPairs_15 rfl (lv_at hl 3 rfl) ?_
      refine lv_icmp_ge (tgt := 45) hx hb dX2_areSevenPairs_16 (by decide) (fun c1 => ?_) (fun c1 => ?_)
      · have hw := hw.1 c1
        exact L45 v1 _ _ _ hw hP hD hS (lv_sub hl [0, 1] rfl)
      · have hw := hw.2 c1
        refine lv_aload_n hx hb dX2_areSevenPairs_19 rfl (lv_at hl 2 rfl) ?_
        refine lv_iload hx hb dX2_areSevenPairs_20 (lv_at hl 4 rfl) ?_
        obtain ⟨h6, hw⟩ := hw
        refine va_iald hx hb hK hP 1 0 rfl rfl h6 dX2_areSevenPairs_22 ?_
        refine lv_istore (lv' := [(5, .int (hM v4.toNatClampNeg)), (0, .ref y), (1, .int v1), (2, .ref bH), (3, .int v3), (4, .int v4)]) hx hb dX2_areSevenPairs_23 hl (by decide) rfl (fun ls hl => ?_)
        refine lv_iload_n hx hb dX2_areSevenPairs_25 rfl (lv_at hl 2 rfl) ?_
        refine lv_iload hx hb dX2_areSevenPairs_26 (lv_at hl 0 rfl) ?_
        refine lv_iconst (v := 2) hx hb dX2_areSevenPairs_28 (by decide) ?_
        refine lv_icmp_ne (tgt := 36) hx hb dX2_areSevenPairs_29 (by decide) (fun c7 => ?_) (fun c7 => ?_)
        · have hw := hw.2 c7
          refine lv_iconst (v := 0) hx hb dX2_areSevenPairs_36 (by decide) ?_
          exact L37 (w_X2_areSevenPairs_b13 post mel hM n) ih v3 v4 (0 : Int32) v1 _ _ _ hw hP hD hS (lv_sub hl [1, 3, 4, 5] rfl)
        · have hw := hw.1 c7
          refine lv_iconst (v := 1) hx hb dX2_areSevenPairs_32 (by decide) ?_
          refine lv_goto (tgt := 37) hx hb dX2_areSevenPairs_33 (by decide) ?_
          exact L37 (w_X2_areSevenPairs_b13 post mel hM n) ih v3 v4 (1 : Int32) v1 _ _ _ hw hP hD hS (lv_sub hl [1, 3, 4, 5] rfl)
  refine lv_iconst (v := 0) hx hb dX2_areSevenPairs_0 (by decide) ?_
  refine lv_istore_n (lv' := [(1, .int (0 : Int32)), (0, .ref y)]) hx hb dX2_areSevenPairs_1 rfl hl (by decide) rfl (fun ls hl => ?_)
  refine lv_aload_n hx hb dX2_areSevenPairs_2 rfl (lv_at hl 1 rfl) ?_
  refine va_get (D := (dC, dI)) (ci := 2) (v := .ref bH) (C := RX2) (T := TX2) (N := 16) hx hb hts hinX2 hown hK hP 0 rfl rfl 1 (by decide) (hts (.fieldLink RX2 9 "TileHandModel" "hand" "[I") (by decide +kernel)) (fun _ h9 => h9) rfl dX2_areSevenPairs_3 ?_
  refine lv_astore_n (lv' := [(2, .ref bH), (1, .int (0 : Int32)), (0, .ref y)]) hx hb dX2_areSevenPairs_6 rfl hl (by decide) rfl (fun ls hl => ?_)
  refine lv_aload_n hx hb dX2_areSevenPairs_7 rfl (lv_at hl 0 rfl) ?_
  refine va_alen (v := (34 : Int32)) hx hb hK hP 1 0 rfl rfl rfl dX2_areSevenPairs_8 ?_
  refine lv_istore_n (lv' := [(3, .int (34 : Int32)), (2, .ref bH), (1, .int (0 : Int32)), (0, .ref y)]) hx hb dX2_areSevenPairs_9 rfl hl (by decide) rfl (fun ls hl => ?_)
  refine lv_iconst (v := 0) hx hb dX2_areSevenPairs_10 (by decide) ?_
  refine lv_istore (lv' := [(4, .int (0 : Int32)), (3, .int (34 : Int32)), (2, .ref bH), (1, .int (0 : Int32)), (0, .ref y)]) hx hb dX2_areSevenPairs_11 hl (by decide) rfl (fun ls hl => ?_)
  obtain ⟨n9, hw⟩ := hw
  exact L13 n9 (0 : Int32) (34 : Int32) (0 : Int32) _ _ _ hw hP hD hS (lv_sub hl [4, 3, 2, 1, 0] rfl)

def w_X2_areOrphans_b51 (post : Int32 → Prop) (mel : Int32) (hM : (Nat → Int32)) (v1 : Int32) : Prop := ((mel = 0 → (((v1 = (13 : Int32) → (w_X2_tiles hM (fun r4 => (((r4 = (14 : Int32) → (post (1 : Int32))) ∧ (¬ r4 = (14 : Int32) → (post (0 : Int32)))))))) ∧ (¬ v1 = (13 : Int32) → (post (0 : Int32)))))) ∧ (¬ mel = 0 → (post (0 : Int32))))

def w_X2_areOrphans_b43 (post : Int32 → Prop) (mel : Int32) (hM : (Nat → Int32)) (K4 : Int32 → Int32 → Prop) (v2 : Int32) (s2 : Int32) (s1 : Int32) : Prop := K4 (s1 + s2) (v2 + 1)

def w_X2_areOrphans_b28 (post : Int32 → Prop) (mel : Int32) (hM : (Nat → Int32)) (K4 : Int32 → Int32 → Prop) (v1 : Int32) (v2 : Int32) : Prop := vp_in v2 34 ∧ ((((hM v2.toNatClampNeg) ≤ 0 → (w_X2_areOrphans_b43 post mel hM K4 v2 (0 : Int32) v1)) ∧ (¬ (hM v2.toNatClampNeg) ≤ 0 → (w_X2_areOrphans_b43 post mel hM K4 v2 (1 : Int32) v1))))

def w_X2_areOrphans_b4 (post : Int32 → Prop) (mel : Int32) (hM : (Nat → Int32)) : Nat → Int32 → Int32 → Prop
  | 0, _, _ => False
  | n + 1, v1, v2 => (((34 : Int32) ≤ v2 → (w_X2_areOrphans_b51 post mel hM v1)) ∧ (¬ (34 : Int32) ≤ v2 → (vp_in v2 34 ∧ ((((hM v2.toNatClampNeg) ≤ 0 → (w_X2_areOrphans_b28 post mel hM (w_X2_areOrphans_b4 post mel hM n) v1 v2)) ∧ (¬ (hM v2.toNatClampNeg) ≤ 0 → (w_X2_isOuter v2 (fun r10 => (((r10 = 0 → (post (0 : Int32))) ∧ (¬ r10 = 0 → (w_X2_areOrphans_b28 post mel hM (w_X2_areOrphans_b4 post mel hM n) v1 v2))))))))))))

def w_X2_areOrphans (mel : Int32) (hM : (Nat → Int32)) (post : Int32 → Prop) : Prop := ∃ n9, w_X2_areOrphans_b4 post mel hM n9 (0 : Int32) (0 : Int32)

set_option maxHeartbeats 4000000 in
set_option maxRecDepth 100000 in
theorem c_X2_areOrphans (l : Launch) (dC : Nat → ClassId) (dI : Nat → Nat → Nat) (cI cZ : ClassId) (y : Nat) (bH : Nat) (bS : Nat) (bL : Nat) (bO : Nat) (bK : Nat) (bZ : Nat) (bR : Nat) (bG : Nat) (bB : Nat) (bX : Nat) (sz : Nat) (thr : Int32) (mel : Int32) (sea : Int32) (rnd : Int32) (bas : Int32) (lim : Int32) (hM : (Nat → Int32)) (post : Int32 → Prop) (hw : w_X2_areOrphans mel hM post) : Met l yX2_areOrphans wsX2_areOrphans ({ frames := 3, cells := 0, slots := 0, locals := 60 } : Room) (va_Pc [.ref y] (fun U => U.heap.size = sz ∧ va_P (dC, dI) vwCl [(y, .inr (2, [.int thr, .ref bH, .ref bS, .ref bL, .int mel, .ref bO, .ref bK, .ref bZ, .int sea, .int rnd, .int bas, .int lim, .ref bR, .ref bG, .ref bB, .ref bX])), (bH, .inl (cI, 34, .inl hM))] U.heap ∧ va_K (dC, dI) vwCl [(cI, .int), (cZ, .boolean)] U ∧ va_D (fun _ => True) [(y, .inr (2, [.int thr, .ref bH, .ref bS, .ref bL, .int mel, .ref bO, .ref bK, .ref bZ, .int sea, .int rnd, .int bas, .int lim, .ref bR, .ref bG, .ref bB, .ref bX])), (bH, .inl (cI, 34, .inl hM))])) (va_Qi (fun (r9 : Int32) (u9 : Unit) => post r9) (fun (u9 : Unit) (t9 : State) => va_P (dC, dI) vwCl [(y, .inr (2, [.int thr, .ref bH, .ref bS, .ref bL, .int mel, .ref bO, .ref bK, .ref bZ, .int sea, .int rnd, .int bas, .int lim, .ref bR, .ref bG, .ref bB, .ref bX])), (bH, .inl (cI, 34, .inl hM))] t9.heap ∧ va_K (dC, dI) vwCl [(cI, .int), (cZ, .boolean)] t9 ∧ va_D (va_A [(y, .inr (2, [.int thr, .ref bH, .ref bS, .ref bL, .int mel, .ref bO, .ref bK, .ref bZ, .int sea, .int rnd, .int bas, .int lim, .ref bR, .ref bG, .ref bB, .ref bX])), (bH, .inl (cI, 34, .inl hM))] sz) [(y, .inr (2, [.int thr, .ref bH, .ref bS, .ref bL, .int mel, .ref bO, .ref bK, .ref bZ, .int sea, .int rnd, .int bas, .int lim, .ref bR, .ref bG, .ref bB, .ref bX])), (bH, .inl (cI, 34, .inl hM))]) (va_A [(y, .inr (2, [.int thr, .ref bH, .ref bS, .ref bL, .int mel, .ref bO, .ref bK, .ref bZ, .int sea, .int rnd, .int bas, .int lim, .ref bR, .ref bG, .ref bB, .ref bX])), (bH, .inl (cI, 34, .inl hM))] sz)) 0 0 (va_A [(y, .inr (2, [.int thr, .ref bH, .ref bS, .ref bL, .int mel, .ref bO, .ref bK, .ref bZ, .int sea, .int rnd, .int bas, .int lim, .ref bR, .ref bG, .ref bB, .ref bX])), (bH, .inl (cI, 34, .inl hM))] sz) := by
  refine Met.ofW (cc := cX2_areOrphans) (maxL := 3) (ret := (some .boolean)) (by decide) rfl ?_
  intro p e s m args below meth c s₁ B hml hv
  obtain ⟨rfl, hsz, hP, hK, hD0⟩ := hv
  have hx := B.exec
  have hb := B.bytes
  have hr := B.returns
  have hts := atoms_spec (ws := wsX2_areOrphans) B.pre
  have hown : s.vm.findClass RX2 = some m.cls := findClass_of_methodNamed B.named
  have hlocks := B.notSynchronized
  have hinX2 : ∀ w ∈ u_ws RX2 TX2 16, w ∈ wsX2_areOrphans := by decide +kernel
  subst hsz
  have hD := hD0.self (sz := s.heap.size)
  generalize hAe : va_A [(y, .inr (2, [.int thr, .ref bH, .ref bS, .ref bL, .int mel, .ref bO, .ref bK, .ref bZ, .int sea, .int rnd, .int bas, .int lim, .ref bR, .ref bG, .ref bB, .ref bX])), (bH, .inl (cI, 34, .inl hM))] s.heap.size = A at hD ⊢
  have hA : ∀ q : Nat, s.heap.size ≤ q → A q := fun q h => by rw [← hAe]; exact Or.inr h
  have hS : va_S A s.heap s.heap [] := va_S.rf
  have hl := lv_entry ([.ref y]) (n := 3) (Nat.le_of_ble_eq_true rfl)
  rw [lg_entry_eq]
  generalize (lg_sl ([.ref y]) ++ List.replicate (3 - (lg_sl ([.ref y])).length) Slot.unset).toArray = ls at hl ⊢
  have hl : lv_has ls 3 [(0, .ref y)] := hl
  refine (?_ : ∀ Q9 : State → Prop, MQ below _ _ s _ _ _ = Q9 → W p l e ({ frames := 3, cells := 0, slots := 0, locals := 60 } : Room) s m _ below meth c s.heap [] 0 0 Q9 (F0 m 0 ls [])) _ rfl
  intro Q9 hQ9
  have hw : ∃ n9, w_X2_areOrphans_b4 post mel hM n9 (0 : Int32) (0 : Int32) := hw
  have L51 : ∀ (v1 : Int32) (H : Heap) (locs : List Loc) (ls : Array Slot), w_X2_areOrphans_b51 post mel hM v1 → va_P (dC, dI) vwCl [(y, .inr (2, [.int thr, .ref bH, .ref bS, .ref bL, .int mel, .ref bO, .ref bK, .ref bZ, .int sea, .int rnd, .int bas, .int lim, .ref bR, .ref bG, .ref bB, .ref bX])), (bH, .inl (cI, 34, .inl hM))] H → va_D A [(y, .inr (2, [.int thr, .ref bH, .ref bS, .ref bL, .int mel, .ref bO, .ref bK, .ref bZ, .int sea, .int rnd, .int bas, .int lim, .ref bR, .ref bG, .ref bB, .ref bX])), (bH, .inl (cI, 34, .inl hM))] → va_S A s.heap H locs → lv_has ls 3 [(0, .ref y), (1, .int v1)] → W p l e ({ frames := 3, cells := 0, slots := 0, locals := 60 } : Room) s m ([.ref y] : List Value).toArray below meth c H locs 0 0 Q9 (F0 m 51 ls []) := by
    intro v1 H locs ls hw hP hD hS hl
    refine lv_aload_n hx hb dX2_areOrphans_51 rfl (lv_at hl 0 rfl) ?_
    refine va_get (D := (dC, dI)) (ci := 2) (v := .int mel) (C := RX2) (T := TX2) (N := 16) hx hb hts hinX2 hown hK hP 0 rfl rfl 4 (by decide) (hts (.fieldLink RX2 69 "TileHandModel" "melds" "I") (by decide +kernel)) (fun _ h9 => h9) rfl dX2_areOrphans_52 ?_
    refine lv_if_ne (tgt := 77) hx hb dX2_areOrphans_55 (by decide) (fun c2 => ?_) (fun c2 => ?_)
    · have hw := hw.2 c2
      refine lv_iconst (v := 0) hx hb dX2_areOrphans_77 (by decide) ?_
      rw [← hQ9]
      exact W.zret (v := (0 : Int32)) hx hb hr rfl (fun t ht hW => ⟨⟨(0 : Int32), (), rfl, hw, by rw [ht]; exact hP, va_K.moved hW.alike hK, hD⟩, hS.F ht⟩) hS.2.2 dX2_areOrphans_78
    · have hw := hw.1 c2
      refine lv_iload_n hx hb dX2_areOrphans_58 rfl (lv_at hl 1 rfl) ?_
      refine lv_bipush (v := 13) hx hb dX2_areOrphans_59 (by decide) ?_
      refine lv_icmp_ne (tgt := 77) hx hb dX2_areOrphans_61 (by decide) (fun c3 => ?_) (fun c3 => ?_)
      · have hw := hw.2 c3
        refine lv_iconst (v := 0) hx hb dX2_areOrphans_77 (by decide) ?_
        rw [← hQ9]
        exact W.zret (v := (0 : Int32)) hx hb hr rfl (fun t ht hW => ⟨⟨(0 : Int32), (), rfl, hw, by rw [ht]; exact hP, va_K.moved hW.alike hK, hD⟩, hS.F ht⟩) hS.2.2 dX2_areOrphans_78
      · have hw := hw.1 c3
        refine lv_aload_n hx hb dX2_areOrphans_64 rfl (lv_at hl 0 rfl) ?_
        have hPc := hP.sub (ws' := [(y, .inr (2, [.int thr, .ref bH, .ref bS, .ref bL, .int mel, .ref bO, .ref bK, .ref bZ, .int sea, .int rnd, .int bas, .int lim, .ref bR, .ref bG, .ref bB, .ref bX])), (bH, .inl (cI, 34, .inl hM))]) [0, 1] rfl
        have hDc := hD.sub (ws' := [(y, .inr (2, [.int thr, .ref bH, .ref bS, .ref bL, .int mel, .ref bO, .ref bK, .ref bZ, .int sea, .int rnd, .int bas, .int lim, .ref bR, .ref bG, .ref bB, .ref bX])), (bH, .inl (cI, 34, .inl hM))]) [0, 1] (by decide) rfl
        have hFc := va_free (wc := [(y, .inr (2, [.int thr, .ref bH, .ref bS, .ref bL, .int mel, .ref bO, .ref bK, .ref bZ, .int sea, .int rnd, .int bas, .int lim, .ref bR, .ref bG, .ref bB, .ref bX])), (bH, .inl (cI, 34, .inl hM))]) hD hS hA [0, 1] rfl
        refine va_calli (va_runV (As := []) (rest := []) ⟨hx, hb, hml, hown, hts⟩ (c_X2_tiles l dC dI cI cZ y bH bS bL bO bK bZ bR bG bB bX H.size thr mel sea rnd bas lim hM _ hw) (cwV 0 hts gX2_areOrphans_X2_tiles rfl rfl rfl (by decide +kernel) ⟨Nat.le_of_ble_eq_true rfl, Nat.le_of_ble_eq_true rfl⟩) ⟨fun a U g mk q => by obtain ⟨q0, q1, qP, qK, qD⟩ := q; exact ⟨q0, q1, qP, va_K.moved (u := U) (U := U.calling g mk a) (Vm.Alike.refl U.vm) qK, qD⟩, va_recv hK hPc (ci := 2) (q0 := 0) rfl rfl, fun U hU hW => ⟨rfl, by rw [hU], by rw [hU]; exact hPc, va_K.moved hW.alike hK, hDc.weaken (fun _ _ _ _ => trivial)⟩⟩ rfl rfl hl.1 rfl (lv_room (Nat.le_of_ble_eq_true rfl)) dX2_areOrphans_65 ⟨Nat.le_of_ble_eq_true rfl, Nat.le_of_ble_eq_true rfl⟩) hS (fun q _ h => hFc q h) hFc (fun r4 u t H1 locs ht hvm hw hB hz1 hk1 hS => ?_)
        obtain ⟨hP1, -, hD1⟩ := hB
        have hw := And.intro hw trivial
        try dsimp only at hw
        have hw := hw.1
        rw [ht] at hP1
        obtain ⟨hP, hD⟩ := va_join (wr := []) (w1 := [(y, .inr (2, [.int thr, .ref bH, .ref bS, .ref bL, .int mel, .ref bO, .ref bK, .ref bZ, .int sea, .int rnd, .int bas, .int lim, .ref bR, .ref bG, .ref bB, .ref bX])), (bH, .inl (cI, 34, .inl hM))]) hP hD [0, 1] [] rfl rfl (by decide) (by decide) hk1 hFc hP1 hD1
        generalize H1 = H at hP hS ⊢
        have hP : va_P (dC, dI) vwCl [(y, .inr (2, [.int thr, .ref bH, .ref bS, .ref bL, .int mel, .ref bO, .ref bK, .ref bZ, .int sea, .int rnd, .int bas, .int lim, .ref bR, .ref bG, .ref bB, .ref bX])), (bH, .inl (cI, 34, .inl hM))] H := hP
        have hD : va_D A [(y, .inr (2, [.int thr, .ref bH, .ref bS, .ref bL, .int mel, .ref bO, .ref bK, .ref bZ, .int sea, .int rnd, .int bas, .int lim, .ref bR, .ref bG, .ref bB, .ref bX])), (bH, .inl (cI, 34, .inl hM))] := hD
        refine lv_bipush (v := 14) hx hb dX2_areOrphans_68 (by decide) ?_
        refine lv_icmp_ne (tgt := 77) hx hb dX2_areOrphans_70 (by decide) (fun c5 => ?_) (fun c5 => ?_)
        · have hw := hw.2 c5
          refine lv_iconst (v := 0) hx hb dX2_areOrphans_77 (by decide) ?_
          rw [← hQ9]
          exact W.zret (v := (0 : Int32)) hx hb hr rfl (fun t ht hW => ⟨⟨(0 : Int32), (), rfl, hw, by rw [ht]; exact hP, va_K.moved hW.alike hK, hD⟩, hS.F ht⟩) hS.2.2 dX2_areOrphans_78
        · have hw := hw.1 c5
          refine lv_iconst (v := 1) hx hb dX2_areOrphans_73 (by decide) ?_
          refine lv_goto (tgt := 78) hx hb dX2_areOrphans_74 (by decide) ?_
          rw [← hQ9]
          exact W.zret (v := (1 : Int32)) hx hb hr rfl (fun t ht hW => ⟨⟨(1 : Int32), (), rfl, hw, by rw [ht]; exact hP, va_K.moved hW.alike hK, hD⟩, hS.F ht⟩) hS.2.2 dX2_areOrphans_78
  have L43 : ∀ (K4 : Int32 → Int32 → Prop) (hK4 : ∀ (v1 : Int32) (v2 : Int32) (H : Heap) (locs : List Loc) (ls : Array Slot), K4 v1 v2 → va_P (dC, dI) vwCl [(y, .inr (2, [.int thr, .ref bH, .ref bS, .ref bL, .int mel, .ref bO, .ref bK, .ref bZ, .int sea, .int rnd, .int bas, .int lim, .ref bR, .ref bG, .ref bB, .ref bX])), (bH, .inl (cI, 34, .inl hM))] H → va_D A [(y, .inr (2, [.int thr, .ref bH, .ref bS, .ref bL, .int mel, .ref bO, .ref bK, .ref bZ, .int sea, .int rnd, .int bas, .int lim, .ref bR, .ref bG, .ref bB, .ref bX])), (bH, .inl (cI, 34, .inl hM))] → va_S A s.heap H locs → lv_has ls 3 [(0, .ref y), (1, .int v1), (2, .int v2)] → W p l e ({ frames := 3, cells := 0, slots := 0, locals := 60 } : Room) s m ([.ref y] : List Value).toArray below meth c H locs 0 0 Q9 (F0 m 4 ls [])), ∀ (v2 : Int32) (s2 : Int32) (s1 : Int32) (H : Heap) (locs : List Loc) (ls : Array Slot), w_X2_areOrphans_b43 post mel hM K4 v2 s2 s1 → va_P (dC, dI) vwCl [(y, .inr (2, [.int thr, .ref bH, .ref bS, .ref bL, .int mel, .ref bO, .ref bK, .ref bZ, .int sea, .int rnd, .int bas, .int lim, .ref bR, .ref bG, .ref bB, .ref bX])), (bH, .inl (cI, 34, .inl hM))] H → va_D A [(y, .inr (2, [.int thr, .ref bH, .ref bS, .ref bL, .int mel, .ref bO, .ref bK, .ref bZ, .int sea, .int rnd, .int bas, .int lim, .ref bR, .ref bG, .ref bB, .ref bX])), (bH, .inl (cI, 34, .inl hM))] → va_S A s.heap H locs → lv_has ls 3 [(0, .ref y), (2, .int v2)] → W p l e ({ frames := 3, cells := 0, slots := 0, locals := 60 } : Room) s m ([.ref y] : List Value).toArray below meth c H locs 0 0 Q9 (F0 m 43 ls [.int s2, .int s1]) := by
    intro K4 hK4 v2 s2 s1 H locs ls hw hP hD hS hl
    refine lv_iadd hx hb dX2_areOrphans_43 ?_
    refine lv_istore_n (lv' := [(1, .int (s1 + s2)), (0, .ref y), (2, .int v2)]) hx hb dX2_areOrphans_44 rfl hl (by decide) rfl (fun ls hl => ?_)
    refine lv_iinc (v := v2 + 1) (lv' := [(2, .int (v2 + 1)), (1, .int (s1 + s2)), (0, .ref y)]) hx hb dX2_areOrphans_45 hl (k := 2) rfl rfl (by decide) rfl (fun ls hl => ?_)
    refine lv_goto (tgt := 4) hx hb dX2_areOrphans_48 (by decide) ?_
    exact hK4 (s1 + s2) (v2 + 1) _ _ _ hw hP hD hS (lv_sub hl [2, 1, 0] rfl)
  have L28 : ∀ (K4 : Int32 → Int32 → Prop) (hK4 : ∀ (v1 : Int32) (v2 : Int32) (H : Heap) (locs : List Loc) (ls : Array Slot), K4 v1 v2 → va_P (dC, dI) vwCl [(y, .inr (2, [.int thr, .ref bH, .ref bS, .ref bL, .int mel, .ref bO, .ref bK, .ref bZ, .int sea, .int rnd, .int bas, .int lim, .ref bR, .ref bG, .ref bB, .ref bX])), (bH, .inl (cI, 34, .inl hM))] H → va_D A [(y, .inr (2, [.int thr, .ref bH, .ref bS, .ref bL, .int mel, .ref bO, .ref bK, .ref bZ, .int sea, .int rnd, .int bas, .int lim, .ref bR, .ref bG, .ref bB, .ref bX])), (bH, .inl (cI, 34, .inl hM))] → va_S A s.heap H locs → lv_has ls 3 [(0, .ref y), (1, .int v1), (2, .int v2)] → W p l e ({ frames := 3, cells := 0, slots := 0, locals := 60 } : Room) s m ([.ref y] : List Value).toArray below meth c H locs 0 0 Q9 (F0 m 4 ls [])), ∀ (v1 : Int32) (v2 : Int32) (H : Heap) (locs : List Loc) (ls : Array Slot), w_X2_areOrphans_b28 post mel hM K4 v1 v2 → va_P (dC, dI) vwCl [(y, .inr (2, [.int thr, .ref bH, .ref bS, .ref bL, .int mel, .ref bO, .ref bK, .ref bZ, .int sea, .int rnd, .int bas, .int lim, .ref bR, .ref bG, .ref bB, .ref bX])), (bH, .inl (cI, 34, .inl hM))] H → va_D A [(y, .inr (2, [.int thr, .ref bH, .ref bS, .ref bL, .int mel, .ref bO, .ref bK, .ref bZ, .int sea, .int rnd, .int bas, .int lim, .ref bR, .ref bG, .ref bB, .ref bX])), (bH, .inl (cI, 34, .inl hM))] → va_S A s.heap H locs → lv_has ls 3 [(0, .ref y), (1, .int v1), (2, .int v2)] → W p l e ({ frames := 3, cells := 0, slots := 0, locals := 60 } : Room) s m ([.ref y] : List Value).toArray below meth c H locs 0 0 Q9 (F0 m 28 ls []) := by
    intro K4 hK4 v1 v2 H locs ls hw hP hD hS hl
    refine lv_iload_n hx hb dX2_areOrphans_28 rfl (lv_at hl 1 rfl) ?_
    refine lv_aload_n hx hb dX2_areOrphans_29 rfl (lv_at hl 0 rfl) ?_
    refine va_get (D := (dC, dI)) (ci := 2) (v := .ref bH) (C := RX2) (T := TX2) (N := 16) hx hb hts hinX2 hown hK hP 0 rfl rfl 1 (by decide) (hts (.fieldLink RX2 9 "TileHandModel" "hand" "[I") (by decide +kernel)) (fun _ h9 => h9) rfl dX2_areOrphans_30 ?_
    refine lv_iload_n hx hb dX2_areOrphans_33 rfl (lv_at hl 2 rfl) ?_
    obtain ⟨h8, hw⟩ := hw
    refine va_iald hx hb hK hP 1 0 rfl rfl h8 dX2_areOrphans_34 ?_
    refine lv_if_le (tgt := 42) hx hb dX2_areOrphans_35 (by decide) (fun c9 => ?_) (fun c9 => ?_)
    · have hw := hw.1 c9
      refine lv_iconst (v := 0) hx hb dX2_areOrphans_42 (by decide) ?_
      exact L43 K4 hK4 v2 (0 : Int32) v1 _ _ _ hw hP hD hS (lv_sub hl [0, 2] rfl)
    · have hw := hw.2 c9
      refine lv_iconst (v := 1) hx hb dX2_areOrphans_38 (by decide) ?_
      refine lv_goto (tgt := 43) hx hb dX2_areOrphans_39 (by decide) ?_
      exact L43 K4 hK4 v2 (1 : Int32) v1 _ _ _ hw hP hD hS (lv_sub hl [0, 2] rfl)
  have L4 : ∀ (n : Nat), ∀ (v1 : Int32) (v2 : Int32) (H : Heap) (locs : List Loc) (ls : Array Slot), w_X2_areOrphans_b4 post mel hM n v1 v2 → va_P (dC, dI) vwCl [(y, .inr (2, [.int thr, .ref bH, .ref bS, .ref bL, .int mel, .ref bO, .ref bK, .ref bZ, .int sea, .int rnd, .int bas, .int lim, .ref bR, .ref bG, .ref bB, .ref bX])), (bH, .inl (cI, 34, .inl hM))] H → va_D A [(y, .inr (2, [.int thr, .ref bH, .ref bS, .ref bL, .int mel, .ref bO, .ref bK, .ref bZ, .int sea, .int rnd, .int bas, .int lim, .ref bR, .ref bG, .ref bB, .ref bX])), (bH, .inl (cI, 34, .inl hM))] → va_S A s.heap H locs → lv_has ls 3 [(0, .ref y), (1, .int v1), (2, .int v2)] → W p l e ({ frames := 3, cells := 0, slots := 0, locals := 60 } : Room) s m ([.ref y] : List Value).toArray below meth c H locs 0 0 Q9 (F0 m 4 ls []) := by
    intro n
    induction n with
    | zero => intro v1 v2 H locs ls hw _ _ _ _; exact False.elim hw
    | succ n ih =>
      intro v1 v2 H locs ls hw hP hD hS hl
      refine lv_iload_n hx hb dX2_areOrphans_4 rfl (lv_at hl 2 rfl) ?_
      refine lv_bipush (v := 34) hx hb dX2_areOrphans_5 (by decide) ?_
      refine lv_icmp_ge (tgt := 51) hx hb dX2_areOrphans_7 (by decide) (fun c1 => ?_) (fun c1 => ?_)
      · have hw := hw.1 c1
        exact L51 v1 _ _ _ hw hP hD hS (lv_sub hl [0, 1] rfl)
      · have hw := hw.2 c1
        refine lv_aload_n hx hb dX2_areOrphans_10 rfl (lv_at hl 0 rfl) ?_
        refine va_get (D := (dC, dI)) (ci := 2) (v := .ref bH) (C := RX2) (T := TX2) (N := 16) hx hb hts hinX2 hown hK hP 0 rfl rfl 1 (by decide) (hts (.fieldLink RX2 9 "TileHandModel" "hand" "[I") (by decide +kernel)) (fun _ h9 => h9) rfl dX2_areOrphans_11 ?_
        refine lv_iload_n hx hb dX2_areOrphans_14 rfl (lv_at hl 2 rfl) ?_
        obtain ⟨h6, hw⟩ := hw
        refine va_iald hx hb hK hP 1 0 rfl rfl h6 dX2_areOrphans_15 ?_
        refine lv_if_le (tgt := 28) hx hb dX2_areOrphans_16 (by decide) (fun c7 => ?_) (fun c7 => ?_)
        · have hw := hw.1 c7
          exact L28 (w_X2_areOrphans_b4 post mel hM n) ih v1 v2 _ _ _ hw hP hD hS (lv_sub hl [0, 1, 2] rfl)
        · have hw := hw.2 c7
          refine lv_iload_n hx hb dX2_areOrphans_19 rfl (lv_at hl 2 rfl) ?_
          have hPc := hP.sub (ws' := []) [] rfl
          have hDc := hD.sub (ws' := []) [] (by decide) rfl
          have hFc := va_free (wc := []) hD hS hA [] rfl
          refine va_calli (va_runS (As := [.int v2]) (rest := []) ⟨hx, hb, hml, hown, hts⟩ (c_X2_isOuter l dC dI cI cZ H.size v2 _ hw) (va_cwS 1 hts gX2_areOrphans_X2_isOuter rfl rfl rfl (by decide +kernel) ⟨Nat.le_of_ble_eq_true rfl, Nat.le_of_ble_eq_true rfl⟩) ⟨fun a U g mk q => by obtain ⟨q0, q1, qP, qK, qD⟩ := q; exact ⟨q0, q1, qP, va_K.moved (u := U) (U := U.calling g mk a) (Vm.Alike.refl U.vm) qK, qD⟩, fun U hU hW => ⟨rfl, by rw [hU], by rw [hU]; exact hPc, va_K.moved hW.alike hK, hDc.weaken (fun _ _ _ _ => trivial)⟩⟩ rfl rfl hl.1 rfl (lv_room (Nat.le_of_ble_eq_true rfl)) dX2_areOrphans_20 ⟨Nat.le_of_ble_eq_true rfl, Nat.le_of_ble_eq_true rfl⟩) hS (fun q _ h => hFc q h) hFc (fun r10 u t H1 locs ht hvm hw hB hz1 hk1 hS => ?_)
          obtain ⟨hP1, -, hD1⟩ := hB
          have hw := And.intro hw trivial
          try dsimp only at hw
          have hw := hw.1
          rw [ht] at hP1
          obtain ⟨hP, hD⟩ := va_join (wr := [(y, .inr (2, [.int thr, .ref bH, .ref bS, .ref bL, .int mel, .ref bO, .ref bK, .ref bZ, .int sea, .int rnd, .int bas, .int lim, .ref bR, .ref bG, .ref bB, .ref bX])), (bH, .inl (cI, 34, .inl hM))]) (w1 := []) hP hD [] [0, 1] rfl rfl (by decide) (by decide) hk1 hFc hP1 hD1
          generalize H1 = H at hP hS ⊢
          have hP : va_P (dC, dI) vwCl [(y, .inr (2, [.int thr, .ref bH, .ref bS, .ref bL, .int mel, .ref bO, .ref bK, .ref bZ, .int sea, .int rnd, .int bas, .int lim, .ref bR, .ref bG, .ref bB, .ref bX])), (bH, .inl (cI, 34, .inl hM))] H := hP
          have hD : va_D A [(y, .inr (2, [.int thr, .ref bH, .ref bS, .ref bL, .int mel, .ref bO, .ref bK, .ref bZ, .int sea, .int rnd, .int bas, .int lim, .ref bR, .ref bG, .ref bB, .ref bX])), (bH, .inl (cI, 34, .inl hM))] := hD
          refine lv_if_ne (tgt := 28) hx hb dX2_areOrphans_23 (by decide) (fun c11 => ?_) (fun c11 => ?_)
          · have hw := hw.2 c11
            exact L28 (w_X2_areOrphans_b4 post mel hM n) ih v1 v2 _ _ _ hw hP hD hS (lv_sub hl [0, 1, 2] rfl)
          · have hw := hw.1 c11
            refine lv_iconst (v := 0) hx hb dX2_areOrphans_26 (by decide) ?_
            rw [← hQ9]
            exact W.zret (v := (0 : Int32)) hx hb hr rfl (fun t ht hW => ⟨⟨(0 : Int32), (), rfl, hw, by rw [ht]; exact hP, va_K.moved hW.alike hK, hD⟩, hS.F ht⟩) hS.2.2 dX2_areOrphans_27
  refine lv_iconst (v := 0) hx hb dX2_areOrphans_0 (by decide) ?_
  refine lv_istore_n (lv' := [(1, .int (0 : Int32)), (0, .ref y)]) hx hb dX2_areOrphans_1 rfl hl (by decide) rfl (fun ls hl => ?_)
  refine lv_iconst (v := 0) hx hb dX2_areOrphans_2 (by decide) ?_
  refine lv_istore_n (lv' := [(2, .int (0 : Int32)), (1, .int (0 : Int32)), (0, .ref y)]) hx hb dX2_areOrphans_3 rfl hl (by decide) rfl (fun ls hl => ?_)
  obtain ⟨n9, hw⟩ := hw
  exact L4 n9 (0 : Int32) (0 : Int32) _ _ _ hw hP hD hS (lv_sub hl [2, 1, 0] rfl)

def w_X2_completes_b70 (post : Int32 → (Nat → Int32) → (Nat → Int32) → Prop) (mel : Int32) (hM : (Nat → Int32)) (K29 : Int32 → (Nat → Int32) → (Nat → Int32) → Prop) (v1 : Int32) (rM : (Nat → Int32)) (gM : (Nat → Int32)) : Prop := K29 (v1 + 1) rM gM

def w_X2_completes_b37 (post : Int32 → (Nat → Int32) → (Nat → Int32) → Prop) (mel : Int32) (hM : (Nat → Int32)) (K29 : Int32 → (Nat → Int32) → (Nat → Int32) → Prop) : Nat → Int32 → Int32 → (Nat → Int32) → (Nat → Int32) → Prop
  | 0, _, _, _, _ => False
  | n + 1, v1, v2, rM, gM => (((16 : Int32) ≤ v2 → (w_X2_completes_b70 post mel hM K29 v1 rM gM)) ∧ (¬ (16 : Int32) ≤ v2 → (vp_in v1 34 ∧ ((((hM v1.toNatClampNeg) ≤ (1 : Int32) → (w_X2_completes_b70 post mel hM K29 v1 rM gM)) ∧ (¬ (hM v1.toNatClampNeg) ≤ (1 : Int32) → (w_X2_cut mel hM rM gM v1 v2 (fun r11 rM_12 gM_13 => (((r11 = 0 → (w_X2_completes_b37 post mel hM K29 n v1 (v2 + 1) rM_12 gM_13)) ∧ (¬ r11 = 0 → (post (1 : Int32) rM_12 gM_13))))))))))))

def w_X2_completes_b29 (post : Int32 → (Nat → Int32) → (Nat → Int32) → Prop) (mel : Int32) (hM : (Nat → Int32)) : Nat → Int32 → (Nat → Int32) → (Nat → Int32) → Prop
  | 0, _, _, _ => False
  | n + 1, v1, rM, gM => (((34 : Int32) ≤ v1 → (post (0 : Int32) rM gM)) ∧ (¬ (34 : Int32) ≤ v1 → (∃ n9, w_X2_completes_b37 post mel hM (w_X2_completes_b29 post mel hM n) n9 v1 (0 : Int32) rM gM)))

def w_X2_completes (mel : Int32) (hM : (Nat → Int32)) (rM : (Nat → Int32)) (gM : (Nat → Int32)) (post : Int32 → (Nat → Int32) → (Nat → Int32) → Prop) : Prop := w_X2_sizeOf mel hM (fun r1 => (((r1 = (14 : Int32) → (w_X2_areSevenPairs mel hM (fun r3 => (((r3 = 0 → (w_X2_areOrphans mel hM (fun r5 => (((r5 = 0 → (∃ n9, w_X2_completes_b29 post mel hM n9 (0 : Int32) rM gM)) ∧ (¬ r5 = 0 → (post (1 : Int32) rM gM))))))) ∧ (¬ r3 = 0 → (post (1 : Int32) rM gM))))))) ∧ (¬ r1 = (14 : Int32) → (post (0 : Int32) rM gM)))))

set_option maxHeartbeats 4000000 in
set_option maxRecDepth 100000 in
theorem c_X2_completes (l : Launch) (dC : Nat → ClassId) (dI : Nat → Nat → Nat) (cI cZ : ClassId) (y : Nat) (bH : Nat) (bS : Nat) (bL : Nat) (bO : Nat) (bK : Nat) (bZ : Nat) (bR : Nat) (bG : Nat) (bB : Nat) (bX : Nat) (sz : Nat) (thr : Int32) (mel : Int32) (sea : Int32) (rnd : Int32) (bas : Int32) (lim : Int32) (hM : (Nat → Int32)) (rM : (Nat → Int32)) (gM : (Nat → Int32)) (post : Int32 → (Nat → Int32) → (Nat → Int32) → Prop) (hw : w_X2_completes mel hM rM gM post) : Met l yX2_completes wsX2_completes ({ frames := 4, cells := 0, slots := 0, locals := 82 } : Room) (va_Pc [.ref y] (fun U => U.heap.size = sz ∧ va_P (dC, dI) vwCl [(y, .inr (2, [.int thr, .ref bH, .ref bS, .ref bL, .int mel, .ref bO, .ref bK, .ref bZ, .int sea, .int rnd, .int bas, .int lim, .ref bR, .ref bG, .ref bB, .ref bX])), (bH, .inl (cI, 34, .inl hM)), (bR, .inl (cI, 34, .inl rM)), (bG, .inl (cI, 4, .inl gM))] U.heap ∧ va_K (dC, dI) vwCl [(cI, .int), (cZ, .boolean)] U ∧ va_D (fun _ => True) [(y, .inr (2, [.int thr, .ref bH, .ref bS, .ref bL, .int mel, .ref bO, .ref bK, .ref bZ, .int sea, .int rnd, .int bas, .int lim, .ref bR, .ref bG, .ref bB, .ref bX])), (bH, .inl (cI, 34, .inl hM)), (bR, .inl (cI, 34, .inl rM)), (bG, .inl (cI, 4, .inl gM))])) (va_Qi (fun (r9 : Int32) (u9 : (Nat → Int32) × (Nat → Int32)) => post r9 u9.1 u9.2) (fun (u9 : (Nat → Int32) × (Nat → Int32)) (t9 : State) => va_P (dC, dI) vwCl [(y, .inr (2, [.int thr, .ref bH, .ref bS, .ref bL, .int mel, .ref bO, .ref bK, .ref bZ, .int sea, .int rnd, .int bas, .int lim, .ref bR, .ref bG, .ref bB, .ref bX])), (bH, .inl (cI, 34, .inl hM)), (bR, .inl (cI, 34, .inl u9.1)), (bG, .inl (cI, 4, .inl u9.2))] t9.heap ∧ va_K (dC, dI) vwCl [(cI, .int), (cZ, .boolean)] t9 ∧ va_D (va_A [(y, .inr (2, [.int thr, .ref bH, .ref bS, .ref bL, .int mel, .ref bO, .ref bK, .ref bZ, .int sea, .int rnd, .int bas, .int lim, .ref bR, .ref bG, .ref bB, .ref bX])), (bH, .inl (cI, 34, .inl hM)), (bR, .inl (cI, 34, .inl rM)), (bG, .inl (cI, 4, .inl gM))] sz) [(y, .inr (2, [.int thr, .ref bH, .ref bS, .ref bL, .int mel, .ref bO, .ref bK, .ref bZ, .int sea, .int rnd, .int bas, .int lim, .ref bR, .ref bG, .ref bB, .ref bX])), (bH, .inl (cI, 34, .inl hM)), (bR, .inl (cI, 34, .inl u9.1)), (bG, .inl (cI, 4, .inl u9.2))]) (va_A [(y, .inr (2, [.int thr, .ref bH, .ref bS, .ref bL, .int mel, .ref bO, .ref bK, .ref bZ, .int sea, .int rnd, .int bas, .int lim, .ref bR, .ref bG, .ref bB, .ref bX])), (bH, .inl (cI, 34, .inl hM)), (bR, .inl (cI, 34, .inl rM)), (bG, .inl (cI, 4, .inl gM))] sz)) 0 0 (va_A [(y, .inr (2, [.int thr, .ref bH, .ref bS, .ref bL, .int mel, .ref bO, .ref bK, .ref bZ, .int sea, .int rnd, .int bas, .int lim, .ref bR, .ref bG, .ref bB, .ref bX])), (bH, .inl (cI, 34, .inl hM)), (bR, .inl (cI, 34, .inl rM)), (bG, .inl (cI, 4, .inl gM))] sz) := by
  refine Met.ofW (cc := cX2_completes) (maxL := 3) (ret := (some .boolean)) (by decide) rfl ?_
  intro p e s m args below meth c s₁ B hml hv
  obtain ⟨rfl, hsz, hP, hK, hD0⟩ := hv
  have hx := B.exec
  have hb := B.bytes
  have hr := B.returns
  have hts := atoms_spec (ws := wsX2_completes) B.pre
  have hown : s.vm.findClass RX2 = some m.cls := findClass_of_methodNamed B.named
  have hlocks := B.notSynchronized
  have hinX2 : ∀ w ∈ u_ws RX2 TX2 16, w ∈ wsX2_completes := by decide +kernel
  subst hsz
  have hD := hD0.self (sz := s.heap.size)
  generalize hAe : va_A [(y, .inr (2, [.int thr, .ref bH, .ref bS, .ref bL, .int mel, .ref bO, .ref bK, .ref bZ, .int sea, .int rnd, .int bas, .int lim, .ref bR, .ref bG, .ref bB, .ref bX])), (bH, .inl (cI, 34, .inl hM)), (bR, .inl (cI, 34, .inl rM)), (bG, .inl (cI, 4, .inl gM))] s.heap.size = A at hD ⊢
  have hA : ∀ q : Nat, s.heap.size ≤ q → A q := fun q h => by rw [← hAe]; exact Or.inr h
  have hS : va_S A s.heap s.heap [] := va_S.rf
  have hl := lv_entry ([.ref y]) (n := 3) (Nat.le_of_ble_eq_true rfl)
  rw [lg_entry_eq]
  generalize (lg_sl ([.ref y]) ++ List.replicate (3 - (lg_sl ([.ref y])).length) Slot.unset).toArray = ls at hl ⊢
  have hl : lv_has ls 3 [(0, .ref y)] := hl
  refine (?_ : ∀ Q9 : State → Prop, MQ below _ _ s _ _ _ = Q9 → W p l e ({ frames := 4, cells := 0, slots := 0, locals := 82 } : Room) s m _ below meth c s.heap [] 0 0 Q9 (F0 m 0 ls [])) _ rfl
  intro Q9 hQ9
  have hw : w_X2_sizeOf mel hM (fun r1 => (((r1 = (14 : Int32) → (w_X2_areSevenPairs mel hM (fun r3 => (((r3 = 0 → (w_X2_areOrphans mel hM (fun r5 => (((r5 = 0 → (∃ n9, w_X2_completes_b29 post mel hM n9 (0 : Int32) rM gM)) ∧ (¬ r5 = 0 → (post (1 : Int32) rM gM))))))) ∧ (¬ r3 = 0 → (post (1 : Int32) rM gM))))))) ∧ (¬ r1 = (14 : Int32) → (post (0 : Int32) rM gM))))) := hw
  have L70 : ∀ (K29 : Int32 → (Nat → Int32) → (Nat → Int32) → Prop) (hK29 : ∀ (v1 : Int32) (rM : (Nat → Int32)) (gM : (Nat → Int32)) (H : Heap) (locs : List Loc) (ls : Array Slot), K29 v1 rM gM → va_P (dC, dI) vwCl [(y, .inr (2, [.int thr, .ref bH, .ref bS, .ref bL, .int mel, .ref bO, .ref bK, .ref bZ, .int sea, .int rnd, .int bas, .int lim, .ref bR, .ref bG, .ref bB, .ref bX])), (bH, .inl (cI, 34, .inl hM)), (bR, .inl (cI, 34, .inl rM)), (bG, .inl (cI, 4, .inl gM))] H → va_D A [(y, .inr (2, [.int thr, .ref bH, .ref bS, .ref bL, .int mel, .ref bO, .ref bK, .ref bZ, .int sea, .int rnd, .int bas, .int lim, .ref bR, .ref bG, .ref bB, .ref bX])), (bH, .inl (cI, 34, .inl hM)), (bR, .inl (cI, 34, .inl rM)), (bG, .inl (cI, 4, .inl gM))] → va_S A s.heap H locs → lv_has ls 3 [(0, .ref y), (1, .int v1)] → W p l e ({ frames := 4, cells := 0, slots := 0, locals := 82 } : Room) s m ([.ref y] : List Value).toArray below meth c H locs 0 0 Q9 (F0 m 29 ls [])), ∀ (v1 : Int32) (rM : (Nat → Int32)) (gM : (Nat → Int32)) (H : Heap) (locs : List Loc) (ls : Array Slot), w_X2_completes_b70 post mel hM K29 v1 rM gM → va_P (dC, dI) vwCl [(y, .inr (2, [.int thr, .ref bH, .ref bS, .ref bL, .int mel, .ref bO, .ref bK, .ref bZ, .int sea, .int rnd, .int bas, .int lim, .ref bR, .ref bG, .ref bB, .ref bX])), (bH, .inl (cI, 34, .inl hM)), (bR, .inl (cI, 34, .inl rM)), (bG, .inl (cI, 4, .inl gM))] H → va_D A [(y, .inr (2, [.int thr, .ref bH, .ref bS, .ref bL, .int mel, .ref bO, .ref bK, .ref bZ, .int sea, .int rnd, .int bas, .int lim, .ref bR, .ref bG, .ref bB, .ref bX])), (bH, .inl (cI, 34, .inl hM)), (bR, .inl (cI, 34, .inl rM)), (bG, .inl (cI, 4, .inl gM))] → va_S A s.heap H locs → lv_has ls 3 [(0, .ref y), (1, .int v1)] → W p l e ({ frames := 4, cells := 0, slots := 0, locals := 82 } : Room) s m ([.ref y] : List Value).toArray below meth c H locs 0 0 Q9 (F0 m 70 ls []) := by
    intro K29 hK29 v1 rM gM H locs ls hw hP hD hS hl
    refine lv_iinc (v := v1 + 1) (lv' := [(1, .int (v1 + 1)), (0, .ref y)]) hx hb dX2_completes_70 hl (k := 1) rfl rfl (by decide) rfl (fun ls hl => ?_)
    refine lv_goto (tgt := 29) hx hb dX2_completes_73 (by decide) ?_
    exact hK29 (v1 + 1) rM gM _ _ _ hw hP hD hS (lv_sub hl [1, 0] rfl)
  have L37 : ∀ (K29 : Int32 → (Nat → Int32) → (Nat → Int32) → Prop) (hK29 : ∀ (v1 : Int32) (rM : (Nat → Int32)) (gM : (Nat → Int32)) (H : Heap) (locs : List Loc) (ls : Array Slot), K29 v1 rM gM → va_P (dC, dI) vwCl [(y, .inr (2, [.int thr, .ref bH, .ref bS, .ref bL, .int mel, .ref bO, .ref bK, .ref bZ, .int sea, .int rnd, .int bas, .int lim, .ref bR, .ref bG, .ref bB, .ref bX])), (bH, .inl (cI, 34, .inl hM)), (bR, .inl (cI, 34, .inl rM)), (bG, .inl (cI, 4, .inl gM))] H → va_D A [(y, .inr (2, [.int thr, .ref bH, .ref bS, .ref bL, .int mel, .ref bO, .ref bK, .ref bZ, .int sea, .int rnd, .int bas, .int lim, .ref bR, .ref bG, .ref bB, .ref bX])), (bH, .inl (cI, 34, .inl hM)), (bR, .inl (cI, 34, .inl rM)), (bG, .inl (cI, 4, .inl gM))] → va_S A s.heap H locs → lv_has ls 3 [(0, .ref y), (1, .int v1)] → W p l e ({ frames := 4, cells := 0, slots := 0, locals := 82 } : Room) s m ([.ref y] : List Value).toArray below meth c H locs 0 0 Q9 (F0 m 29 ls [])), ∀ (n : Nat), ∀ (v1 : Int32) (v2 : Int32) (rM : (Nat → Int32)) (gM : (Nat → Int32)) (H : Heap) (locs : List Loc) (ls : Array Slot), w_X2_completes_b37 post mel hM K29 n v1 v2 rM gM → va_P (dC, dI) vwCl [(y, .inr (2, [.int thr, .ref bH, .ref bS, .ref bL, .int mel, .ref bO, .ref bK, .ref bZ, .int sea, .int rnd, .int bas, .int lim, .ref bR, .ref bG, .ref bB, .ref bX])), (bH, .inl (cI, 34, .inl hM)), (bR, .inl (cI, 34, .inl rM)), (bG, .inl (cI, 4, .inl gM))] H → va_D A [(y, .inr (2, [.int thr, .ref bH, .ref bS, .ref bL, .int mel, .ref bO, .ref bK, .ref bZ, .int sea, .int rnd, .int bas, .int lim, .ref bR, .ref bG, .ref bB, .ref bX])), (bH, .inl (cI, 34, .inl hM)), (bR, .inl (cI, 34, .inl rM)), (bG, .inl (cI, 4, .inl gM))] → va_S A s.heap H locs → lv_has ls 3 [(0, .ref y), (1, .int v1), (2, .int v2)] → W p l e ({ frames := 4, cells := 0, slots := 0, locals := 82 } : Room) s m ([.ref y] : List Value).toArray below meth c H locs 0 0 Q9 (F0 m 37 ls []) := by
    intro K29 hK29 n
    induction n with
    | zero => intro v1 v2 rM gM H locs ls hw _ _ _ _; exact False.elim hw
    | succ n ih =>
      intro v1 v2 rM gM H locs ls hw hP hD hS hl
      refine lv_iload_n hx hb dX2_completes_37 rfl (lv_at hl 2 rfl) ?_
      refine lv_bipush (v := 16) hx hb dX2_completes_38 (by decide) ?_
      refine lv_icmp_ge (tgt := 70) hx hb dX2_completes_40 (by decide) (fun c8 => ?_) (fun c8 => ?_)
      · have hw := hw.1 c8
        exact L70 K29 hK29 v1 rM gM _ _ _ hw hP hD hS (lv_sub hl [0, 1] rfl)
      · have hw := hw.2 c8
        refine lv_aload_n hx hb dX2_completes_43 rfl (lv_at hl 0 rfl) ?_
        refine va_get (D := (dC, dI)) (ci := 2) (v := .ref bH) (C := RX2) (T := TX2) (N := 16) hx hb hts hinX2 hown hK hP 0 rfl rfl 1 (by decide) (hts (.fieldLink RX2 9 "TileHandModel" "hand" "[I") (by decide +kernel)) (fun _ h9 => h9) rfl dX2_completes_44 ?_
        refine lv_iload_n hx hb dX2_completes_47 rfl (lv_at hl 1 rfl) ?_
        obtain ⟨h9, hw⟩ := hw
        refine va_iald hx hb hK hP 1 0 rfl rfl h9 dX2_completes_48 ?_
        refine lv_iconst (v := 1) hx hb dX2_completes_49 (by decide) ?_
        refine lv_icmp_le (tgt := 70) hx hb dX2_completes_50 (by decide) (fun c10 => ?_) (fun c10 => ?_)
        · have hw := hw.1 c10
          exact L70 K29 hK29 v1 rM gM _ _ _ hw hP hD hS (lv_sub hl [0, 1] rfl)
        · have hw := hw.2 c10
          refine lv_aload_n hx hb dX2_completes_53 rfl (lv_at hl 0 rfl) ?_
          refine lv_iload_n hx hb dX2_completes_54 rfl (lv_at hl 1 rfl) ?_
          refine lv_iload_n hx hb dX2_completes_55 rfl (lv_at hl 2 rfl) ?_
          have hPc := hP.sub (ws' := [(y, .inr (2, [.int thr, .ref bH, .ref bS, .ref bL, .int mel, .ref bO, .ref bK, .ref bZ, .int sea, .int rnd, .int bas, .int lim, .ref bR, .ref bG, .ref bB, .ref bX])), (bH, .inl (cI, 34, .inl hM)), (bR, .inl (cI, 34, .inl rM)), (bG, .inl (cI, 4, .inl gM))]) [0, 1, 2, 3] rfl
          have hDc := hD.sub (ws' := [(y, .inr (2, [.int thr, .ref bH, .ref bS, .ref bL, .int mel, .ref bO, .ref bK, .ref bZ, .int sea, .int rnd, .int bas, .int lim, .ref bR, .ref bG, .ref bB, .ref bX])), (bH, .inl (cI, 34, .inl hM)), (bR, .inl (cI, 34, .inl rM)), (bG, .inl (cI, 4, .inl gM))]) [0, 1, 2, 3] (by decide) rfl
          have hFc := va_free (wc := [(y, .inr (2, [.int thr, .ref bH, .ref bS, .ref bL, .int mel, .ref bO, .ref bK, .ref bZ, .int sea, .int rnd, .int bas, .int lim, .ref bR, .ref bG, .ref bB, .ref bX])), (bH, .inl (cI, 34, .inl hM)), (bR, .inl (cI, 34, .inl rM)), (bG, .inl (cI, 4, .inl gM))]) hD hS hA [0, 1, 2, 3] rfl
          refine va_calli (va_runV (As := [.int v1, .int v2]) (rest := []) ⟨hx, hb, hml, hown, hts⟩ (c_X2_cut l dC dI cI cZ y bH bS bL bO bK bZ bR bG bB bX H.size thr mel sea rnd bas lim hM rM gM v1 v2 _ hw) (cwV 2 hts gX2_completes_X2_cut rfl rfl rfl (by decide +kernel) ⟨Nat.le_of_ble_eq_true rfl, Nat.le_of_ble_eq_true rfl⟩) ⟨fun a U g mk q => by obtain ⟨q0, q1, qP, qK, qD⟩ := q; exact ⟨q0, q1, qP, va_K.moved (u := U) (U := U.calling g mk a) (Vm.Alike.refl U.vm) qK, qD⟩, va_recv hK hPc (ci := 2) (q0 := 0) rfl rfl, fun U hU hW => ⟨rfl, by rw [hU], by rw [hU]; exact hPc, va_K.moved hW.alike hK, hDc.weaken (fun _ _ _ _ => trivial)⟩⟩ rfl rfl hl.1 rfl (lv_room (Nat.le_of_ble_eq_true rfl)) dX2_completes_56 ⟨Nat.le_of_ble_eq_true rfl, Nat.le_of_ble_eq_true rfl⟩) hS (fun q _ h => hFc q h) hFc (fun r11 u t H1 locs ht hvm hw hB hz1 hk1 hS => ?_)
          obtain ⟨rM_12, gM_13⟩ := u
          obtain ⟨hP1, -, hD1⟩ := hB
          have hw := And.intro hw trivial
          try dsimp only at hw
          have hw := hw.1
          rw [ht] at hP1
          obtain ⟨hP, hD⟩ := va_join (wr := []) (w1 := [(y, .inr (2, [.int thr, .ref bH, .ref bS, .ref bL, .int mel, .ref bO, .ref bK, .ref bZ, .int sea, .int rnd, .int bas, .int lim, .ref bR, .ref bG, .ref bB, .ref bX])), (bH, .inl (cI, 34, .inl hM)), (bR, .inl (cI, 34, .inl rM_12)), (bG, .inl (cI, 4, .inl gM_13))]) hP hD [0, 1, 2, 3] [] rfl rfl (by decide) (by decide) hk1 hFc hP1 hD1
          generalize H1 = H at hP hS ⊢
          have hP : va_P (dC, dI) vwCl [(y, .inr (2, [.int thr, .ref bH, .ref bS, .ref bL, .int mel, .ref bO, .ref bK, .ref bZ, .int sea, .int rnd, .int bas, .int lim, .ref bR, .ref bG, .ref bB, .ref bX])), (bH, .inl (cI, 34, .inl hM)), (bR, .inl (cI, 34, .inl rM_12)), (bG, .inl (cI, 4, .inl gM_13))] H := hP
          have hD : va_D A [(y, .inr (2, [.int thr, .ref bH, .ref bS, .ref bL, .int mel, .ref bO, .ref bK, .ref bZ, .int sea, .int rnd, .int bas, .int lim, .ref bR, .ref bG, .ref bB, .ref bX])), (bH, .inl (cI, 34, .inl hM)), (bR, .inl (cI, 34, .inl rM_12)), (bG, .inl (cI, 4, .inl gM_13))] := hD
          refine lv_if_eq (tgt := 64) hx hb dX2_completes_59 (by decide) (fun c14 => ?_) (fun c14 => ?_)
          · have hw := hw.1 c14
            refine lv_iinc (v := v2 + 1) (lv' := [(2, .int (v2 + 1)), (0, .ref y), (1, .int v1)]) hx hb dX2_completes_64 hl (k := 2) rfl rfl (by decide) rfl (fun ls hl => ?_)
            refine lv_goto (tgt := 37) hx hb dX2_completes_67 (by decide) ?_
            exact ih v1 (v2 + 1) rM_12 gM_13 _ _ _ hw hP hD hS (lv_sub hl [1, 2, 0] rfl)
          · have hw := hw.2 c14
            refine lv_iconst (v := 1) hx hb dX2_completes_62 (by decide) ?_
            rw [← hQ9]
            exact W.zret (v := (1 : Int32)) hx hb hr rfl (fun t ht hW => ⟨⟨(1 : Int32), (rM_12, gM_13), rfl, hw, by rw [ht]; exact hP, va_K.moved hW.alike hK, hD⟩, hS.F ht⟩) hS.2.2 dX2_completes_63
  have L29 : ∀ (n : Nat), ∀ (v1 : Int32) (rM : (Nat → Int32)) (gM : (Nat → Int32)) (H : Heap) (locs : List Loc) (ls : Array Slot), w_X2_completes_b29 post mel hM n v1 rM gM → va_P (dC, dI) vwCl [(y, .inr (2, [.int thr, .ref bH, .ref bS, .ref bL, .int mel, .ref bO, .ref bK, .ref bZ, .int sea, .int rnd, .int bas, .int lim, .ref bR, .ref bG, .ref bB, .ref bX])), (bH, .inl (cI, 34, .inl hM)), (bR, .inl (cI, 34, .inl rM)), (bG, .inl (cI, 4, .inl gM))] H → va_D A [(y, .inr (2, [.int thr, .ref bH, .ref bS, .ref bL, .int mel, .ref bO, .ref bK, .ref bZ, .int sea, .int rnd, .int bas, .int lim, .ref bR, .ref bG, .ref bB, .ref bX])), (bH, .inl (cI, 34, .inl hM)), (bR, .inl (cI, 34, .inl rM)), (bG, .inl (cI, 4, .inl gM))] → va_S A s.heap H locs → lv_has ls 3 [(0, .ref y), (1, .int v1)] → W p l e ({ frames := 4, cells := 0, slots := 0, locals := 82 } : Room) s m ([.ref y] : List Value).toArray below meth c H locs 0 0 Q9 (F0 m 29 ls []) := by
    intro n
    induction n with
    | zero => intro v1 rM gM H locs ls hw _ _ _ _; exact False.elim hw
    | succ n ih =>
      intro v1 rM gM H locs ls hw hP hD hS hl
      refine lv_iload_n hx hb dX2_completes_29 rfl (lv_at hl 1 rfl) ?_
      refine lv_bipush (v := 34) hx hb dX2_completes_30 (by decide) ?_
      refine lv_icmp_ge (tgt := 76) hx hb dX2_completes_32 (by decide) (fun c7 => ?_) (fun c7 => ?_)
      · have hw := hw.1 c7
        refine lv_iconst (v := 0) hx hb dX2_completes_76 (by decide) ?_
        rw [← hQ9]
        exact W.zret (v := (0 : Int32)) hx hb hr rfl (fun t ht hW => ⟨⟨(0 : Int32), (rM, gM), rfl, hw, by rw [ht]; exact hP, va_K.moved hW.alike hK, hD⟩, hS.F ht⟩) hS.2.2 dX2_completes_77
      · have hw := hw.2 c7
        refine lv_iconst (v := 0) hx hb dX2_completes_35 (by decide) ?_
        refine lv_istore_n (lv' := [(2, .int (0 : Int32)), (0, .ref y), (1, .int v1)]) hx hb dX2_completes_36 rfl hl (by decide) rfl (fun ls hl => ?_)
        obtain ⟨n9, hw⟩ := hw
        exact L37 (w_X2_completes_b29 post mel hM n) ih n9 v1 (0 : Int32) rM gM _ _ _ hw hP hD hS (lv_sub hl [1, 2, 0] rfl)
  refine lv_aload_n hx hb dX2_completes_0 rfl (lv_at hl 0 rfl) ?_
  have hPc := hP.sub (ws' := [(y, .inr (2, [.int thr, .ref bH, .ref bS, .ref bL, .int mel, .ref bO, .ref bK, .ref bZ, .int sea, .int rnd, .int bas, .int lim, .ref bR, .ref bG, .ref bB, .ref bX])), (bH, .inl (cI, 34, .inl hM))]) [0, 1] rfl
  have hDc := hD.sub (ws' := [(y, .inr (2, [.int thr, .ref bH, .ref bS, .ref bL, .int mel, .ref bO, .ref bK, .ref bZ, .int sea, .int rnd, .int bas, .int lim, .ref bR, .ref bG, .ref bB, .ref bX])), (bH, .inl (cI, 34, .inl hM))]) [0, 1] (by decide) rfl
  have hFc := va_free (wc := [(y, .inr (2, [.int thr, .ref bH, .ref bS, .ref bL, .int mel, .ref bO, .ref bK, .ref bZ, .int sea, .int rnd, .int bas, .int lim, .ref bR, .ref bG, .ref bB, .ref bX])), (bH, .inl (cI, 34, .inl hM))]) hD hS hA [0, 1] rfl
  refine va_calli (va_runV (As := []) (rest := []) ⟨hx, hb, hml, hown, hts⟩ (c_X2_sizeOf l dC dI cI cZ y bH bS bL bO bK bZ bR bG bB bX s.heap.size thr mel sea rnd bas lim hM _ hw) (cwV 0 hts gX2_completes_X2_sizeOf rfl rfl rfl (by decide +kernel) ⟨Nat.le_of_ble_eq_true rfl, Nat.le_of_ble_eq_true rfl⟩) ⟨fun a U g mk q => by obtain ⟨q0, q1, qP, qK, qD⟩ := q; exact ⟨q0, q1, qP, va_K.moved (u := U) (U := U.calling g mk a) (Vm.Alike.refl U.vm) qK, qD⟩, va_recv hK hPc (ci := 2) (q0 := 0) rfl rfl, fun U hU hW => ⟨rfl, by rw [hU], by rw [hU]; exact hPc, va_K.moved hW.alike hK, hDc.weaken (fun _ _ _ _ => trivial)⟩⟩ rfl rfl hl.1 rfl (lv_room (Nat.le_of_ble_eq_true rfl)) dX2_completes_1 ⟨Nat.le_of_ble_eq_true rfl, Nat.le_of_ble_eq_true rfl⟩) hS (fun q _ h => hFc q h) hFc (fun r1 u t H1 locs ht hvm hw hB hz1 hk1 hS => ?_)
  obtain ⟨hP1, -, hD1⟩ := hB
  have hw := And.intro hw trivial
  try dsimp only at hw
  have hw := hw.1
  rw [ht] at hP1
  obtain ⟨hP, hD⟩ := va_join (wr := [(bR, .inl (cI, 34, .inl rM)), (bG, .inl (cI, 4, .inl gM))]) (w1 := [(y, .inr (2, [.int thr, .ref bH, .ref bS, .ref bL, .int mel, .ref bO, .ref bK, .ref bZ, .int sea, .int rnd, .int bas, .int lim, .ref bR, .ref bG, .ref bB, .ref bX])), (bH, .inl (cI, 34, .inl hM))]) hP hD [0, 1] [2, 3] rfl rfl (by decide) (by decide) hk1 hFc hP1 hD1
  generalize H1 = H at hP hS ⊢
  have hP : va_P (dC, dI) vwCl [(bR, .inl (cI, 34, .inl rM)), (bG, .inl (cI, 4, .inl gM)), (y, .inr (2, [.int thr, .ref bH, .ref bS, .ref bL, .int mel, .ref bO, .ref bK, .ref bZ, .int sea, .int rnd, .int bas, .int lim, .ref bR, .ref bG, .ref bB, .ref bX])), (bH, .inl (cI, 34, .inl hM))] H := hP
  have hD : va_D A [(bR, .inl (cI, 34, .inl rM)), (bG, .inl (cI, 4, .inl gM)), (y, .inr (2, [.int thr, .ref bH, .ref bS, .ref bL, .int mel, .ref bO, .ref bK, .ref bZ, .int sea, .int rnd, .int bas, .int lim, .ref bR, .ref bG, .ref bB, .ref bX])), (bH, .inl (cI, 34, .inl hM))] := hD
  refine lv_bipush (v := 14) hx hb dX2_completes_4 (by decide) ?_
  refine lv_icmp_eq (tgt := 11) hx hb dX2_completes_6 (by decide) (fun c2 => ?_) (fun c2 => ?_)
  · have hw := hw.1 c2
    refine lv_aload_n hx hb dX2_completes_11 rfl (lv_at hl 0 rfl) ?_
    have hPc := hP.sub (ws' := [(y, .inr (2, [.int thr, .ref bH, .ref bS, .ref bL, .int mel, .ref bO, .ref bK, .ref bZ, .int sea, .int rnd, .int bas, .int lim, .ref bR, .ref bG, .ref bB, .ref bX])), (bH, .inl (cI, 34, .inl hM))]) [2, 3] rfl
    have hDc := hD.sub (ws' := [(y, .inr (2, [.int thr, .ref bH, .ref bS, .ref bL, .int mel, .ref bO, .ref bK, .ref bZ, .int sea, .int rnd, .int bas, .int lim, .ref bR, .ref bG, .ref bB, .ref bX])), (bH, .inl (cI, 34, .inl hM))]) [2, 3] (by decide) rfl
    have hFc := va_free (wc := [(y, .inr (2, [.int thr, .ref bH, .ref bS, .ref bL, .int mel, .ref bO, .ref bK, .ref bZ, .int sea, .int rnd, .int bas, .int lim, .ref bR, .ref bG, .ref bB, .ref bX])), (bH, .inl (cI, 34, .inl hM))]) hD hS hA [2, 3] rfl
    refine va_calli (va_runV (As := []) (rest := []) ⟨hx, hb, hml, hown, hts⟩ (c_X2_areSevenPairs l dC dI cI cZ y bH bS bL bO bK bZ bR bG bB bX H.size thr mel sea rnd bas lim hM _ hw) (cwV 0 hts gX2_completes_X2_areSevenPairs rfl rfl rfl (by decide +kernel) ⟨Nat.le_of_ble_eq_true rfl, Nat.le_of_ble_eq_true rfl⟩) ⟨fun a U g mk q => by obtain ⟨q0, q1, qP, qK, qD⟩ := q; exact ⟨q0, q1, qP, va_K.moved (u := U) (U := U.calling g mk a) (Vm.Alike.refl U.vm) qK, qD⟩, va_recv hK hPc (ci := 2) (q0 := 0) rfl rfl, fun U hU hW => ⟨rfl, by rw [hU], by rw [hU]; exact hPc, va_K.moved hW.alike hK, hDc.weaken (fun _ _ _ _ => trivial)⟩⟩ rfl rfl hl.1 rfl (lv_room (Nat.le_of_ble_eq_true rfl)) dX2_completes_12 ⟨Nat.le_of_ble_eq_true rfl, Nat.le_of_ble_eq_true rfl⟩) hS (fun q _ h => hFc q h) hFc (fun r3 u t H1 locs ht hvm hw hB hz1 hk1 hS => ?_)
    obtain ⟨hP1, -, hD1⟩ := hB
    have hw := And.intro hw trivial
    try dsimp only at hw
    have hw := hw.1
    rw [ht] at hP1
    obtain ⟨hP, hD⟩ := va_join (wr := [(bR, .inl (cI, 34, .inl rM)), (bG, .inl (cI, 4, .inl gM))]) (w1 := [(y, .inr (2, [.int thr, .ref bH, .ref bS, .ref bL, .int mel, .ref bO, .ref bK, .ref bZ, .int sea, .int rnd, .int bas, .int lim, .ref bR, .ref bG, .ref bB, .ref bX])), (bH, .inl (cI, 34, .inl hM))]) hP hD [2, 3] [0, 1] rfl rfl (by decide) (by decide) hk1 hFc hP1 hD1
    generalize H1 = H at hP hS ⊢
    have hP : va_P (dC, dI) vwCl [(bR, .inl (cI, 34, .inl rM)), (bG, .inl (cI, 4, .inl gM)), (y, .inr (2, [.int thr, .ref bH, .ref bS, .ref bL, .int mel, .ref bO, .ref bK, .ref bZ, .int sea, .int rnd, .int bas, .int lim, .ref bR, .ref bG, .ref bB, .ref bX])), (bH, .inl (cI, 34, .inl hM))] H := hP
    have hD : va_D A [(bR, .inl (cI, 34, .inl rM)), (bG, .inl (cI, 4, .inl gM)), (y, .inr (2, [.int thr, .ref bH, .ref bS, .ref bL, .int mel, .ref bO, .ref bK, .ref bZ, .int sea, .int rnd, .int bas, .int lim, .ref bR, .ref bG, .ref bB, .ref bX])), (bH, .inl (cI, 34, .inl hM))] := hD
    refine lv_if_ne (tgt := 25) hx hb dX2_completes_15 (by decide) (fun c4 => ?_) (fun c4 => ?_)
    · have hw := hw.2 c4
      refine lv_iconst (v := 1) hx hb dX2_completes_25 (by decide) ?_
      have hP9 := hP.sub (ws' := [(y, .inr (2, [.int thr, .ref bH, .ref bS, .ref bL, .int mel, .ref bO, .ref bK, .ref bZ, .int sea, .int rnd, .int bas, .int lim, .ref bR, .ref bG, .ref bB, .ref bX])), (bH, .inl (cI, 34, .inl hM)), (bR, .inl (cI, 34, .inl rM)), (bG, .inl (cI, 4, .inl gM))]) [2, 3, 0, 1] rfl
      have hD9 := hD.sub (ws' := [(y, .inr (2, [.int thr, .ref bH, .ref bS, .ref bL, .int mel, .ref bO, .ref bK, .ref bZ, .int sea, .int rnd, .int bas, .int lim, .ref bR, .ref bG, .ref bB, .ref bX])), (bH, .inl (cI, 34, .inl hM)), (bR, .inl (cI, 34, .inl rM)), (bG, .inl (cI, 4, .inl gM))]) [2, 3, 0, 1] (by decide) rfl
      rw [← hQ9]
      exact W.zret (v := (1 : Int32)) hx hb hr rfl (fun t ht hW => ⟨⟨(1 : Int32), (rM, gM), rfl, hw, by rw [ht]; exact hP9, va_K.moved hW.alike hK, hD9⟩, hS.F ht⟩) hS.2.2 dX2_completes_26
    · have hw := hw.1 c4
      refine lv_aload_n hx hb dX2_completes_18 rfl (lv_at hl 0 rfl) ?_
      have hPc := hP.sub (ws' := [(y, .inr (2, [.int thr, .ref bH, .ref bS, .ref bL, .int mel, .ref bO, .ref bK, .ref bZ, .int sea, .int rnd, .int bas, .int lim, .ref bR, .ref bG, .ref bB, .ref bX])), (bH, .inl (cI, 34, .inl hM))]) [2, 3] rfl
      have hDc := hD.sub (ws' := [(y, .inr (2, [.int thr, .ref bH, .ref bS, .ref bL, .int mel, .ref bO, .ref bK, .ref bZ, .int sea, .int rnd, .int bas, .int lim, .ref bR, .ref bG, .ref bB, .ref bX])), (bH, .inl (cI, 34, .inl hM))]) [2, 3] (by decide) rfl
      have hFc := va_free (wc := [(y, .inr (2, [.int thr, .ref bH, .ref bS, .ref bL, .int mel, .ref bO, .ref bK, .ref bZ, .int sea, .int rnd, .int bas, .int lim, .ref bR, .ref bG, .ref bB, .ref bX])), (bH, .inl (cI, 34, .inl hM))]) hD hS hA [2, 3] rfl
      refine va_calli (va_runV (As := []) (rest := []) ⟨hx, hb, hml, hown, hts⟩ (c_X2_areOrphans l dC dI cI cZ y bH bS bL bO bK bZ bR bG bB bX H.size thr mel sea rnd bas lim hM _ hw) (cwV 0 hts gX2_completes_X2_areOrphans rfl rfl rfl (by decide +kernel) ⟨Nat.le_of_ble_eq_true rfl, Nat.le_of_ble_eq_true rfl⟩) ⟨fun a U g mk q => by obtain ⟨q0, q1, qP, qK, qD⟩ := q; exact ⟨q0, q1, qP, va_K.moved (u := U) (U := U.calling g mk a) (Vm.Alike.refl U.vm) qK, qD⟩, va_recv hK hPc (ci := 2) (q0 := 0) rfl rfl, fun U hU hW => ⟨rfl, by rw [hU], by rw [hU]; exact hPc, va_K.moved hW.alike hK, hDc.weaken (fun _ _ _ _ => trivial)⟩⟩ rfl rfl hl.1 rfl (lv_room (Nat.le_of_ble_eq_true rfl)) dX2_completes_19 ⟨Nat.le_of_ble_eq_true rfl, Nat.le_of_ble_eq_true rfl⟩) hS (fun q _ h => hFc q h) hFc (fun r5 u t H1 locs ht hvm hw hB hz1 hk1 hS => ?_)
      obtain ⟨hP1, -, hD1⟩ := hB
      have hw := And.intro hw trivial
      try dsimp only at hw
      have hw := hw.1
      rw [ht] at hP1
      obtain ⟨hP, hD⟩ := va_join (wr := [(bR, .inl (cI, 34, .inl rM)), (bG, .inl (cI, 4, .inl gM))]) (w1 := [(y, .inr (2, [.int thr, .ref bH, .ref bS, .ref bL, .int mel, .ref bO, .ref bK, .ref bZ, .int sea, .int rnd, .int bas, .int lim, .ref bR, .ref bG, .ref bB, .ref bX])), (bH, .inl (cI, 34, .inl hM))]) hP hD [2, 3] [0, 1] rfl rfl (by decide) (by decide) hk1 hFc hP1 hD1
      generalize H1 = H at hP hS ⊢
      have hP : va_P (dC, dI) vwCl [(bR, .inl (cI, 34, .inl rM)), (bG, .inl (cI, 4, .inl gM)), (y, .inr (2, [.int thr, .ref bH, .ref bS, .ref bL, .int mel, .ref bO, .ref bK, .ref bZ, .int sea, .int rnd, .int bas, .int lim, .ref bR, .ref bG, .ref bB, .ref bX])), (bH, .inl (cI, 34, .inl hM))] H := hP
      have hD : va_D A [(bR, .inl (cI, 34, .inl rM)), (bG, .inl (cI, 4, .inl gM)), (y, .inr (2, [.int thr, .ref bH, .ref bS, .ref bL, .int mel, .ref bO, .ref bK, .ref bZ, .int sea, .int rnd, .int bas, .int lim, .ref bR, .ref bG, .ref bB, .ref bX])), (bH, .inl (cI, 34, .inl hM))] := hD
      refine lv_if_eq (tgt := 27) hx hb dX2_completes_22 (by decide) (fun c6 => ?_) (fun c6 => ?_)
      · have hw := hw.1 c6
        refine lv_iconst (v := 0) hx hb dX2_completes_27 (by decide) ?_
        refine lv_istore_n (lv' := [(1, .int (0 : Int32)), (0, .ref y)]) hx hb dX2_completes_28 rfl hl (by decide) rfl (fun ls hl => ?_)
        have hP9 := hP.sub (ws' := [(y, .inr (2, [.int thr, .ref bH, .ref bS, .ref bL, .int mel, .ref bO, .ref bK, .ref bZ, .int sea, .int rnd, .int bas, .int lim, .ref bR, .ref bG, .ref bB, .ref bX])), (bH, .inl (cI, 34, .inl hM)), (bR, .inl (cI, 34, .inl rM)), (bG, .inl (cI, 4, .inl gM))]) [2, 3, 0, 1] rfl
        have hD9 := hD.sub (ws' := [(y, .inr (2, [.int thr, .ref bH, .ref bS, .ref bL, .int mel, .ref bO, .ref bK, .ref bZ, .int sea, .int rnd, .int bas, .int lim, .ref bR, .ref bG, .ref bB, .ref bX])), (bH, .inl (cI, 34, .inl hM)), (bR, .inl (cI, 34, .inl rM)), (bG, .inl (cI, 4, .inl gM))]) [2, 3, 0, 1] (by decide) rfl
        obtain ⟨n9, hw⟩ := hw
        exact L29 n9 (0 : Int32) rM gM _ _ _ hw hP9 hD9 hS (lv_sub hl [1, 0] rfl)
      · have hw := hw.2 c6
        refine lv_iconst (v := 1) hx hb dX2_completes_25 (by decide) ?_
        have hP9 := hP.sub (ws' := [(y, .inr (2, [.int thr, .ref bH, .ref bS, .ref bL, .int mel, .ref bO, .ref bK, .ref bZ, .int sea, .int rnd, .int bas, .int lim, .ref bR, .ref bG, .ref bB, .ref bX])), (bH, .inl (cI, 34, .inl hM)), (bR, .inl (cI, 34, .inl rM)), (bG, .inl (cI, 4, .inl gM))]) [2, 3, 0, 1] rfl
        have hD9 := hD.sub (ws' := [(y, .inr (2, [.int thr, .ref bH, .ref bS, .ref bL, .int mel, .ref bO, .ref bK, .ref bZ, .int sea, .int rnd, .int bas, .int lim, .ref bR, .ref bG, .ref bB, .ref bX])), (bH, .inl (cI, 34, .inl hM)), (bR, .inl (cI, 34, .inl rM)), (bG, .inl (cI, 4, .inl gM))]) [2, 3, 0, 1] (by decide) rfl
        rw [← hQ9]
        exact W.zret (v := (1 : Int32)) hx hb hr rfl (fun t ht hW => ⟨⟨(1 : Int32), (rM, gM), rfl, hw, by rw [ht]; exact hP9, va_K.moved hW.alike hK, hD9⟩, hS.F ht⟩) hS.2.2 dX2_completes_26
  · have hw := hw.2 c2
    refine lv_iconst (v := 0) hx hb dX2_completes_9 (by decide) ?_
    have hP9 := hP.sub (ws' := [(y, .inr (2, [.int thr, .ref bH, .ref bS, .ref bL, .int mel, .ref bO, .ref bK, .ref bZ, .int sea, .int rnd, .int bas, .int lim, .ref bR, .ref bG, .ref bB, .ref bX])), (bH, .inl (cI, 34, .inl hM)), (bR, .inl (cI, 34, .inl rM)), (bG, .inl (cI, 4, .inl gM))]) [2, 3, 0, 1] rfl
    have hD9 := hD.sub (ws' := [(y, .inr (2, [.int thr, .ref bH, .ref bS, .ref bL, .int mel, .ref bO, .ref bK, .ref bZ, .int sea, .int rnd, .int bas, .int lim, .ref bR, .ref bG, .ref bB, .ref bX])), (bH, .inl (cI, 34, .inl hM)), (bR, .inl (cI, 34, .inl rM)), (bG, .inl (cI, 4, .inl gM))]) [2, 3, 0, 1] (by decide) rfl
    rw [← hQ9]
    exact W.zret (v := (0 : Int32)) hx hb hr rfl (fun t ht hW => ⟨⟨(0 : Int32), (rM, gM), rfl, hw, by rw [ht]; exact hP9, va_K.moved hW.alike hK, hD9⟩, hS.F ht⟩) hS.2.2 dX2_completes_10

def w_X2_isComplete (thr : Int32) (mel : Int32) (hM : (Nat → Int32)) (rM : (Nat → Int32)) (gM : (Nat → Int32)) (post : Int32 → Int32 → (Nat → Int32) → (Nat → Int32) → Prop) : Prop := w_X2_completes mel hM rM gM (fun r1 rM_2 gM_3 => (narrow .boolean (.int r1) = .int r1 ∧ post r1 (0 : Int32) rM_2 gM_3))

set_option maxHeartbeats 4000000 in
set_option maxRecDepth 100000 in
theorem c_X2_isComplete (l : Launch) (dC : Nat → ClassId) (dI : Nat → Nat → Nat) (cI cZ : ClassId) (y : Nat) (bH : Nat) (bS : Nat) (bL : Nat) (bO : Nat) (bK : Nat) (bZ : Nat) (bR : Nat) (bG : Nat) (bB : Nat) (bX : Nat) (sz : Nat) (thr : Int32) (mel : Int32) (sea : Int32) (rnd : Int32) (bas : Int32) (lim : Int32) (hM : (Nat → Int32)) (rM : (Nat → Int32)) (gM : (Nat → Int32)) (post : Int32 → Int32 → (Nat → Int32) → (Nat → Int32) → Prop) (hw : w_X2_isComplete thr mel hM rM gM post) : Met l yX2_isComplete wsX2_isComplete ({ frames := 5, cells := 0, slots := 0, locals := 104 } : Room) (va_Pc [.ref y] (fun U => U.heap.size = sz ∧ va_P (dC, dI) vwCl [(y, .inr (2, [.int thr, .ref bH, .ref bS, .ref bL, .int mel, .ref bO, .ref bK, .ref bZ, .int sea, .int rnd, .int bas, .int lim, .ref bR, .ref bG, .ref bB, .ref bX])), (bH, .inl (cI, 34, .inl hM)), (bR, .inl (cI, 34, .inl rM)), (bG, .inl (cI, 4, .inl gM))] U.heap ∧ va_K (dC, dI) vwCl [(cI, .int), (cZ, .boolean)] U ∧ va_D (fun _ => True) [(y, .inr (2, [.int thr, .ref bH, .ref bS, .ref bL, .int mel, .ref bO, .ref bK, .ref bZ, .int sea, .int rnd, .int bas, .int lim, .ref bR, .ref bG, .ref bB, .ref bX])), (bH, .inl (cI, 34, .inl hM)), (bR, .inl (cI, 34, .inl rM)), (bG, .inl (cI, 4, .inl gM))])) (va_Qi (fun (r9 : Int32) (u9 : Int32 × (Nat → Int32) × (Nat → Int32)) => post r9 u9.1 u9.2.1 u9.2.2) (fun (u9 : Int32 × (Nat → Int32) × (Nat → Int32)) (t9 : State) => va_P (dC, dI) vwCl [(y, .inr (2, [.int u9.1, .ref bH, .ref bS, .ref bL, .int mel, .ref bO, .ref bK, .ref bZ, .int sea, .int rnd, .int bas, .int lim, .ref bR, .ref bG, .ref bB, .ref bX])), (bH, .inl (cI, 34, .inl hM)), (bR, .inl (cI, 34, .inl u9.2.1)), (bG, .inl (cI, 4, .inl u9.2.2))] t9.heap ∧ va_K (dC, dI) vwCl [(cI, .int), (cZ, .boolean)] t9 ∧ va_D (va_A [(y, .inr (2, [.int thr, .ref bH, .ref bS, .ref bL, .int mel, .ref bO, .ref bK, .ref bZ, .int sea, .int rnd, .int bas, .int lim, .ref bR, .ref bG, .ref bB, .ref bX])), (bH, .inl (cI, 34, .inl hM)), (bR, .inl (cI, 34, .inl rM)), (bG, .inl (cI, 4, .inl gM))] sz) [(y, .inr (2, [.int u9.1, .ref bH, .ref bS, .ref bL, .int mel, .ref bO, .ref bK, .ref bZ, .int sea, .int rnd, .int bas, .int lim, .ref bR, .ref bG, .ref bB, .ref bX])), (bH, .inl (cI, 34, .inl hM)), (bR, .inl (cI, 34, .inl u9.2.1)), (bG, .inl (cI, 4, .inl u9.2.2))]) (va_A [(y, .inr (2, [.int thr, .ref bH, .ref bS, .ref bL, .int mel, .ref bO, .ref bK, .ref bZ, .int sea, .int rnd, .int bas, .int lim, .ref bR, .ref bG, .ref bB, .ref bX])), (bH, .inl (cI, 34, .inl hM)), (bR, .inl (cI, 34, .inl rM)), (bG, .inl (cI, 4, .inl gM))] sz)) 0 0 (va_A [(y, .inr (2, [.int thr, .ref bH, .ref bS, .ref bL, .int mel, .ref bO, .ref bK, .ref bZ, .int sea, .int rnd, .int bas, .int lim, .ref bR, .ref bG, .ref bB, .ref bX])), (bH, .inl (cI, 34, .inl hM)), (bR, .inl (cI, 34, .inl rM)), (bG, .inl (cI, 4, .inl gM))] sz) := by
  refine Met.ofW (cc := cX2_isComplete) (maxL := 1) (ret := (some .boolean)) (by decide) rfl ?_
  intro p e s m args below meth c s₁ B hml hv
  obtain ⟨rfl, hsz, hP, hK, hD0⟩ := hv
  have hx := B.exec
  have hb := B.bytes
  have hr := B.returns
  have hts := atoms_spec (ws := wsX2_isComplete) B.pre
  have hown : s.vm.findClass RX2 = some m.cls := findClass_of_methodNamed B.named
  have hlocks := B.notSynchronized
  have hinX2 : ∀ w ∈ u_ws RX2 TX2 16, w ∈ wsX2_isComplete := by decide +kernel
  subst hsz
  have hD := hD0.self (sz := s.heap.size)
  generalize hAe : va_A [(y, .inr (2, [.int thr, .ref bH, .ref bS, .ref bL, .int mel, .ref bO, .ref bK, .ref bZ, .int sea, .int rnd, .int bas, .int lim, .ref bR, .ref bG, .ref bB, .ref bX])), (bH, .inl (cI, 34, .inl hM)), (bR, .inl (cI, 34, .inl rM)), (bG, .inl (cI, 4, .inl gM))] s.heap.size = A at hD ⊢
  have hA : ∀ q : Nat, s.heap.size ≤ q → A q := fun q h => by rw [← hAe]; exact Or.inr h
  have hS : va_S A s.heap s.heap [] := va_S.rf
  have hl := lv_entry ([.ref y]) (n := 1) (Nat.le_of_ble_eq_true rfl)
  rw [lg_entry_eq]
  generalize (lg_sl ([.ref y]) ++ List.replicate (1 - (lg_sl ([.ref y])).length) Slot.unset).toArray = ls at hl ⊢
  have hl : lv_has ls 1 [(0, .ref y)] := hl
  refine (?_ : ∀ Q9 : State → Prop, MQ below _ _ s _ _ _ = Q9 → W p l e ({ frames := 5, cells := 0, slots := 0, locals := 104 } : Room) s m _ below meth c s.heap [] 0 0 Q9 (F0 m 0 ls [])) _ rfl
  intro Q9 hQ9
  have hw : w_X2_completes mel hM rM gM (fun r1 rM_2 gM_3 => (narrow .boolean (.int r1) = .int r1 ∧ post r1 (0 : Int32) rM_2 gM_3)) := hw
  refine lv_aload_n hx hb dX2_isComplete_0 rfl (lv_at hl 0 rfl) ?_
  refine lv_iconst (v := 0) hx hb dX2_isComplete_1 (by decide) ?_
  refine va_put (D := (dC, dI)) (ci := 2) (v := .int (0 : Int32)) (ty := .int) (C := RX2) (T := TX2) (N := 16) hx hb hts hinX2 tyX2 tyX2_ok nmX2 hown hK hP hD hS 0 rfl rfl 0 (by decide) (hts (.fieldLink RX2 54 "TileHandModel" "thrown" "I") (by decide +kernel)) (fun _ h9 => h9) rfl (by decide +kernel) rfl rfl (Nat.le_of_ble_eq_true rfl) dX2_isComplete_2 (fun H locs hP hD hS => ?_)
  have hP : va_P (dC, dI) vwCl [(y, .inr (2, [.int (0 : Int32), .ref bH, .ref bS, .ref bL, .int mel, .ref bO, .ref bK, .ref bZ, .int sea, .int rnd, .int bas, .int lim, .ref bR, .ref bG, .ref bB, .ref bX])), (bH, .inl (cI, 34, .inl hM)), (bR, .inl (cI, 34, .inl rM)), (bG, .inl (cI, 4, .inl gM))] H := hP
  have hD : va_D A [(y, .inr (2, [.int (0 : Int32), .ref bH, .ref bS, .ref bL, .int mel, .ref bO, .ref bK, .ref bZ, .int sea, .int rnd, .int bas, .int lim, .ref bR, .ref bG, .ref bB, .ref bX])), (bH, .inl (cI, 34, .inl hM)), (bR, .inl (cI, 34, .inl rM)), (bG, .inl (cI, 4, .inl gM))] := hD
  refine lv_aload_n hx hb dX2_isComplete_5 rfl (lv_at hl 0 rfl) ?_
  have hPc := hP.sub (ws' := [(y, .inr (2, [.int (0 : Int32), .ref bH, .ref bS, .ref bL, .int mel, .ref bO, .ref bK, .ref bZ, .int sea, .int rnd, .int bas, .int lim, .ref bR, .ref bG, .ref bB, .ref bX])), (bH, .inl (cI, 34, .inl hM)), (bR, .inl (cI, 34, .inl rM)), (bG, .inl (cI, 4, .inl gM))]) [0, 1, 2, 3] rfl
  have hDc := hD.sub (ws' := [(y, .inr (2, [.int (0 : Int32), .ref bH, .ref bS, .ref bL, .int mel, .ref bO, .ref bK, .ref bZ, .int sea, .int rnd, .int bas, .int lim, .ref bR, .ref bG, .ref bB, .ref bX])), (bH, .inl (cI, 34, .inl hM)), (bR, .inl (cI, 34, .inl rM)), (bG, .inl (cI, 4, .inl gM))]) [0, 1, 2, 3] (by decide) rfl
  have hFc := va_free (wc := [(y, .inr (2, [.int (0 : Int32), .ref bH, .ref bS, .ref bL, .int mel, .ref bO, .ref bK, .ref bZ, .int sea, .int rnd, .int bas, .int lim, .ref bR, .ref bG, .ref bB, .ref bX])), (bH, .inl (cI, 34, .inl hM)), (bR, .inl (cI, 34, .inl rM)), (bG, .inl (cI, 4, .inl gM))]) hD hS hA [0, 1, 2, 3] rfl
  refine va_calli (va_runV (As := []) (rest := []) ⟨hx, hb, hml, hown, hts⟩ (c_X2_completes l dC dI cI cZ y bH bS bL bO bK bZ bR bG bB bX H.size (0 : Int32) mel sea rnd bas lim hM rM gM _ hw) (cwV 0 hts gX2_isComplete_X2_completes rfl rfl rfl (by decide +kernel) ⟨Nat.le_of_ble_eq_true rfl, Nat.le_of_ble_eq_true rfl⟩) ⟨fun a U g mk q => by obtain ⟨q0, q1, qP, qK, qD⟩ := q; exact ⟨q0, q1, qP, va_K.moved (u := U) (U := U.calling g mk a) (Vm.Alike.refl U.vm) qK, qD⟩, va_recv hK hPc (ci := 2) (q0 := 0) rfl rfl, fun U hU hW => ⟨rfl, by rw [hU], by rw [hU]; exact hPc, va_K.moved hW.alike hK, hDc.weaken (fun _ _ _ _ => trivial)⟩⟩ rfl rfl hl.1 rfl (lv_room (Nat.le_of_ble_eq_true rfl)) dX2_isComplete_6 ⟨Nat.le_of_ble_eq_true rfl, Nat.le_of_ble_eq_true rfl⟩) hS (fun q _ h => hFc q h) hFc (fun r1 u t H1 locs ht hvm hw hB hz1 hk1 hS => ?_)
  obtain ⟨rM_2, gM_3⟩ := u
  obtain ⟨hP1, -, hD1⟩ := hB
  have hw := And.intro hw trivial
  try dsimp only at hw
  have hw := hw.1
  rw [ht] at hP1
  obtain ⟨hP, hD⟩ := va_join (wr := []) (w1 := [(y, .inr (2, [.int (0 : Int32), .ref bH, .ref bS, .ref bL, .int mel, .ref bO, .ref bK, .ref bZ, .int sea, .int rnd, .int bas, .int lim, .ref bR, .ref bG, .ref bB, .ref bX])), (bH, .inl (cI, 34, .inl hM)), (bR, .inl (cI, 34, .inl rM_2)), (bG, .inl (cI, 4, .inl gM_3))]) hP hD [0, 1, 2, 3] [] rfl rfl (by decide) (by decide) hk1 hFc hP1 hD1
  generalize H1 = H at hP hS ⊢
  have hP : va_P (dC, dI) vwCl [(y, .inr (2, [.int (0 : Int32), .ref bH, .ref bS, .ref bL, .int mel, .ref bO, .ref bK, .ref bZ, .int sea, .int rnd, .int bas, .int lim, .ref bR, .ref bG, .ref bB, .ref bX])), (bH, .inl (cI, 34, .inl hM)), (bR, .inl (cI, 34, .inl rM_2)), (bG, .inl (cI, 4, .inl gM_3))] H := hP
  have hD : va_D A [(y, .inr (2, [.int (0 : Int32), .ref bH, .ref bS, .ref bL, .int mel, .ref bO, .ref bK, .ref bZ, .int sea, .int rnd, .int bas, .int lim, .ref bR, .ref bG, .ref bB, .ref bX])), (bH, .inl (cI, 34, .inl hM)), (bR, .inl (cI, 34, .inl rM_2)), (bG, .inl (cI, 4, .inl gM_3))] := hD
  obtain ⟨h4, hw⟩ := hw
  rw [← hQ9]
  exact W.zret (v := r1) hx hb hr h4 (fun t ht hW => ⟨⟨r1, ((0 : Int32), rM_2, gM_3), rfl, hw, by rw [ht]; exact hP, va_K.moved hW.alike hK, hD⟩, hS.F ht⟩) hS.2.2 dX2_isComplete_9

def w_X2_waitsFor (mel : Int32) (hM : (Nat → Int32)) (lM : (Nat → Int32)) (rM : (Nat → Int32)) (gM : (Nat → Int32)) (p0 : Int32) (post : Int32 → (Nat → Int32) → (Nat → Int32) → (Nat → Int32) → Prop) : Prop := w_X2_sizeOf mel hM (fun r1 => (((r1 = (13 : Int32) → (vp_in p0 34 ∧ (vp_in p0 34 ∧ (((((hM p0.toNatClampNeg) + (lM p0.toNatClampNeg)) = (4 : Int32) → (post (0 : Int32) hM rM gM)) ∧ (¬ ((hM p0.toNatClampNeg) + (lM p0.toNatClampNeg)) = (4 : Int32) → (vp_in p0 34 ∧ (vp_in p0 34 ∧ (w_X2_completes mel (upd hM p0.toNatClampNeg ((hM p0.toNatClampNeg) + (1 : Int32))) rM gM (fun r8 rM_9 gM_10 => (vp_in p0 34 ∧ (vp_in p0 34 ∧ (narrow .boolean (.int r8) = .int r8 ∧ post r8 (upd (upd hM p0.toNatClampNeg ((hM p0.toNatClampNeg) + (1 : Int32))) p0.toNatClampNeg (((upd hM p0.toNatClampNeg ((hM p0.toNatClampNeg) + (1 : Int32))) p0.toNatClampNeg) - (1 : Int32))) rM_9 gM_10))))))))))))) ∧ (¬ r1 = (13 : Int32) → (post (0 : Int32) hM rM gM)))))

set_option maxHeartbeats 4000000 in
set_option maxRecDepth 100000 in
theorem c_X2_waitsFor (l : Launch) (dC : Nat → ClassId) (dI : Nat → Nat → Nat) (cI cZ : ClassId) (y : Nat) (bH : Nat) (bS : Nat) (bL : Nat) (bO : Nat) (bK : Nat) (bZ : Nat) (bR : Nat) (bG : Nat) (bB : Nat) (bX : Nat) (sz : Nat) (thr : Int32) (mel : Int32) (sea : Int32) (rnd : Int32) (bas : Int32) (lim : Int32) (hM : (Nat → Int32)) (lM : (Nat → Int32)) (rM : (Nat → Int32)) (gM : (Nat → Int32)) (p0 : Int32) (post : Int32 → (Nat → Int32) → (Nat → Int32) → (Nat → Int32) → Prop) (hw : w_X2_waitsFor mel hM lM rM gM p0 post) : Met l yX2_waitsFor wsX2_waitsFor ({ frames := 5, cells := 0, slots := 0, locals := 104 } : Room) (va_Pc [.ref y, .int p0] (fun U => U.heap.size = sz ∧ va_P (dC, dI) vwCl [(y, .inr (2, [.int thr, .ref bH, .ref bS, .ref bL, .int mel, .ref bO, .ref bK, .ref bZ, .int sea, .int rnd, .int bas, .int lim, .ref bR, .ref bG, .ref bB, .ref bX])), (bH, .inl (cI, 34, .inl hM)), (bL, .inl (cI, 34, .inl lM)), (bR, .inl (cI, 34, .inl rM)), (bG, .inl (cI, 4, .inl gM))] U.heap ∧ va_K (dC, dI) vwCl [(cI, .int), (cZ, .boolean)] U ∧ va_D (fun _ => True) [(y, .inr (2, [.int thr, .ref bH, .ref bS, .ref bL, .int mel, .ref bO, .ref bK, .ref bZ, .int sea, .int rnd, .int bas, .int lim, .ref bR, .ref bG, .ref bB, .ref bX])), (bH, .inl (cI, 34, .inl hM)), (bL, .inl (cI, 34, .inl lM)), (bR, .inl (cI, 34, .inl rM)), (bG, .inl (cI, 4, .inl gM))])) (va_Qi (fun (r9 : Int32) (u9 : (Nat → Int32) × (Nat → Int32) × (Nat → Int32)) => post r9 u9.1 u9.2.1 u9.2.2) (fun (u9 : (Nat → Int32) × (Nat → Int32) × (Nat → Int32)) (t9 : State) => va_P (dC, dI) vwCl [(y, .inr (2, [.int thr, .ref bH, .ref bS, .ref bL, .int mel, .ref bO, .ref bK, .ref bZ, .int sea, .int rnd, .int bas, .int lim, .ref bR, .ref bG, .ref bB, .ref bX])), (bH, .inl (cI, 34, .inl u9.1)), (bL, .inl (cI, 34, .inl lM)), (bR, .inl (cI, 34, .inl u9.2.1)), (bG, .inl (cI, 4, .inl u9.2.2))] t9.heap ∧ va_K (dC, dI) vwCl [(cI, .int), (cZ, .boolean)] t9 ∧ va_D (va_A [(y, .inr (2, [.int thr, .ref bH, .ref bS, .ref bL, .int mel, .ref bO, .ref bK, .ref bZ, .int sea, .int rnd, .int bas, .int lim, .ref bR, .ref bG, .ref bB, .ref bX])), (bH, .inl (cI, 34, .inl hM)), (bL, .inl (cI, 34, .inl lM)), (bR, .inl (cI, 34, .inl rM)), (bG, .inl (cI, 4, .inl gM))] sz) [(y, .inr (2, [.int thr, .ref bH, .ref bS, .ref bL, .int mel, .ref bO, .ref bK, .ref bZ, .int sea, .int rnd, .int bas, .int lim, .ref bR, .ref bG, .ref bB, .ref bX])), (bH, .inl (cI, 34, .inl u9.1)), (bL, .inl (cI, 34, .inl lM)), (bR, .inl (cI, 34, .inl u9.2.1)), (bG, .inl (cI, 4, .inl u9.2.2))]) (va_A [(y, .inr (2, [.int thr, .ref bH, .ref bS, .ref bL, .int mel, .ref bO, .ref bK, .ref bZ, .int sea, .int rnd, .int bas, .int lim, .ref bR, .ref bG, .ref bB, .ref bX])), (bH, .inl (cI, 34, .inl hM)), (bL, .inl (cI, 34, .inl lM)), (bR, .inl (cI, 34, .inl rM)), (bG, .inl (cI, 4, .inl gM))] sz)) 0 0 (va_A [(y, .inr (2, [.int thr, .ref bH, .ref bS, .ref bL, .int mel, .ref bO, .ref bK, .ref bZ, .int sea, .int rnd, .int bas, .int lim, .ref bR, .ref bG, .ref bB, .ref bX])), (bH, .inl (cI, 34, .inl hM)), (bL, .inl (cI, 34, .inl lM)), (bR, .inl (cI, 34, .inl rM)), (bG, .inl (cI, 4, .inl gM))] sz) := by
  refine Met.ofW (cc := cX2_waitsFor) (maxL := 3) (ret := (some .boolean)) (by decide) rfl ?_
  intro p e s m args below meth c s₁ B hml hv
  obtain ⟨rfl, hsz, hP, hK, hD0⟩ := hv
  have hx := B.exec
  have hb := B.bytes
  have hr := B.returns
  have hts := atoms_spec (ws := wsX2_waitsFor) B.pre
  have hown : s.vm.findClass RX2 = some m.cls := findClass_of_methodNamed B.named
  have hlocks := B.notSynchronized
  have hinX2 : ∀ w ∈ u_ws RX2 TX2 16, w ∈ wsX2_waitsFor := by decide +kernel
  subst hsz
  have hD := hD0.self (sz := s.heap.size)
  generalize hAe : va_A [(y, .inr (2, [.int thr, .ref bH, .ref bS, .ref bL, .int mel, .ref bO, .ref bK, .ref bZ, .int sea, .int rnd, .int bas, .int lim, .ref bR, .ref bG, .ref bB, .ref bX])), (bH, .inl (cI, 34, .inl hM)), (bL, .inl (cI, 34, .inl lM)), (bR, .inl (cI, 34, .inl rM)), (bG, .inl (cI, 4, .inl gM))] s.heap.size = A at hD ⊢
  have hA : ∀ q : Nat, s.heap.size ≤ q → A q := fun q h => by rw [← hAe]; exact Or.inr h
  have hS : va_S A s.heap s.heap [] := va_S.rf
  have hl := lv_entry ([.ref y, .int p0]) (n := 3) (Nat.le_of_ble_eq_true rfl)
  rw [lg_entry_eq]
  generalize (lg_sl ([.ref y, .int p0]) ++ List.replicate (3 - (lg_sl ([.ref y, .int p0])).length) Slot.unset).toArray = ls at hl ⊢
  have hl : lv_has ls 3 [(0, .ref y), (1, .int p0)] := hl
  refine (?_ : ∀ Q9 : State → Prop, MQ below _ _ s _ _ _ = Q9 → W p l e ({ frames := 5, cells := 0, slots := 0, locals := 104 } : Room) s m _ below meth c s.heap [] 0 0 Q9 (F0 m 0 ls [])) _ rfl
  intro Q9 hQ9
  have hw : w_X2_sizeOf mel hM (fun r1 => (((r1 = (13 : Int32) → (vp_in p0 34 ∧ (vp_in p0 34 ∧ (((((hM p0.toNatClampNeg) + (lM p0.toNatClampNeg)) = (4 : Int32) → (post (0 : Int32) hM rM gM)) ∧ (¬ ((hM p0.toNatClampNeg) + (lM p0.toNatClampNeg)) = (4 : Int32) → (vp_in p0 34 ∧ (vp_in p0 34 ∧ (w_X2_completes mel (upd hM p0.toNatClampNeg ((hM p0.toNatClampNeg) + (1 : Int32))) rM gM (fun r8 rM_9 gM_10 => (vp_in p0 34 ∧ (vp_in p0 34 ∧ (narrow .boolean (.int r8) = .int r8 ∧ post r8 (upd (upd hM p0.toNatClampNeg ((hM p0.toNatClampNeg) + (1 : Int32))) p0.toNatClampNeg (((upd hM p0.toNatClampNeg ((hM p0.toNatClampNeg) + (1 : Int32))) p0.toNatClampNeg) - (1 : Int32))) rM_9 gM_10))))))))))))) ∧ (¬ r1 = (13 : Int32) → (post (0 : Int32) hM rM gM))))) := hw
  refine lv_aload_n hx hb dX2_waitsFor_0 rfl (lv_at hl 0 rfl) ?_
  have hPc := hP.sub (ws' := [(y, .inr (2, [.int thr, .ref bH, .ref bS, .ref bL, .int mel, .ref bO, .ref bK, .ref bZ, .int sea, .int rnd, .int bas, .int lim, .ref bR, .ref bG, .ref bB, .ref bX])), (bH, .inl (cI, 34, .inl hM))]) [0, 1] rfl
  have hDc := hD.sub (ws' := [(y, .inr (2, [.int thr, .ref bH, .ref bS, .ref bL, .int mel, .ref bO, .ref bK, .ref bZ, .int sea, .int rnd, .int bas, .int lim, .ref bR, .ref bG, .ref bB, .ref bX])), (bH, .inl (cI, 34, .inl hM))]) [0, 1] (by decide) rfl
  have hFc := va_free (wc := [(y, .inr (2, [.int thr, .ref bH, .ref bS, .ref bL, .int mel, .ref bO, .ref bK, .ref bZ, .int sea, .int rnd, .int bas, .int lim, .ref bR, .ref bG, .ref bB, .ref bX])), (bH, .inl (cI, 34, .inl hM))]) hD hS hA [0, 1] rfl
  refine va_calli (va_runV (As := []) (rest := []) ⟨hx, hb, hml, hown, hts⟩ (c_X2_sizeOf l dC dI cI cZ y bH bS bL bO bK bZ bR bG bB bX s.heap.size thr mel sea rnd bas lim hM _ hw) (cwV 0 hts gX2_waitsFor_X2_sizeOf rfl rfl rfl (by decide +kernel) ⟨Nat.le_of_ble_eq_true rfl, Nat.le_of_ble_eq_true rfl⟩) ⟨fun a U g mk q => by obtain ⟨q0, q1, qP, qK, qD⟩ := q; exact ⟨q0, q1, qP, va_K.moved (u := U) (U := U.calling g mk a) (Vm.Alike.refl U.vm) qK, qD⟩, va_recv hK hPc (ci := 2) (q0 := 0) rfl rfl, fun U hU hW => ⟨rfl, by rw [hU], by rw [hU]; exact hPc, va_K.moved hW.alike hK, hDc.weaken (fun _ _ _ _ => trivial)⟩⟩ rfl rfl hl.1 rfl (lv_room (Nat.le_of_ble_eq_true rfl)) dX2_waitsFor_1 ⟨Nat.le_of_ble_eq_true rfl, Nat.le_of_ble_eq_true rfl⟩) hS (fun q _ h => hFc q h) hFc (fun r1 u t H1 locs ht hvm hw hB hz1 hk1 hS => ?_)
  obtain ⟨hP1, -, hD1⟩ := hB
  have hw := And.intro hw trivial
  try dsimp only at hw
  have hw := hw.1
  rw [ht] at hP1
  obtain ⟨hP, hD⟩ := va_join (wr := [(bL, .inl (cI, 34, .inl lM)), (bR, .inl (cI, 34, .inl rM)), (bG, .inl (cI, 4, .inl gM))]) (w1 := [(y, .inr (2, [.int thr, .ref bH, .ref bS, .ref bL, .int mel, .ref bO, .ref bK, .ref bZ, .int sea, .int rnd, .int bas, .int lim, .ref bR, .ref bG, .ref bB, .ref bX])), (bH, .inl (cI, 34, .inl hM))]) hP hD [0, 1] [2, 3, 4] rfl rfl (by decide) (by decide) hk1 hFc hP1 hD1
  generalize H1 = H at hP hS ⊢
  have hP : va_P (dC, dI) vwCl [(bL, .inl (cI, 34, .inl lM)), (bR, .inl (cI, 34, .inl rM)), (bG, .inl (cI, 4, .inl gM)), (y, .inr (2, [.int thr, .ref bH, .ref bS, .ref bL, .int mel, .ref bO, .ref bK, .ref bZ, .int sea, .int rnd, .int bas, .int lim, .ref bR, .ref bG, .ref bB, .ref bX])), (bH, .inl (cI, 34, .inl hM))] H := hP
  have hD : va_D A [(bL, .inl (cI, 34, .inl lM)), (bR, .inl (cI, 34, .inl rM)), (bG, .inl (cI, 4, .inl gM)), (y, .inr (2, [.int thr, .ref bH, .ref bS, .ref bL, .int mel, .ref bO, .ref bK, .ref bZ, .int sea, .int rnd, .int bas, .int lim, .ref bR, .ref bG, .ref bB, .ref bX])), (bH, .inl (cI, 34, .inl hM))] := hD
  refine lv_bipush (v := 13) hx hb dX2_waitsFor_4 (by decide) ?_
  refine lv_icmp_ne (tgt := 26) hx hb dX2_waitsFor_6 (by decide) (fun c2 => ?_) (fun c2 => ?_)
  · have hw := hw.2 c2
    refine lv_iconst (v := 0) hx hb dX2_waitsFor_26 (by decide) ?_
    have hP9 := hP.sub (ws' := [(y, .inr (2, [.int thr, .ref bH, .ref bS, .ref bL, .int mel, .ref bO, .ref bK, .ref bZ, .int sea, .int rnd, .int bas, .int lim, .ref bR, .ref bG, .ref bB, .ref bX])), (bH, .inl (cI, 34, .inl hM)), (bL, .inl (cI, 34, .inl lM)), (bR, .inl (cI, 34, .inl rM)), (bG, .inl (cI, 4, .inl gM))]) [3, 4, 0, 1, 2] rfl
    have hD9 := hD.sub (ws' := [(y, .inr (2, [.int thr, .ref bH, .ref bS, .ref bL, .int mel, .ref bO, .ref bK, .ref bZ, .int sea, .int rnd, .int bas, .int lim, .ref bR, .ref bG, .ref bB, .ref bX])), (bH, .inl (cI, 34, .inl hM)), (bL, .inl (cI, 34, .inl lM)), (bR, .inl (cI, 34, .inl rM)), (bG, .inl (cI, 4, .inl gM))]) [3, 4, 0, 1, 2] (by decide) rfl
    rw [← hQ9]
    exact W.zret (v := (0 : Int32)) hx hb hr rfl (fun t ht hW => ⟨⟨(0 : Int32), (hM, rM, gM), rfl, hw, by rw [ht]; exact hP9, va_K.moved hW.alike hK, hD9⟩, hS.F ht⟩) hS.2.2 dX2_waitsFor_27
  · have hw := hw.1 c2
    refine lv_aload_n hx hb dX2_waitsFor_9 rfl (lv_at hl 0 rfl) ?_
    refine va_get (D := (dC, dI)) (ci := 2) (v := .ref bH) (C := RX2) (T := TX2) (N := 16) hx hb hts hinX2 hown hK hP 3 rfl rfl 1 (by decide) (hts (.fieldLink RX2 9 "TileHandModel" "hand" "[I") (by decide +kernel)) (fun _ h9 => h9) rfl dX2_waitsFor_10 ?_
    refine lv_iload_n hx hb dX2_waitsFor_13 rfl (lv_at hl 1 rfl) ?_
    obtain ⟨h3, hw⟩ := hw
    refine va_iald hx hb hK hP 4 0 rfl rfl h3 dX2_waitsFor_14 ?_
    refine lv_aload_n hx hb dX2_waitsFor_15 rfl (lv_at hl 0 rfl) ?_
    refine va_get (D := (dC, dI)) (ci := 2) (v := .ref bL) (C := RX2) (T := TX2) (N := 16) hx hb hts hinX2 hown hK hP 3 rfl rfl 3 (by decide) (hts (.fieldLink RX2 16 "TileHandModel" "laid" "[I") (by decide +kernel)) (fun _ h9 => h9) rfl dX2_waitsFor_16 ?_
    refine lv_iload_n hx hb dX2_waitsFor_19 rfl (lv_at hl 1 rfl) ?_
    obtain ⟨h4, hw⟩ := hw
    refine va_iald hx hb hK hP 0 0 rfl rfl h4 dX2_waitsFor_20 ?_
    refine lv_iadd hx hb dX2_waitsFor_21 ?_
    refine lv_iconst (v := 4) hx hb dX2_waitsFor_22 (by decide) ?_
    refine lv_icmp_ne (tgt := 28) hx hb dX2_waitsFor_23 (by decide) (fun c5 => ?_) (fun c5 => ?_)
    · have hw := hw.2 c5
      refine lv_aload_n hx hb dX2_waitsFor_28 rfl (lv_at hl 0 rfl) ?_
      refine va_get (D := (dC, dI)) (ci := 2) (v := .ref bH) (C := RX2) (T := TX2) (N := 16) hx hb hts hinX2 hown hK hP 3 rfl rfl 1 (by decide) (hts (.fieldLink RX2 9 "TileHandModel" "hand" "[I") (by decide +kernel)) (fun _ h9 => h9) rfl dX2_waitsFor_29 ?_
      refine lv_iload_n hx hb dX2_waitsFor_32 rfl (lv_at hl 1 rfl) ?_
      refine lv_dup2_11 hx hb dX2_waitsFor_33 rfl rfl ?_
      obtain ⟨h6, hw⟩ := hw
      refine va_iald hx hb hK hP 4 0 rfl rfl h6 dX2_waitsFor_34 ?_
      refine lv_iconst (v := 1) hx hb dX2_waitsFor_35 (by decide) ?_
      refine lv_iadd hx hb dX2_waitsFor_36 ?_
      obtain ⟨h7, hw⟩ := hw
      refine va_iast hx hb hK hP hD hS 4 0 rfl rfl h7 dX2_waitsFor_37 (fun H locs hP hD hS => ?_)
      have hP : va_P (dC, dI) vwCl [(bL, .inl (cI, 34, .inl lM)), (bR, .inl (cI, 34, .inl rM)), (bG, .inl (cI, 4, .inl gM)), (y, .inr (2, [.int thr, .ref bH, .ref bS, .ref bL, .int mel, .ref bO, .ref bK, .ref bZ, .int sea, .int rnd, .int bas, .int lim, .ref bR, .ref bG, .ref bB, .ref bX])), (bH, .inl (cI, 34, .inl (upd hM p0.toNatClampNeg ((hM p0.toNatClampNeg) + (1 : Int32)))))] H := hP
      have hD : va_D A [(bL, .inl (cI, 34, .inl lM)), (bR, .inl (cI, 34, .inl rM)), (bG, .inl (cI, 4, .inl gM)), (y, .inr (2, [.int thr, .ref bH, .ref bS, .ref bL, .int mel, .ref bO, .ref bK, .ref bZ, .int sea, .int rnd, .int bas, .int lim, .ref bR, .ref bG, .ref bB, .ref bX])), (bH, .inl (cI, 34, .inl (upd hM p0.toNatClampNeg ((hM p0.toNatClampNeg) + (1 : Int32)))))] := hD
      refine lv_aload_n hx hb dX2_waitsFor_38 rfl (lv_at hl 0 rfl) ?_
      have hPc := hP.sub (ws' := [(y, .inr (2, [.int thr, .ref bH, .ref bS, .ref bL, .int mel, .ref bO, .ref bK, .ref bZ, .int sea, .int rnd, .int bas, .int lim, .ref bR, .ref bG, .ref bB, .ref bX])), (bH, .inl (cI, 34, .inl (upd hM p0.toNatClampNeg ((hM p0.toNatClampNeg) + (1 : Int32))))), (bR, .inl (cI, 34, .inl rM)), (bG, .inl (cI, 4, .inl gM))]) [3, 4, 1, 2] rfl
      have hDc := hD.sub (ws' := [(y, .inr (2, [.int thr, .ref bH, .ref bS, .ref bL, .int mel, .ref bO, .ref bK, .ref bZ, .int sea, .int rnd, .int bas, .int lim, .ref bR, .ref bG, .ref bB, .ref bX])), (bH, .inl (cI, 34, .inl (upd hM p0.toNatClampNeg ((hM p0.toNatClampNeg) + (1 : Int32))))), (bR, .inl (cI, 34, .inl rM)), (bG, .inl (cI, 4, .inl gM))]) [3, 4, 1, 2] (by decide) rfl
      have hFc := va_free (wc := [(y, .inr (2, [.int thr, .ref bH, .ref bS, .ref bL, .int mel, .ref bO, .ref bK, .ref bZ, .int sea, .int rnd, .int bas, .int lim, .ref bR, .ref bG, .ref bB, .ref bX])), (bH, .inl (cI, 34, .inl (upd hM p0.toNatClampNeg ((hM p0.toNatClampNeg) + (1 : Int32))))), (bR, .inl (cI, 34, .inl rM)), (bG, .inl (cI, 4, .inl gM))]) hD hS hA [3, 4, 1, 2] rfl
      refine va_calli (va_runV (As := []) (rest := []) ⟨hx, hb, hml, hown, hts⟩ (c_X2_completes l dC dI cI cZ y bH bS bL bO bK bZ bR bG bB bX H.size thr mel sea rnd bas lim (upd hM p0.toNatClampNeg ((hM p0.toNatClampNeg) + (1 : Int32))) rM gM _ hw) (cwV 0 hts gX2_waitsFor_X2_completes rfl rfl rfl (by decide +kernel) ⟨Nat.le_of_ble_eq_true rfl, Nat.le_of_ble_eq_true rfl⟩) ⟨fun a U g mk q => by obtain ⟨q0, q1, qP, qK, qD⟩ := q; exact ⟨q0, q1, qP, va_K.moved (u := U) (U := U.calling g mk a) (Vm.Alike.refl U.vm) qK, qD⟩, va_recv hK hPc (ci := 2) (q0 := 0) rfl rfl, fun U hU hW => ⟨rfl, by rw [hU], by rw [hU]; exact hPc, va_K.moved hW.alike hK, hDc.weaken (fun _ _ _ _ => trivial)⟩⟩ rfl rfl hl.1 rfl (lv_room (Nat.le_of_ble_eq_true rfl)) dX2_waitsFor_39 ⟨Nat.le_of_ble_eq_true rfl, Nat.le_of_ble_eq_true rfl⟩) hS (fun q _ h => hFc q h) hFc (fun r8 u t H1 locs ht hvm hw hB hz1 hk1 hS => ?_)
      obtain ⟨rM_9, gM_10⟩ := u
      obtain ⟨hP1, -, hD1⟩ := hB
      have hw := And.intro hw trivial
      try dsimp only at hw
      have hw := hw.1
      rw [ht] at hP1
      obtain ⟨hP, hD⟩ := va_join (wr := [(bL, .inl (cI, 34, .inl lM))]) (w1 := [(y, .inr (2, [.int thr, .ref bH, .ref bS, .ref bL, .int mel, .ref bO, .ref bK, .ref bZ, .int sea, .int rnd, .int bas, .int lim, .ref bR, .ref bG, .ref bB, .ref bX])), (bH, .inl (cI, 34, .inl (upd hM p0.toNatClampNeg ((hM p0.toNatClampNeg) + (1 : Int32))))), (bR, .inl (cI, 34, .inl rM_9)), (bG, .inl (cI, 4, .inl gM_10))]) hP hD [3, 4, 1, 2] [0] rfl rfl (by decide) (by decide) hk1 hFc hP1 hD1
      generalize H1 = H at hP hS ⊢
      have hP : va_P (dC, dI) vwCl [(bL, .inl (cI, 34, .inl lM)), (y, .inr (2, [.int thr, .ref bH, .ref bS, .ref bL, .int mel, .ref bO, .ref bK, .ref bZ, .int sea, .int rnd, .int bas, .int lim, .ref bR, .ref bG, .ref bB, .ref bX])), (bH, .inl (cI, 34, .inl (upd hM p0.toNatClampNeg ((hM p0.toNatClampNeg) + (1 : Int32))))), (bR, .inl (cI, 34, .inl rM_9)), (bG, .inl (cI, 4, .inl gM_10))] H := hP
      have hD : va_D A [(bL, .inl (cI, 34, .inl lM)), (y, .inr (2, [.int thr, .ref bH, .ref bS, .ref bL, .int mel, .ref bO, .ref bK, .ref bZ, .int sea, .int rnd, .int bas, .int lim, .ref bR, .ref bG, .ref bB, .ref bX])), (bH, .inl (cI, 34, .inl (upd hM p0.toNatClampNeg ((hM p0.toNatClampNeg) + (1 : Int32))))), (bR, .inl (cI, 34, .inl rM_9)), (bG, .inl (cI, 4, .inl gM_10))] := hD
      refine lv_istore_n (lv' := [(2, .int r8), (0, .ref y), (1, .int p0)]) hx hb dX2_waitsFor_42 rfl hl (by decide) rfl (fun ls hl => ?_)
      refine lv_aload_n hx hb dX2_waitsFor_43 rfl (lv_at hl 1 rfl) ?_
      refine va_get (D := (dC, dI)) (ci := 2) (v := .ref bH) (C := RX2) (T := TX2) (N := 16) hx hb hts hinX2 hown hK hP 1 rfl rfl 1 (by decide) (hts (.fieldLink RX2 9 "TileHandModel" "hand" "[I") (by decide +kernel)) (fun _ h9 => h9) rfl dX2_waitsFor_44 ?_
      refine lv_iload_n hx hb dX2_waitsFor_47 rfl (lv_at hl 2 rfl) ?_
      refine lv_dup2_11 hx hb dX2_waitsFor_48 rfl rfl ?_
      obtain ⟨h11, hw⟩ := hw
      refine va_iald hx hb hK hP 2 0 rfl rfl h11 dX2_waitsFor_49 ?_
      refine lv_iconst (v := 1) hx hb dX2_waitsFor_50 (by decide) ?_
      refine lv_isub hx hb dX2_waitsFor_51 ?_
      obtain ⟨h12, hw⟩ := hw
      refine va_iast hx hb hK hP hD hS 2 0 rfl rfl h12 dX2_waitsFor_52 (fun H locs hP hD hS => ?_)
      have hP : va_P (dC, dI) vwCl [(bL, .inl (cI, 34, .inl lM)), (y, .inr (2, [.int thr, .ref bH, .ref bS, .ref bL, .int mel, .ref bO, .ref bK, .ref bZ, .int sea, .int rnd, .int bas, .int lim, .ref bR, .ref bG, .ref bB, .ref bX])), (bH, .inl (cI, 34, .inl (upd (upd hM p0.toNatClampNeg ((hM p0.toNatClampNeg) + (1 : Int32))) p0.toNatClampNeg (((upd hM p0.toNatClampNeg ((hM p0.toNatClampNeg) + (1 : Int32))) p0.toNatClampNeg) - (1 : Int32))))), (bR, .inl (cI, 34, .inl rM_9)), (bG, .inl (cI, 4, .inl gM_10))] H := hP
      have hD : va_D A [(bL, .inl (cI, 34, .inl lM)), (y, .inr (2, [.int thr, .ref bH, .ref bS, .ref bL, .int mel, .ref bO, .ref bK, .ref bZ, .int sea, .int rnd, .int bas, .int lim, .ref bR, .ref bG, .ref bB, .ref bX])), (bH, .inl (cI, 34, .inl (upd (upd hM p0.toNatClampNeg ((hM p0.toNatClampNeg) + (1 : Int32))) p0.toNatClampNeg (((upd hM p0.toNatClampNeg ((hM p0.toNatClampNeg) + (1 : Int32))) p0.toNatClampNeg) - (1 : Int32))))), (bR, .inl (cI, 34, .inl rM_9)), (bG, .inl (cI, 4, .inl gM_10))] := hD
      refine lv_iload_n hx hb dX2_waitsFor_53 rfl (lv_at hl 0 rfl) ?_
      have hP9 := hP.sub (ws' := [(y, .inr (2, [.int thr, .ref bH, .ref bS, .ref bL, .int mel, .ref bO, .ref bK, .ref bZ, .int sea, .int rnd, .int bas, .int lim, .ref bR, .ref bG, .ref bB, .ref bX])), (bH, .inl (cI, 34, .inl (upd (upd hM p0.toNatClampNeg ((hM p0.toNatClampNeg) + (1 : Int32))) p0.toNatClampNeg (((upd hM p0.toNatClampNeg ((hM p0.toNatClampNeg) + (1 : Int32))) p0.toNatClampNeg) - (1 : Int32))))), (bL, .inl (cI, 34, .inl lM)), (bR, .inl (cI, 34, .inl rM_9)), (bG, .inl (cI, 4, .inl gM_10))]) [1, 2, 0, 3, 4] rfl
      have hD9 := hD.sub (ws' := [(y, .inr (2, [.int thr, .ref bH, .ref bS, .ref bL, .int mel, .ref bO, .ref bK, .ref bZ, .int sea, .int rnd, .int bas, .int lim, .ref bR, .ref bG, .ref bB, .ref bX])), (bH, .inl (cI, 34, .inl (upd (upd hM p0.toNatClampNeg ((hM p0.toNatClampNeg) + (1 : Int32))) p0.toNatClampNeg (((upd hM p0.toNatClampNeg ((hM p0.toNatClampNeg) + (1 : Int32))) p0.toNatClampNeg) - (1 : Int32))))), (bL, .inl (cI, 34, .inl lM)), (bR, .inl (cI, 34, .inl rM_9)), (bG, .inl (cI, 4, .inl gM_10))]) [1, 2, 0, 3, 4] (by decide) rfl
      obtain ⟨h13, hw⟩ := hw
      rw [← hQ9]
      exact W.zret (v := r8) hx hb hr h13 (fun t ht hW => ⟨⟨r8, (upd (upd hM p0.toNatClampNeg ((hM p0.toNatClampNeg) + (1 : Int32))) p0.toNatClampNeg (((upd hM p0.toNatClampNeg ((hM p0.toNatClampNeg) + (1 : Int32))) p0.toNatClampNeg) - (1 : Int32)), rM_9, gM_10), rfl, hw, by rw [ht]; exact hP9, va_K.moved hW.alike hK, hD9⟩, hS.F ht⟩) hS.2.2 dX2_waitsFor_54
    · have hw := hw.1 c5
      refine lv_iconst (v := 0) hx hb dX2_waitsFor_26 (by decide) ?_
      have hP9 := hP.sub (ws' := [(y, .inr (2, [.int thr, .ref bH, .ref bS, .ref bL, .int mel, .ref bO, .ref bK, .ref bZ, .int sea, .int rnd, .int bas, .int lim, .ref bR, .ref bG, .ref bB, .ref bX])), (bH, .inl (cI, 34, .inl hM)), (bL, .inl (cI, 34, .inl lM)), (bR, .inl (cI, 34, .inl rM)), (bG, .inl (cI, 4, .inl gM))]) [3, 4, 0, 1, 2] rfl
      have hD9 := hD.sub (ws' := [(y, .inr (2, [.int thr, .ref bH, .ref bS, .ref bL, .int mel, .ref bO, .ref bK, .ref bZ, .int sea, .int rnd, .int bas, .int lim, .ref bR, .ref bG, .ref bB, .ref bX])), (bH, .inl (cI, 34, .inl hM)), (bL, .inl (cI, 34, .inl lM)), (bR, .inl (cI, 34, .inl rM)), (bG, .inl (cI, 4, .inl gM))]) [3, 4, 0, 1, 2] (by decide) rfl
      rw [← hQ9]
      exact W.zret (v := (0 : Int32)) hx hb hr rfl (fun t ht hW => ⟨⟨(0 : Int32), (hM, rM, gM), rfl, hw, by rw [ht]; exact hP9, va_K.moved hW.alike hK, hD9⟩, hS.F ht⟩) hS.2.2 dX2_waitsFor_27

def w_X2_waitingSet_b24 (post : Int64 → (Nat → Int32) → (Nat → Int32) → (Nat → Int32) → Prop) (mel : Int32) (lM : (Nat → Int32)) (K4 : Int64 → Int32 → (Nat → Int32) → (Nat → Int32) → (Nat → Int32) → Prop) (v1 : Int64) (v3 : Int32) (hM : (Nat → Int32)) (rM : (Nat → Int32)) (gM : (Nat → Int32)) : Prop := K4 v1 (v3 + 1) hM rM gM

def w_X2_waitingSet_b4 (post : Int64 → (Nat → Int32) → (Nat → Int32) → (Nat → Int32) → Prop) (mel : Int32) (lM : (Nat → Int32)) : Nat → Int64 → Int32 → (Nat → Int32) → (Nat → Int32) → (Nat → Int32) → Prop
  | 0, _, _, _, _, _ => False
  | n + 1, v1, v3, hM, rM, gM => (((34 : Int32) ≤ v3 → (post v1 hM rM gM)) ∧ (¬ (34 : Int32) ≤ v3 → (w_X2_waitsFor mel hM lM rM gM v3 (fun r2 hM_3 rM_4 gM_5 => (((r2 = 0 → (w_X2_waitingSet_b24 post mel lM (w_X2_waitingSet_b4 post mel lM n) v1 v3 hM_3 rM_4 gM_5)) ∧ (¬ r2 = 0 → (∀ t7 : Int64, t7 = v1 ||| ((1 : Int64) <<< (v3.toInt64 &&& 63)) → (w_X2_waitingSet_b24 post mel lM (w_X2_waitingSet_b4 post mel lM n) t7 v3 hM_3 rM_4 gM_5)))))))))

def w_X2_waitingSet (mel : Int32) (hM : (Nat → Int32)) (lM : (Nat → Int32)) (rM : (Nat → Int32)) (gM : (Nat → Int32)) (post : Int64 → (Nat → Int32) → (Nat → Int32) → (Nat → Int32) → Prop) : Prop := ∃ n9, w_X2_waitingSet_b4 post mel lM n9 (0 : Int64) (0 : Int32) hM rM gM

set_option maxHeartbeats 4000000 in
set_option maxRecDepth 100000 in
theorem c_X2_waitingSet (l : Launch) (dC : Nat → ClassId) (dI : Nat → Nat → Nat) (cI cZ : ClassId) (y : Nat) (bH : Nat) (bS : Nat) (bL : Nat) (bO : Nat) (bK : Nat) (bZ : Nat) (bR : Nat) (bG : Nat) (bB : Nat) (bX : Nat) (sz : Nat) (thr : Int32) (mel : Int32) (sea : Int32) (rnd : Int32) (bas : Int32) (lim : Int32) (hM : (Nat → Int32)) (lM : (Nat → Int32)) (rM : (Nat → Int32)) (gM : (Nat → Int32)) (post : Int64 → (Nat → Int32) → (Nat → Int32) → (Nat → Int32) → Prop) (hw : w_X2_waitingSet mel hM lM rM gM post) : Met l yX2_waitingSet wsX2_waitingSet ({ frames := 6, cells := 0, slots := 0, locals := 126 } : Room) (va_Pc [.ref y] (fun U => U.heap.size = sz ∧ va_P (dC, dI) vwCl [(y, .inr (2, [.int thr, .ref bH, .ref bS, .ref bL, .int mel, .ref bO, .ref bK, .ref bZ, .int sea, .int rnd, .int bas, .int lim, .ref bR, .ref bG, .ref bB, .ref bX])), (bH, .inl (cI, 34, .inl hM)), (bL, .inl (cI, 34, .inl lM)), (bR, .inl (cI, 34, .inl rM)), (bG, .inl (cI, 4, .inl gM))] U.heap ∧ va_K (dC, dI) vwCl [(cI, .int), (cZ, .boolean)] U ∧ va_D (fun _ => True) [(y, .inr (2, [.int thr, .ref bH, .ref bS, .ref bL, .int mel, .ref bO, .ref bK, .ref bZ, .int sea, .int rnd, .int bas, .int lim, .ref bR, .ref bG, .ref bB, .ref bX])), (bH, .inl (cI, 34, .inl hM)), (bL, .inl (cI, 34, .inl lM)), (bR, .inl (cI, 34, .inl rM)), (bG, .inl (cI, 4, .inl gM))])) (va_Ql (fun (r9 : Int64) (u9 : (Nat → Int32) × (Nat → Int32) × (Nat → Int32)) => post r9 u9.1 u9.2.1 u9.2.2) (fun (u9 : (Nat → Int32) × (Nat → Int32) × (Nat → Int32)) (t9 : State) => va_P (dC, dI) vwCl [(y, .inr (2, [.int thr, .ref bH, .ref bS, .ref bL, .int mel, .ref bO, .ref bK, .ref bZ, .int sea, .int rnd, .int bas, .int lim, .ref bR, .ref bG, .ref bB, .ref bX])), (bH, .inl (cI, 34, .inl u9.1)), (bL, .inl (cI, 34, .inl lM)), (bR, .inl (cI, 34, .inl u9.2.1)), (bG, .inl (cI, 4, .inl u9.2.2))] t9.heap ∧ va_K (dC, dI) vwCl [(cI, .int), (cZ, .boolean)] t9 ∧ va_D (va_A [(y, .inr (2, [.int thr, .ref bH, .ref bS, .ref bL, .int mel, .ref bO, .ref bK, .ref bZ, .int sea, .int rnd, .int bas, .int lim, .ref bR, .ref bG, .ref bB, .ref bX])), (bH, .inl (cI, 34, .inl hM)), (bL, .inl (cI, 34, .inl lM)), (bR, .inl (cI, 34, .inl rM)), (bG, .inl (cI, 4, .inl gM))] sz) [(y, .inr (2, [.int thr, .ref bH, .ref bS, .ref bL, .int mel, .ref bO, .ref bK, .ref bZ, .int sea, .int rnd, .int bas, .int lim, .ref bR, .ref bG, .ref bB, .ref bX])), (bH, .inl (cI, 34, .inl u9.1)), (bL, .inl (cI, 34, .inl lM)), (bR, .inl (cI, 34, .inl u9.2.1)), (bG, .inl (cI, 4, .inl u9.2.2))]) (va_A [(y, .inr (2, [.int thr, .ref bH, .ref bS, .ref bL, .int mel, .ref bO, .ref bK, .ref bZ, .int sea, .int rnd, .int bas, .int lim, .ref bR, .ref bG, .ref bB, .ref bX])), (bH, .inl (cI, 34, .inl hM)), (bL, .inl (cI, 34, .inl lM)), (bR, .inl (cI, 34, .inl rM)), (bG, .inl (cI, 4, .inl gM))] sz)) 0 0 (va_A [(y, .inr (2, [.int thr, .ref bH, .ref bS, .ref bL, .int mel, .ref bO, .ref bK, .ref bZ, .int sea, .int rnd, .int bas, .int lim, .ref bR, .ref bG, .ref bB, .ref bX])), (bH, .inl (cI, 34, .inl hM)), (bL, .inl (cI, 34, .inl lM)), (bR, .inl (cI, 34, .inl rM)), (bG, .inl (cI, 4, .inl gM))] sz) := by
  refine Met.ofW (cc := cX2_waitingSet) (maxL := 4) (ret := (some .long)) (by decide) rfl ?_
  intro p e s m args below meth c s₁ B hml hv
  obtain ⟨rfl, hsz, hP, hK, hD0⟩ := hv
  have hx := B.exec
  have hb := B.bytes
  have hr := B.returns
  have hts := atoms_spec (ws := wsX2_waitingSet) B.pre
  have hown : s.vm.findClass RX2 = some m.cls := findClass_of_methodNamed B.named
  have hlocks := B.notSynchronized
  have hinX2 : ∀ w ∈ u_ws RX2 TX2 16, w ∈ wsX2_waitingSet := by decide +kernel
  subst hsz
  have hD := hD0.self (sz := s.heap.size)
  generalize hAe : va_A [(y, .inr (2, [.int thr, .ref bH, .ref bS, .ref bL, .int mel, .ref bO, .ref bK, .ref bZ, .int sea, .int rnd, .int bas, .int lim, .ref bR, .ref bG, .ref bB, .ref bX])), (bH, .inl (cI, 34, .inl hM)), (bL, .inl (cI, 34, .inl lM)), (bR, .inl (cI, 34, .inl rM)), (bG, .inl (cI, 4, .inl gM))] s.heap.size = A at hD ⊢
  have hA : ∀ q : Nat, s.heap.size ≤ q → A q := fun q h => by rw [← hAe]; exact Or.inr h
  have hS : va_S A s.heap s.heap [] := va_S.rf
  have hl := lv_entry ([.ref y]) (n := 4) (Nat.le_of_ble_eq_true rfl)
  rw [lg_entry_eq]
  generalize (lg_sl ([.ref y]) ++ List.replicate (4 - (lg_sl ([.ref y])).length) Slot.unset).toArray = ls at hl ⊢
  have hl : lv_has ls 4 [(0, .ref y)] := hl
  refine (?_ : ∀ Q9 : State → Prop, MQ below _ _ s _ _ _ = Q9 → W p l e ({ frames := 6, cells := 0, slots := 0, locals := 126 } : Room) s m _ below meth c s.heap [] 0 0 Q9 (F0 m 0 ls [])) _ rfl
  intro Q9 hQ9
  have hw : ∃ n9, w_X2_waitingSet_b4 post mel lM n9 (0 : Int64) (0 : Int32) hM rM gM := hw
  have L24 : ∀ (K4 : Int64 → Int32 → (Nat → Int32) → (Nat → Int32) → (Nat → Int32) → Prop) (hK4 : ∀ (v1 : Int64) (v3 : Int32) (hM : (Nat → Int32)) (rM : (Nat → Int32)) (gM : (Nat → Int32)) (H : Heap) (locs : List Loc) (ls : Array Slot), K4 v1 v3 hM rM gM → va_P (dC, dI) vwCl [(y, .inr (2, [.int thr, .ref bH, .ref bS, .ref bL, .int mel, .ref bO, .ref bK, .ref bZ, .int sea, .int rnd, .int bas, .int lim, .ref bR, .ref bG, .ref bB, .ref bX])), (bH, .inl (cI, 34, .inl hM)), (bL, .inl (cI, 34, .inl lM)), (bR, .inl (cI, 34, .inl rM)), (bG, .inl (cI, 4, .inl gM))] H → va_D A [(y, .inr (2, [.int thr, .ref bH, .ref bS, .ref bL, .int mel, .ref bO, .ref bK, .ref bZ, .int sea, .int rnd, .int bas, .int lim, .ref bR, .ref bG, .ref bB, .ref bX])), (bH, .inl (cI, 34, .inl hM)), (bL, .inl (cI, 34, .inl lM)), (bR, .inl (cI, 34, .inl rM)), (bG, .inl (cI, 4, .inl gM))] → va_S A s.heap H locs → lv_has ls 4 [(0, .ref y), (1, .long v1), (3, .int v3)] → W p l e ({ frames := 6, cells := 0, slots := 0, locals := 126 } : Room) s m ([.ref y] : List Value).toArray below meth c H locs 0 0 Q9 (F0 m 4 ls [])), ∀ (v1 : Int64) (v3 : Int32) (hM : (Nat → Int32)) (rM : (Nat → Int32)) (gM : (Nat → Int32)) (H : Heap) (locs : List Loc) (ls : Array Slot), w_X2_waitingSet_b24 post mel lM K4 v1 v3 hM rM gM → va_P (dC, dI) vwCl [(y, .inr (2, [.int thr, .ref bH, .ref bS, .ref bL, .int mel, .ref bO, .ref bK, .ref bZ, .int sea, .int rnd, .int bas, .int lim, .ref bR, .ref bG, .ref bB, .ref bX])), (bH, .inl (cI, 34, .inl hM)), (bL, .inl (cI, 34, .inl lM)), (bR, .inl (cI, 34, .inl rM)), (bG, .inl (cI, 4, .inl gM))] H → va_D A [(y, .inr (2, [.int thr, .ref bH, .ref bS, .ref bL, .int mel, .ref bO, .ref bK, .ref bZ, .int sea, .int rnd, .int bas, .int lim, .ref bR, .ref bG, .ref bB, .ref bX])), (bH, .inl (cI, 34, .inl hM)), (bL, .inl (cI, 34, .inl lM)), (bR, .inl (cI, 34, .inl rM)), (bG, .inl (cI, 4, .inl gM))] → va_S A s.heap H locs → lv_has ls 4 [(0, .ref y), (1, .long v1), (3, .int v3)] → W p l e ({ frames := 6, cells := 0, slots := 0, locals := 126 } : Room) s m ([.ref y] : List Value).toArray below meth c H locs 0 0 Q9 (F0 m 24 ls []) := by
    intro K4 hK4 v1 v3 hM rM gM H locs ls hw hP hD hS hl
    refine lv_iinc (v := v3 + 1) (lv' := [(3, .int (v3 + 1)), (0, .ref y), (1, .long v1)]) hx hb dX2_waitingSet_24 hl (k := 2) rfl rfl (by decide) rfl (fun ls hl => ?_)
    refine lv_goto (tgt := 4) hx hb dX2_waitingSet_27 (by decide) ?_
    exact hK4 v1 (v3 + 1) hM rM gM _ _ _ hw hP hD hS (lv_sub hl [1, 2, 0] rfl)
  have L4 : ∀ (n : Nat), ∀ (v1 : Int64) (v3 : Int32) (hM : (Nat → Int32)) (rM : (Nat → Int32)) (gM : (Nat → Int32)) (H : Heap) (locs : List Loc) (ls : Array Slot), w_X2_waitingSet_b4 post mel lM n v1 v3 hM rM gM → va_P (dC, dI) vwCl [(y, .inr (2, [.int thr, .ref bH, .ref bS, .ref bL, .int mel, .ref bO, .ref bK, .ref bZ, .int sea, .int rnd, .int bas, .int lim, .ref bR, .ref bG, .ref bB, .ref bX])), (bH, .inl (cI, 34, .inl hM)), (bL, .inl (cI, 34, .inl lM)), (bR, .inl (cI, 34, .inl rM)), (bG, .inl (cI, 4, .inl gM))] H → va_D A [(y, .inr (2, [.int thr, .ref bH, .ref bS, .ref bL, .int mel, .ref bO, .ref bK, .ref bZ, .int sea, .int rnd, .int bas, .int lim, .ref bR, .ref bG, .ref bB, .ref bX])), (bH, .inl (cI, 34, .inl hM)), (bL, .inl (cI, 34, .inl lM)), (bR, .inl (cI, 34, .inl rM)), (bG, .inl (cI, 4, .inl gM))] → va_S A s.heap H locs → lv_has ls 4 [(0, .ref y), (1, .long v1), (3, .int v3)] → W p l e ({ frames := 6, cells := 0, slots := 0, locals := 126 } : Room) s m ([.ref y] : List Value).toArray below meth c H locs 0 0 Q9 (F0 m 4 ls []) := by
    intro n
    induction n with
    | zero => intro v1 v3 hM rM gM H locs ls hw _ _ _ _; exact False.elim hw
    | succ n ih =>
      intro v1 v3 hM rM gM H locs ls hw hP hD hS hl
      refine lv_iload_n hx hb dX2_waitingSet_4 rfl (lv_at hl 2 rfl) ?_
      refine lv_bipush (v := 34) hx hb dX2_waitingSet_5 (by decide) ?_
      refine lv_icmp_ge (tgt := 30) hx hb dX2_waitingSet_7 (by decide) (fun c1 => ?_) (fun c1 => ?_)
      · have hw := hw.1 c1
        refine lv_lload_n hx hb dX2_waitingSet_30 rfl (lv_at hl 1 rfl) ?_
        rw [← hQ9]
        exact W.lret (v := v1) hx hb hr (fun t ht hW => ⟨⟨v1, (hM, rM, gM), rfl, hw, by rw [ht]; exact hP, va_K.moved hW.alike hK, hD⟩, hS.F ht⟩) hS.2.2 dX2_waitingSet_31
      · have hw := hw.2 c1
        refine lv_aload_n hx hb dX2_waitingSet_10 rfl (lv_at hl 0 rfl) ?_
        refine lv_iload_n hx hb dX2_waitingSet_11 rfl (lv_at hl 2 rfl) ?_
        have hPc := hP.sub (ws' := [(y, .inr (2, [.int thr, .ref bH, .ref bS, .ref bL, .int mel, .ref bO, .ref bK, .ref bZ, .int sea, .int rnd, .int bas, .int lim, .ref bR, .ref bG, .ref bB, .ref bX])), (bH, .inl (cI, 34, .inl hM)), (bL, .inl (cI, 34, .inl lM)), (bR, .inl (cI, 34, .inl rM)), (bG, .inl (cI, 4, .inl gM))]) [0, 1, 2, 3, 4] rfl
        have hDc := hD.sub (ws' := [(y, .inr (2, [.int thr, .ref bH, .ref bS, .ref bL, .int mel, .ref bO, .ref bK, .ref bZ, .int sea, .int rnd, .int bas, .int lim, .ref bR, .ref bG, .ref bB, .ref bX])), (bH, .inl (cI, 34, .inl hM)), (bL, .inl (cI, 34, .inl lM)), (bR, .inl (cI, 34, .inl rM)), (bG, .inl (cI, 4, .inl gM))]) [0, 1, 2, 3, 4] (by decide) rfl
        have hFc := va_free (wc := [(y, .inr (2, [.int thr, .ref bH, .ref bS, .ref bL, .int mel, .ref bO, .ref bK, .ref bZ, .int sea, .int rnd, .int bas, .int lim, .ref bR, .ref bG, .ref bB, .ref bX])), (bH, .inl (cI, 34, .inl hM)), (bL, .inl (cI, 34, .inl lM)), (bR, .inl (cI, 34, .inl rM)), (bG, .inl (cI, 4, .inl gM))]) hD hS hA [0, 1, 2, 3, 4] rfl
        refine va_calli (va_runV (As := [.int v3]) (rest := []) ⟨hx, hb, hml, hown, hts⟩ (c_X2_waitsFor l dC dI cI cZ y bH bS bL bO bK bZ bR bG bB bX H.size thr mel sea rnd bas lim hM lM rM gM v3 _ hw) (cwV 1 hts gX2_waitingSet_X2_waitsFor rfl rfl rfl (by decide +kernel) ⟨Nat.le_of_ble_eq_true rfl, Nat.le_of_ble_eq_true rfl⟩) ⟨fun a U g mk q => by obtain ⟨q0, q1, qP, qK, qD⟩ := q; exact ⟨q0, q1, qP, va_K.moved (u := U) (U := U.calling g mk a) (Vm.Alike.refl U.vm) qK, qD⟩, va_recv hK hPc (ci := 2) (q0 := 0) rfl rfl, fun U hU hW => ⟨rfl, by rw [hU], by rw [hU]; exact hPc, va_K.moved hW.alike hK, hDc.weaken (fun _ _ _ _ => trivial)⟩⟩ rfl rfl hl.1 rfl (lv_room (Nat.le_of_ble_eq_true rfl)) dX2_waitingSet_12 ⟨Nat.le_of_ble_eq_true rfl, Nat.le_of_ble_eq_true rfl⟩) hS (fun q _ h => hFc q h) hFc (fun r2 u t H1 locs ht hvm hw hB hz1 hk1 hS => ?_)
        obtain ⟨hM_3, rM_4, gM_5⟩ := u
        obtain ⟨hP1, -, hD1⟩ := hB
        have hw := And.intro hw trivial
        try dsimp only at hw
        have hw := hw.1
        rw [ht] at hP1
        obtain ⟨hP, hD⟩ := va_join (wr := []) (w1 := [(y, .inr (2, [.int thr, .ref bH, .ref bS, .ref bL, .int mel, .ref bO, .ref bK, .ref bZ, .int sea, .int rnd, .int bas, .int lim, .ref bR, .ref bG, .ref bB, .ref bX])), (bH, .inl (cI, 34, .inl hM_3)), (bL, .inl (cI, 34, .inl lM)), (bR, .inl (cI, 34, .inl rM_4)), (bG, .inl (cI, 4, .inl gM_5))]) hP hD [0, 1, 2, 3, 4] [] rfl rfl (by decide) (by decide) hk1 hFc hP1 hD1
        generalize H1 = H at hP hS ⊢
        have hP : va_P (dC, dI) vwCl [(y, .inr (2, [.int thr, .ref bH, .ref bS, .ref bL, .int mel, .ref bO, .ref bK, .ref bZ, .int sea, .int rnd, .int bas, .int lim, .ref bR, .ref bG, .ref bB, .ref bX])), (bH, .inl (cI, 34, .inl hM_3)), (bL, .inl (cI, 34, .inl lM)), (bR, .inl (cI, 34, .inl rM_4)), (bG, .inl (cI, 4, .inl gM_5))] H := hP
        have hD : va_D A [(y, .inr (2, [.int thr, .ref bH, .ref bS, .ref bL, .int mel, .ref bO, .ref bK, .ref bZ, .int sea, .int rnd, .int bas, .int lim, .ref bR, .ref bG, .ref bB, .ref bX])), (bH, .inl (cI, 34, .inl hM_3)), (bL, .inl (cI, 34, .inl lM)), (bR, .inl (cI, 34, .inl rM_4)), (bG, .inl (cI, 4, .inl gM_5))] := hD
        refine lv_if_eq (tgt := 24) hx hb dX2_waitingSet_15 (by decide) (fun c6 => ?_) (fun c6 => ?_)
        · have hw := hw.1 c6
          exact L24 (w_X2_waitingSet_b4 post mel lM n) ih v1 v3 hM_3 rM_4 gM_5 _ _ _ hw hP hD hS (lv_sub hl [0, 1, 2] rfl)
        · have hw := hw.2 c6
          refine lv_lload_n hx hb dX2_waitingSet_18 rfl (lv_at hl 1 rfl) ?_
          refine lv_lconst (v := 1) hx hb dX2_waitingSet_19 (by decide) ?_
          refine lv_iload_n hx hb dX2_waitingSet_20 rfl (lv_at hl 2 rfl) ?_
          refine lv_lshl (v := (1 : Int64) <<< (v3.toInt64 &&& 63)) hx hb dX2_waitingSet_21 rfl ?_
          refine lv_lor hx hb dX2_waitingSet_22 ?_
          refine lv_topl (fun t7 et7 => ?_)
          have hw := hw t7 et7
          refine lv_lstore_n (lv' := [(1, .long t7), (0, .ref y), (3, .int v3)]) hx hb dX2_waitingSet_23 rfl hl (by decide) rfl (fun ls hl => ?_)
          exact L24 (w_X2_waitingSet_b4 post mel lM n) ih t7 v3 hM_3 rM_4 gM_5 _ _ _ hw hP hD hS (lv_sub hl [1, 0, 2] rfl)
  refine lv_lconst (v := 0) hx hb dX2_waitingSet_0 (by decide) ?_
  refine lv_lstore_n (lv' := [(1, .long (0 : Int64)), (0, .ref y)]) hx hb dX2_waitingSet_1 rfl hl (by decide) rfl (fun ls hl => ?_)
  refine lv_iconst (v := 0) hx hb dX2_waitingSet_2 (by decide) ?_
  refine lv_istore_n (lv' := [(3, .int (0 : Int32)), (1, .long (0 : Int64)), (0, .ref y)]) hx hb dX2_waitingSet_3 rfl hl (by decide) rfl (fun ls hl => ?_)
  obtain ⟨n9, hw⟩ := hw
  exact L4 n9 (0 : Int64) (0 : Int32) hM rM gM _ _ _ hw hP hD hS (lv_sub hl [2, 1, 0] rfl)
