def w_X1_meld_x_b13 (px : String → Int32 → Int32 → (Nat → Int32) → (Nat → Int32) → (Nat → Int32) → (Nat → Int32) → (Nat → Int32) → Prop) (p0 : Int32) (p1 : Int32) (p2 : Int32) (tcn : Int32) (mcn : Int32) (hd : (Nat → Int32)) (la : (Nat → Int32)) (so : (Nat → Int32)) (ki : (Nat → Int32)) (op : (Nat → Int32)) : Prop := px "java/lang/IllegalArgumentException" tcn mcn hd la so ki op

def w_X1_meld_x_b89 (px : String → Int32 → Int32 → (Nat → Int32) → (Nat → Int32) → (Nat → Int32) → (Nat → Int32) → (Nat → Int32) → Prop) (p0 : Int32) (p1 : Int32) (p2 : Int32) (tcn : Int32) (mcn : Int32) (hd : (Nat → Int32)) (la : (Nat → Int32)) (so : (Nat → Int32)) (ki : (Nat → Int32)) (op : (Nat → Int32)) : Prop := vp_in mcn 4 ∧ (vp_in mcn 4 ∧ (vp_in mcn 4 ∧ (w_X1_sizeNow tcn (mcn + (1 : Int32)) (fun r13 => (False)))))

def w_X1_meld_x_b86 (px : String → Int32 → Int32 → (Nat → Int32) → (Nat → Int32) → (Nat → Int32) → (Nat → Int32) → (Nat → Int32) → Prop) (p0 : Int32) (p1 : Int32) (p2 : Int32) (s3 : Int32) (s2 : Int32) (tcn : Int32) (mcn : Int32) (hd : (Nat → Int32)) (la : (Nat → Int32)) (so : (Nat → Int32)) (ki : (Nat → Int32)) (op : (Nat → Int32)) : Prop := ((w_X1_layAlike tcn hd la s2 s3 (fun tcn_7 hd_8 la_9 => (w_X1_meld_x_b89 px p0 p1 p2 tcn_7 mcn hd_8 la_9 so ki op))) ∨ (w_X1_layAlike_x tcn hd la s2 s3 (fun E14 tcn_7 hd_8 la_9 => (px E14 tcn_7 mcn hd_8 la_9 so ki op))))

def w_X1_meld_x_b44 (px : String → Int32 → Int32 → (Nat → Int32) → (Nat → Int32) → (Nat → Int32) → (Nat → Int32) → (Nat → Int32) → Prop) (p0 : Int32) (p1 : Int32) (p2 : Int32) (tcn : Int32) (mcn : Int32) (hd : (Nat → Int32)) (la : (Nat → Int32)) (so : (Nat → Int32)) (ki : (Nat → Int32)) (op : (Nat → Int32)) : Prop := ((mcn < (4 : Int32) → (((p0 = 0 → (((w_X1_layRow tcn hd la p1 (fun tcn_15 hd_16 la_17 => (w_X1_meld_x_b89 px p0 p1 p2 tcn_15 mcn hd_16 la_17 so ki op))) ∨ (w_X1_layRow_x tcn hd la p1 (fun E18 tcn_15 hd_16 la_17 => (px E18 tcn_15 mcn hd_16 la_17 so ki op)))))) ∧ (¬ p0 = 0 → (((p0 = (2 : Int32) → (w_X1_meld_x_b86 px p0 p1 p2 (4 : Int32) p1 tcn mcn hd la so ki op)) ∧ (¬ p0 = (2 : Int32) → (w_X1_meld_x_b86 px p0 p1 p2 (3 : Int32) p1 tcn mcn hd la so ki op)))))))) ∧ (¬ mcn < (4 : Int32) → (px "java/lang/IllegalStateException" tcn mcn hd la so ki op)))

def w_X1_meld_x (tcn : Int32) (mcn : Int32) (hd : (Nat → Int32)) (la : (Nat → Int32)) (so : (Nat → Int32)) (ki : (Nat → Int32)) (op : (Nat → Int32)) (p0 : Int32) (p1 : Int32) (p2 : Int32) (px : String → Int32 → Int32 → (Nat → Int32) → (Nat → Int32) → (Nat → Int32) → (Nat → Int32) → (Nat → Int32) → Prop) : Prop := ((w_X1_requireKind p1 (((p0 < 0 → (w_X1_meld_x_b13 px p0 p1 p2 tcn mcn hd la so ki op)) ∧ (¬ p0 < 0 → (((p0 ≤ (2 : Int32) → (((p0 = 0 → (w_X1_beginsRow p1 (fun r19 => (((r19 = 0 → (px "java/lang/IllegalArgumentException" tcn mcn hd la so ki op)) ∧ (¬ r19 = 0 → (w_X1_meld_x_b44 px p0 p1 p2 tcn mcn hd la so ki op))))))) ∧ (¬ p0 = 0 → (w_X1_meld_x_b44 px p0 p1 p2 tcn mcn hd la so ki op))))) ∧ (¬ p0 ≤ (2 : Int32) → (w_X1_meld_x_b13 px p0 p1 p2 tcn mcn hd la so ki op)))))))) ∨ (w_X1_requireKind_x p1 (fun E21 => (px E21 tcn mcn hd la so ki op))))

set_option maxHeartbeats 4000000 in
set_option maxRecDepth 100000 in
theorem c_X1_meld_x (l : Launch) (hl9 : l.stackTraces = false) (dC : Nat → ClassId) (dI : Nat → Nat → Nat) (cI cZ : ClassId) (x : Nat) (aH : Nat) (aL : Nat) (aS : Nat) (aO : Nat) (aK : Nat) (aZ : Nat) (cv : Nat) (sz : Nat) (tcn : Int32) (mcn : Int32) (swd : Int32) (rwd : Int32) (bpt : Int32) (flm : Int32) (hd : (Nat → Int32)) (la : (Nat → Int32)) (so : (Nat → Int32)) (ki : (Nat → Int32)) (op : (Nat → Int32)) (p0 : Int32) (p1 : Int32) (p2 : Int32) (px : String → Int32 → Int32 → (Nat → Int32) → (Nat → Int32) → (Nat → Int32) → (Nat → Int32) → (Nat → Int32) → Prop) (hw : w_X1_meld_x tcn mcn hd la so ki op p0 p1 p2 px) : vx_Met l yX1_meld wsX1_meld ({ frames := 9, cells := 1, slots := 6, locals := 176 } : Room) (va_Pc [.ref x, .int p0, .int p1, .int p2] (fun U => U.heap.size = sz ∧ va_P (dC, dI) vwCl [(x, .inr (1, [.ref aH, .ref aL, .ref aS, .ref aO, .ref aK, .ref aZ, .ref cv, .int tcn, .int mcn, .int swd, .int rwd, .int bpt, .int flm])), (aH, .inl (cI, 34, .inl hd)), (aL, .inl (cI, 34, .inl la)), (aO, .inl (cI, 4, .inl so)), (aK, .inl (cI, 4, .inl ki)), (aZ, .inl (cZ, 4, .inl op))] U.heap ∧ va_K (dC, dI) vwCl [(cI, .int), (cZ, .boolean)] U ∧ va_D (fun _ => True) [(x, .inr (1, [.ref aH, .ref aL, .ref aS, .ref aO, .ref aK, .ref aZ, .ref cv, .int tcn, .int mcn, .int swd, .int rwd, .int bpt, .int flm])), (aH, .inl (cI, 34, .inl hd)), (aL, .inl (cI, 34, .inl la)), (aO, .inl (cI, 4, .inl so)), (aK, .inl (cI, 4, .inl ki)), (aZ, .inl (cZ, 4, .inl op))] ∧ xk (va_A [(x, .inr (1, [.ref aH, .ref aL, .ref aS, .ref aO, .ref aK, .ref aZ, .ref cv, .int tcn, .int mcn, .int swd, .int rwd, .int bpt, .int flm])), (aH, .inl (cI, 34, .inl hd)), (aL, .inl (cI, 34, .inl la)), (aO, .inl (cI, 4, .inl so)), (aK, .inl (cI, 4, .inl ki)), (aZ, .inl (cZ, 4, .inl op))] sz) U)) (va_Qi (fun (_ : Int32) (_ : Unit) => False) (fun _ _ => True) (va_A [(x, .inr (1, [.ref aH, .ref aL, .ref aS, .ref aO, .ref aK, .ref aZ, .ref cv, .int tcn, .int mcn, .int swd, .int rwd, .int bpt, .int flm])), (aH, .inl (cI, 34, .inl hd)), (aL, .inl (cI, 34, .inl la)), (aO, .inl (cI, 4, .inl so)), (aK, .inl (cI, 4, .inl ki)), (aZ, .inl (cZ, 4, .inl op))] sz)) (vx_X (fun (u9 : String × Int32 × Int32 × (Nat → Int32) × (Nat → Int32) × (Nat → Int32) × (Nat → Int32) × (Nat → Int32)) => px u9.1 u9.2.1 u9.2.2.1 u9.2.2.2.1 u9.2.2.2.2.1 u9.2.2.2.2.2.1 u9.2.2.2.2.2.2.1 u9.2.2.2.2.2.2.2) (fun (E9 : String) (u9 : String × Int32 × Int32 × (Nat → Int32) × (Nat → Int32) × (Nat → Int32) × (Nat → Int32) × (Nat → Int32)) (t9 : State) => E9 = u9.1 ∧ va_P (dC, dI) vwCl [(x, .inr (1, [.ref aH, .ref aL, .ref aS, .ref aO, .ref aK, .ref aZ, .ref cv, .int u9.2.1, .int u9.2.2.1, .int swd, .int rwd, .int bpt, .int flm])), (aH, .inl (cI, 34, .inl u9.2.2.2.1)), (aL, .inl (cI, 34, .inl u9.2.2.2.2.1)), (aO, .inl (cI, 4, .inl u9.2.2.2.2.2.1)), (aK, .inl (cI, 4, .inl u9.2.2.2.2.2.2.1)), (aZ, .inl (cZ, 4, .inl u9.2.2.2.2.2.2.2))] t9.heap ∧ va_K (dC, dI) vwCl [(cI, .int), (cZ, .boolean)] t9 ∧ va_D (va_A [(x, .inr (1, [.ref aH, .ref aL, .ref aS, .ref aO, .ref aK, .ref aZ, .ref cv, .int tcn, .int mcn, .int swd, .int rwd, .int bpt, .int flm])), (aH, .inl (cI, 34, .inl hd)), (aL, .inl (cI, 34, .inl la)), (aO, .inl (cI, 4, .inl so)), (aK, .inl (cI, 4, .inl ki)), (aZ, .inl (cZ, 4, .inl op))] sz) [(x, .inr (1, [.ref aH, .ref aL, .ref aS, .ref aO, .ref aK, .ref aZ, .ref cv, .int u9.2.1, .int u9.2.2.1, .int swd, .int rwd, .int bpt, .int flm])), (aH, .inl (cI, 34, .inl u9.2.2.2.1)), (aL, .inl (cI, 34, .inl u9.2.2.2.2.1)), (aO, .inl (cI, 4, .inl u9.2.2.2.2.2.1)), (aK, .inl (cI, 4, .inl u9.2.2.2.2.2.2.1)), (aZ, .inl (cZ, 4, .inl u9.2.2.2.2.2.2.2))]) (va_A [(x, .inr (1, [.ref aH, .ref aL, .ref aS, .ref aO, .ref aK, .ref aZ, .ref cv, .int tcn, .int mcn, .int swd, .int rwd, .int bpt, .int flm])), (aH, .inl (cI, 34, .inl hd)), (aL, .inl (cI, 34, .inl la)), (aO, .inl (cI, 4, .inl so)), (aK, .inl (cI, 4, .inl ki)), (aZ, .inl (cZ, 4, .inl op))] sz)) 1 6 (va_A [(x, .inr (1, [.ref aH, .ref aL, .ref aS, .ref aO, .ref aK, .ref aZ, .ref cv, .int tcn, .int mcn, .int swd, .int rwd, .int bpt, .int flm])), (aH, .inl (cI, 34, .inl hd)), (aL, .inl (cI, 34, .inl la)), (aO, .inl (cI, 4, .inl so)), (aK, .inl (cI, 4, .inl ki)), (aZ, .inl (cZ, 4, .inl op))] sz) := by
  refine vx_ofW (cc := cX1_meld) (maxL := 4) (ret := (some .int)) (by decide) rfl ?_
  intro p e s m args below meth c s₁ B hml hEx hv
  obtain ⟨rfl, hsz, hP, hK, hD0, hxk⟩ := hv
  have hx := B.exec
  have hb := B.bytes
  have hr := B.returns
  have hts := atoms_spec (ws := wsX1_meld) B.pre
  have hown : s.vm.findClass RX1 = some m.cls := findClass_of_methodNamed B.named
  have hlocks := B.notSynchronized
  have hinX1 : ∀ w ∈ u_ws RX1 TX1 13, w ∈ wsX1_meld := by decide +kernel
  subst hsz
  have hD := hD0.self (sz := s.heap.size)
  generalize hAe : va_A [(x, .inr (1, [.ref aH, .ref aL, .ref aS, .ref aO, .ref aK, .ref aZ, .ref cv, .int tcn, .int mcn, .int swd, .int rwd, .int bpt, .int flm])), (aH, .inl (cI, 34, .inl hd)), (aL, .inl (cI, 34, .inl la)), (aO, .inl (cI, 4, .inl so)), (aK, .inl (cI, 4, .inl ki)), (aZ, .inl (cZ, 4, .inl op))] s.heap.size = A at hD hxk ⊢
  have hA : ∀ q : Nat, s.heap.size ≤ q → A q := fun q h => by rw [← hAe]; exact Or.inr h
  have hS : va_S A s.heap s.heap [] := va_S.rf
  have hl := lv_entry ([.ref x, .int p0, .int p1, .int p2]) (n := 4) (Nat.le_of_ble_eq_true rfl)
  rw [lg_entry_eq]
  generalize (lg_sl ([.ref x, .int p0, .int p1, .int p2]) ++ List.replicate (4 - (lg_sl ([.ref x, .int p0, .int p1, .int p2])).length) Slot.unset).toArray = ls at hl ⊢
  have hl : lv_has ls 4 [(0, .ref x), (1, .int p0), (2, .int p1), (3, .int p2)] := hl
  refine (?_ : ∀ Q9 : State → Prop, vx_MQ below _ _ _ s _ _ _ = Q9 → W p l e ({ frames := 9, cells := 1, slots := 6, locals := 176 } : Room) s m _ below meth c s.heap [] 0 0 Q9 (F0 m 0 ls [])) _ rfl
  intro Q9 hQ9
  have hw : ((w_X1_requireKind p1 (((p0 < 0 → (w_X1_meld_x_b13 px p0 p1 p2 tcn mcn hd la so ki op)) ∧ (¬ p0 < 0 → (((p0 ≤ (2 : Int32) → (((p0 = 0 → (w_X1_beginsRow p1 (fun r19 => (((r19 = 0 → (px "java/lang/IllegalArgumentException" tcn mcn hd la so ki op)) ∧ (¬ r19 = 0 → (w_X1_meld_x_b44 px p0 p1 p2 tcn mcn hd la so ki op))))))) ∧ (¬ p0 = 0 → (w_X1_meld_x_b44 px p0 p1 p2 tcn mcn hd la so ki op))))) ∧ (¬ p0 ≤ (2 : Int32) → (w_X1_meld_x_b13 px p0 p1 p2 tcn mcn hd la so ki op)))))))) ∨ (w_X1_requireKind_x p1 (fun E21 => (px E21 tcn mcn hd la so ki op)))) := hw
  have L13 : ∀ (tcn : Int32) (mcn : Int32) (hd : (Nat → Int32)) (la : (Nat → Int32)) (so : (Nat → Int32)) (ki : (Nat → Int32)) (op : (Nat → Int32)) (H : Heap) (locs : List Loc) (ls : Array Slot), w_X1_meld_x_b13 px p0 p1 p2 tcn mcn hd la so ki op → va_P (dC, dI) vwCl [(x, .inr (1, [.ref aH, .ref aL, .ref aS, .ref aO, .ref aK, .ref aZ, .ref cv, .int tcn, .int mcn, .int swd, .int rwd, .int bpt, .int flm])), (aH, .inl (cI, 34, .inl hd)), (aL, .inl (cI, 34, .inl la)), (aO, .inl (cI, 4, .inl so)), (aK, .inl (cI, 4, .inl ki)), (aZ, .inl (cZ, 4, .inl op))] H → va_D A [(x, .inr (1, [.ref aH, .ref aL, .ref aS, .ref aO, .ref aK, .ref aZ, .ref cv, .int tcn, .int mcn, .int swd, .int rwd, .int bpt, .int flm])), (aH, .inl (cI, 34, .inl hd)), (aL, .inl (cI, 34, .inl la)), (aO, .inl (cI, 4, .inl so)), (aK, .inl (cI, 4, .inl ki)), (aZ, .inl (cZ, 4, .inl op))] → va_S A s.heap H locs → lv_has ls 4 [(0, .ref x)] → W p l e ({ frames := 9, cells := 1, slots := 6, locals := 176 } : Room) s m ([.ref x, .int p0, .int p1, .int p2] : List Value).toArray below meth c H locs 0 0 Q9 (F0 m 13 ls []) := by
    intro tcn mcn hd la so ki op H locs ls hw hP hD hS hl
    obtain ⟨sa9, hstr9⟩ := xk_s80 hxk
    rw [← hQ9]
    exact vx_throwS (own := RX1) (cls := "java/lang/IllegalArgumentException") (text := "no such sort of meld") (names := ["java/lang/RuntimeException", "java/lang/Exception"]) (A := A) hx hb hl9 hown (by decide +kernel) (by decide +kernel) (hts (.classLink RX1 78 "java/lang/IllegalArgumentException") (by decide +kernel)) (hts (.initialized "java/lang/IllegalArgumentException") (by decide +kernel)) hstr9 (vx_hat (L := vx_atS RX1 82 "java/lang/IllegalArgumentException" ["java/lang/RuntimeException", "java/lang/Exception"]) (B := [.castable "java/lang/IllegalArgumentException" "java/lang/IllegalArgumentException", .declares ⟨"java/lang/RuntimeException", "<init>", "(Ljava/lang/String;)V"⟩, .declares ⟨"java/lang/Exception", "<init>", "(Ljava/lang/String;)V"⟩, .declares ⟨"java/lang/Throwable", "<init>", "(Ljava/lang/String;)V"⟩]) (fun w hw => hts w ((by decide +kernel : ∀ w ∈ (vx_atS RX1 82 "java/lang/IllegalArgumentException" ["java/lang/RuntimeException", "java/lang/Exception"]).filter goodWord, w ∈ wsX1_meld) w hw)) (by decide +kernel) (vx_c (va_Nw.use rfl (xk_c2 hxk)) (vx_c (va_Nw.use rfl (xk_d1 hxk)) (vx_c (va_Nw.use rfl (xk_d2 hxk)) (vx_c (va_Nw.use rfl (xk_d3 hxk)) vx_n))))) (by decide +kernel) (xk_U hxk) (xk_N hxk) hS (hl.1.trans hml.symm) dX1_meld_13 dX1_meld_16 dX1_meld_17 dX1_meld_19 dX1_meld_22 (fun x hx => (hEx x hx).elim) (Nat.le_of_ble_eq_true rfl) (Nat.le_of_ble_eq_true rfl) (Nat.le_of_ble_eq_true rfl) (Nat.le_of_ble_eq_true rfl) hlocks (fun t ha hz hq => ⟨("java/lang/IllegalArgumentException", tcn, mcn, hd, la, so, ki, op), hw, ⟨rfl, xt_P hP hq, va_K.moved ha hK, hD⟩, xt_F hS hz hq⟩) hS.2.2 (Nat.le_of_ble_eq_true rfl) (Nat.le_of_ble_eq_true rfl)
  have L89 : ∀ (tcn : Int32) (mcn : Int32) (hd : (Nat → Int32)) (la : (Nat → Int32)) (so : (Nat → Int32)) (ki : (Nat → Int32)) (op : (Nat → Int32)) (H : Heap) (locs : List Loc) (ls : Array Slot), w_X1_meld_x_b89 px p0 p1 p2 tcn mcn hd la so ki op → va_P (dC, dI) vwCl [(x, .inr (1, [.ref aH, .ref aL, .ref aS, .ref aO, .ref aK, .ref aZ, .ref cv, .int tcn, .int mcn, .int swd, .int rwd, .int bpt, .int flm])), (aH, .inl (cI, 34, .inl hd)), (aL, .inl (cI, 34, .inl la)), (aO, .inl (cI, 4, .inl so)), (aK, .inl (cI, 4, .inl ki)), (aZ, .inl (cZ, 4, .inl op))] H → va_D A [(x, .inr (1, [.ref aH, .ref aL, .ref aS, .ref aO, .ref aK, .ref aZ, .ref cv, .int tcn, .int mcn, .int swd, .int rwd, .int bpt, .int flm])), (aH, .inl (cI, 34, .inl hd)), (aL, .inl (cI, 34, .inl la)), (aO, .inl (cI, 4, .inl so)), (aK, .inl (cI, 4, .inl ki)), (aZ, .inl (cZ, 4, .inl op))] → va_S A s.heap H locs → lv_has ls 4 [(0, .ref x), (1, .int p0), (2, .int p1), (3, .int p2)] → W p l e ({ frames := 9, cells := 1, slots := 6, locals := 176 } : Room) s m ([.ref x, .int p0, .int p1, .int p2] : List Value).toArray below meth c H locs 0 0 Q9 (F0 m 89 ls []) := by
    intro tcn mcn hd la so ki op H locs ls hw hP hD hS hl
    refine lv_aload_n hx hb dX1_meld_89 rfl (lv_at hl 0 rfl) ?_
    refine va_get (D := (dC, dI)) (ci := 1) (v := .ref aO) (C := RX1) (T := TX1) (N := 13) hx hb hts hinX1 hown hK hP 0 rfl rfl 3 (by decide) (hts (.fieldLink RX1 19 "TileHand" "setSorts" "[I") (by decide +kernel)) (fun _ h9 => h9) rfl dX1_meld_90 ?_
    refine lv_aload_n hx hb dX1_meld_93 rfl (lv_at hl 0 rfl) ?_
    refine va_get (D := (dC, dI)) (ci := 1) (v := .int mcn) (C := RX1) (T := TX1) (N := 13) hx hb hts hinX1 hown hK hP 0 rfl rfl 8 (by decide) (hts (.fieldLink RX1 89 "TileHand" "meldCount" "I") (by decide +kernel)) (fun _ h9 => h9) rfl dX1_meld_94 ?_
    refine lv_iload_n hx hb dX1_meld_97 rfl (lv_at hl 1 rfl) ?_
    obtain ⟨h10, hw⟩ := hw
    refine va_iast hx hb hK hP hD hS 3 0 rfl rfl h10 dX1_meld_98 (fun H locs hP hD hS => ?_)
    have hP : va_P (dC, dI) vwCl [(x, .inr (1, [.ref aH, .ref aL, .ref aS, .ref aO, .ref aK, .ref aZ, .ref cv, .int tcn, .int mcn, .int swd, .int rwd, .int bpt, .int flm])), (aH, .inl (cI, 34, .inl hd)), (aL, .inl (cI, 34, .inl la)), (aO, .inl (cI, 4, .inl (upd so mcn.toNatClampNeg p0))), (aK, .inl (cI, 4, .inl ki)), (aZ, .inl (cZ, 4, .inl op))] H := hP
    have hD : va_D A [(x, .inr (1, [.ref aH, .ref aL, .ref aS, .ref aO, .ref aK, .ref aZ, .ref cv, .int tcn, .int mcn, .int swd, .int rwd, .int bpt, .int flm])), (aH, .inl (cI, 34, .inl hd)), (aL, .inl (cI, 34, .inl la)), (aO, .inl (cI, 4, .inl (upd so mcn.toNatClampNeg p0))), (aK, .inl (cI, 4, .inl ki)), (aZ, .inl (cZ, 4, .inl op))] := hD
    refine lv_aload_n hx hb dX1_meld_99 rfl (lv_at hl 0 rfl) ?_
    refine va_get (D := (dC, dI)) (ci := 1) (v := .ref aK) (C := RX1) (T := TX1) (N := 13) hx hb hts hinX1 hown hK hP 0 rfl rfl 4 (by decide) (hts (.fieldLink RX1 22 "TileHand" "setKinds" "[I") (by decide +kernel)) (fun _ h9 => h9) rfl dX1_meld_100 ?_
    refine lv_aload_n hx hb dX1_meld_103 rfl (lv_at hl 0 rfl) ?_
    refine va_get (D := (dC, dI)) (ci := 1) (v := .int mcn) (C := RX1) (T := TX1) (N := 13) hx hb hts hinX1 hown hK hP 0 rfl rfl 8 (by decide) (hts (.fieldLink RX1 89 "TileHand" "meldCount" "I") (by decide +kernel)) (fun _ h9 => h9) rfl dX1_meld_104 ?_
    refine lv_iload_n hx hb dX1_meld_107 rfl (lv_at hl 2 rfl) ?_
    obtain ⟨h11, hw⟩ := hw
    refine va_iast hx hb hK hP hD hS 4 0 rfl rfl h11 dX1_meld_108 (fun H locs hP hD hS => ?_)
    have hP : va_P (dC, dI) vwCl [(x, .inr (1, [.ref aH, .ref aL, .ref aS, .ref aO, .ref aK, .ref aZ, .ref cv, .int tcn, .int mcn, .int swd, .int rwd, .int bpt, .int flm])), (aH, .inl (cI, 34, .inl hd)), (aL, .inl (cI, 34, .inl la)), (aO, .inl (cI, 4, .inl (upd so mcn.toNatClampNeg p0))), (aK, .inl (cI, 4, .inl (upd ki mcn.toNatClampNeg p1))), (aZ, .inl (cZ, 4, .inl op))] H := hP
    have hD : va_D A [(x, .inr (1, [.ref aH, .ref aL, .ref aS, .ref aO, .ref aK, .ref aZ, .ref cv, .int tcn, .int mcn, .int swd, .int rwd, .int bpt, .int flm])), (aH, .inl (cI, 34, .inl hd)), (aL, .inl (cI, 34, .inl la)), (aO, .inl (cI, 4, .inl (upd so mcn.toNatClampNeg p0))), (aK, .inl (cI, 4, .inl (upd ki mcn.toNatClampNeg p1))), (aZ, .inl (cZ, 4, .inl op))] := hD
    refine lv_aload_n hx hb dX1_meld_109 rfl (lv_at hl 0 rfl) ?_
    refine va_get (D := (dC, dI)) (ci := 1) (v := .ref aZ) (C := RX1) (T := TX1) (N := 13) hx hb hts hinX1 hown hK hP 0 rfl rfl 5 (by decide) (hts (.fieldLink RX1 25 "TileHand" "meldOpen" "[Z") (by decide +kernel)) (fun _ h9 => h9) rfl dX1_meld_110 ?_
    refine lv_aload_n hx hb dX1_meld_113 rfl (lv_at hl 0 rfl) ?_
    refine va_get (D := (dC, dI)) (ci := 1) (v := .int mcn) (C := RX1) (T := TX1) (N := 13) hx hb hts hinX1 hown hK hP 0 rfl rfl 8 (by decide) (hts (.fieldLink RX1 89 "TileHand" "meldCount" "I") (by decide +kernel)) (fun _ h9 => h9) rfl dX1_meld_114 ?_
    refine lv_iload_n hx hb dX1_meld_117 rfl (lv_at hl 3 rfl) ?_
    obtain ⟨h12, hw⟩ := hw
    refine va_zast hx hb hK hP hD hS 5 1 rfl rfl h12 dX1_meld_118 (fun H locs hP hD hS => ?_)
    have hP : va_P (dC, dI) vwCl [(x, .inr (1, [.ref aH, .ref aL, .ref aS, .ref aO, .ref aK, .ref aZ, .ref cv, .int tcn, .int mcn, .int swd, .int rwd, .int bpt, .int flm])), (aH, .inl (cI, 34, .inl hd)), (aL, .inl (cI, 34, .inl la)), (aO, .inl (cI, 4, .inl (upd so mcn.toNatClampNeg p0))), (aK, .inl (cI, 4, .inl (upd ki mcn.toNatClampNeg p1))), (aZ, .inl (cZ, 4, .inl (upd op mcn.toNatClampNeg (vp_nar .boolean p2))))] H := hP
    have hD : va_D A [(x, .inr (1, [.ref aH, .ref aL, .ref aS, .ref aO, .ref aK, .ref aZ, .ref cv, .int tcn, .int mcn, .int swd, .int rwd, .int bpt, .int flm])), (aH, .inl (cI, 34, .inl hd)), (aL, .inl (cI, 34, .inl la)), (aO, .inl (cI, 4, .inl (upd so mcn.toNatClampNeg p0))), (aK, .inl (cI, 4, .inl (upd ki mcn.toNatClampNeg p1))), (aZ, .inl (cZ, 4, .inl (upd op mcn.toNatClampNeg (vp_nar .boolean p2))))] := hD
    refine lv_aload_n hx hb dX1_meld_119 rfl (lv_at hl 0 rfl) ?_
    refine lv_dup hx hb dX1_meld_120 rfl ?_
    refine va_get (D := (dC, dI)) (ci := 1) (v := .int mcn) (C := RX1) (T := TX1) (N := 13) hx hb hts hinX1 hown hK hP 0 rfl rfl 8 (by decide) (hts (.fieldLink RX1 89 "TileHand" "meldCount" "I") (by decide +kernel)) (fun _ h9 => h9) rfl dX1_meld_121 ?_
    refine lv_iconst (v := 1) hx hb dX1_meld_124 (by decide) ?_
    refine lv_iadd hx hb dX1_meld_125 ?_
    refine va_put (D := (dC, dI)) (ci := 1) (v := .int (mcn + (1 : Int32))) (ty := .int) (C := RX1) (T := TX1) (N := 13) hx hb hts hinX1 tyX1 tyX1_ok nmX1 hown hK hP hD hS 0 rfl rfl 8 (by decide) (hts (.fieldLink RX1 89 "TileHand" "meldCount" "I") (by decide +kernel)) (fun _ h9 => h9) rfl (by decide +kernel) rfl rfl (Nat.le_of_ble_eq_true rfl) dX1_meld_126 (fun H locs hP hD hS => ?_)
    have hP : va_P (dC, dI) vwCl [(x, .inr (1, [.ref aH, .ref aL, .ref aS, .ref aO, .ref aK, .ref aZ, .ref cv, .int tcn, .int (mcn + (1 : Int32)), .int swd, .int rwd, .int bpt, .int flm])), (aH, .inl (cI, 34, .inl hd)), (aL, .inl (cI, 34, .inl la)), (aO, .inl (cI, 4, .inl (upd so mcn.toNatClampNeg p0))), (aK, .inl (cI, 4, .inl (upd ki mcn.toNatClampNeg p1))), (aZ, .inl (cZ, 4, .inl (upd op mcn.toNatClampNeg (vp_nar .boolean p2))))] H := hP
    have hD : va_D A [(x, .inr (1, [.ref aH, .ref aL, .ref aS, .ref aO, .ref aK, .ref aZ, .ref cv, .int tcn, .int (mcn + (1 : Int32)), .int swd, .int rwd, .int bpt, .int flm])), (aH, .inl (cI, 34, .inl hd)), (aL, .inl (cI, 34, .inl la)), (aO, .inl (cI, 4, .inl (upd so mcn.toNatClampNeg p0))), (aK, .inl (cI, 4, .inl (upd ki mcn.toNatClampNeg p1))), (aZ, .inl (cZ, 4, .inl (upd op mcn.toNatClampNeg (vp_nar .boolean p2))))] := hD
    refine lv_aload_n hx hb dX1_meld_129 rfl (lv_at hl 0 rfl) ?_
    have hPc := hP.sub (ws' := [(x, .inr (1, [.ref aH, .ref aL, .ref aS, .ref aO, .ref aK, .ref aZ, .ref cv, .int tcn, .int (mcn + (1 : Int32)), .int swd, .int rwd, .int bpt, .int flm]))]) [0] rfl
    have hDc := hD.sub (ws' := [(x, .inr (1, [.ref aH, .ref aL, .ref aS, .ref aO, .ref aK, .ref aZ, .ref cv, .int tcn, .int (mcn + (1 : Int32)), .int swd, .int rwd, .int bpt, .int flm]))]) [0] (by decide) rfl
    have hFc := va_free (wc := [(x, .inr (1, [.ref aH, .ref aL, .ref aS, .ref aO, .ref aK, .ref aZ, .ref cv, .int tcn, .int (mcn + (1 : Int32)), .int swd, .int rwd, .int bpt, .int flm]))]) hD hS hA [0] rfl
    refine va_calli (va_runV (As := []) (rest := []) ⟨hx, hb, hml, hown, hts⟩ (c_X1_sizeNow l dC dI cI cZ x aH aL aS aO aK aZ cv H.size tcn (mcn + (1 : Int32)) swd rwd bpt flm _ hw) (cwV 0 hts gX1_meld_X1_sizeNow rfl rfl rfl (by decide +kernel) ⟨Nat.le_of_ble_eq_true rfl, Nat.le_of_ble_eq_true rfl⟩) ⟨fun a U g mk q => by obtain ⟨q0, q1, qP, qK, qD⟩ := q; exact ⟨q0, q1, qP, va_K.moved (u := U) (U := U.calling g mk a) (Vm.Alike.refl U.vm) qK, qD⟩, va_recv hK hPc (ci := 1) (q0 := 0) rfl rfl, fun U hU hW => ⟨rfl, by rw [hU], by rw [hU]; exact hPc, va_K.moved hW.alike hK, hDc.weaken (fun _ _ _ _ => trivial)⟩⟩ rfl rfl hl.1 rfl (lv_room (Nat.le_of_ble_eq_true rfl)) dX1_meld_130 ⟨Nat.le_of_ble_eq_true rfl, Nat.le_of_ble_eq_true rfl⟩) hS (fun q _ h => hFc q h) hFc (fun r13 u t H1 locs ht hvm hw hB hz1 hk1 hS => ?_)
    obtain ⟨hP1, -, hD1⟩ := hB
    have hw := And.intro hw trivial
    try dsimp only at hw
    have hw := hw.1
    rw [ht] at hP1
    obtain ⟨hP, hD⟩ := va_join (wr := [(aH, .inl (cI, 34, .inl hd)), (aL, .inl (cI, 34, .inl la)), (aO, .inl (cI, 4, .inl (upd so mcn.toNatClampNeg p0))), (aK, .inl (cI, 4, .inl (upd ki mcn.toNatClampNeg p1))), (aZ, .inl (cZ, 4, .inl (upd op mcn.toNatClampNeg (vp_nar .boolean p2))))]) (w1 := [(x, .inr (1, [.ref aH, .ref aL, .ref aS, .ref aO, .ref aK, .ref aZ, .ref cv, .int tcn, .int (mcn + (1 : Int32)), .int swd, .int rwd, .int bpt, .int flm]))]) hP hD [0] [1, 2, 3, 4, 5] rfl rfl (by decide) (by decide) hk1 hFc hP1 hD1
    generalize H1 = H at hP hS ⊢
    have hP : va_P (dC, dI) vwCl [(aH, .inl (cI, 34, .inl hd)), (aL, .inl (cI, 34, .inl la)), (aO, .inl (cI, 4, .inl (upd so mcn.toNatClampNeg p0))), (aK, .inl (cI, 4, .inl (upd ki mcn.toNatClampNeg p1))), (aZ, .inl (cZ, 4, .inl (upd op mcn.toNatClampNeg (vp_nar .boolean p2)))), (x, .inr (1, [.ref aH, .ref aL, .ref aS, .ref aO, .ref aK, .ref aZ, .ref cv, .int tcn, .int (mcn + (1 : Int32)), .int swd, .int rwd, .int bpt, .int flm]))] H := hP
    have hD : va_D A [(aH, .inl (cI, 34, .inl hd)), (aL, .inl (cI, 34, .inl la)), (aO, .inl (cI, 4, .inl (upd so mcn.toNatClampNeg p0))), (aK, .inl (cI, 4, .inl (upd ki mcn.toNatClampNeg p1))), (aZ, .inl (cZ, 4, .inl (upd op mcn.toNatClampNeg (vp_nar .boolean p2)))), (x, .inr (1, [.ref aH, .ref aL, .ref aS, .ref aO, .ref aK, .ref aZ, .ref cv, .int tcn, .int (mcn + (1 : Int32)), .int swd, .int rwd, .int bpt, .int flm]))] := hD
    exact False.elim hw
  have L86 : ∀ (s3 : Int32) (s2 : Int32) (tcn : Int32) (mcn : Int32) (hd : (Nat → Int32)) (la : (Nat → Int32)) (so : (Nat → Int32)) (ki : (Nat → Int32)) (op : (Nat → Int32)) (H : Heap) (locs : List Loc) (ls : Array Slot), w_X1_meld_x_b86 px p0 p1 p2 s3 s2 tcn mcn hd la so ki op → va_P (dC, dI) vwCl [(x, .inr (1, [.ref aH, .ref aL, .ref aS, .ref aO, .ref aK, .ref aZ, .ref cv, .int tcn, .int mcn, .int swd, .int rwd, .int bpt, .int flm])), (aH, .inl (cI, 34, .inl hd)), (aL, .inl (cI, 34, .inl la)), (aO, .inl (cI, 4, .inl so)), (aK, .inl (cI, 4, .inl ki)), (aZ, .inl (cZ, 4, .inl op))] H → va_D A [(x, .inr (1, [.ref aH, .ref aL, .ref aS, .ref aO, .ref aK, .ref aZ, .ref cv, .int tcn, .int mcn, .int swd, .int rwd, .int bpt, .int flm])), (aH, .inl (cI, 34, .inl hd)), (aL, .inl (cI, 34, .inl la)), (aO, .inl (cI, 4, .inl so)), (aK, .inl (cI, 4, .inl ki)), (aZ, .inl (cZ, 4, .inl op))] → va_S A s.heap H locs → lv_has ls 4 [(0, .ref x), (1, .int p0), (2, .int p1), (3, .int p2)] → W p l e ({ frames := 9, cells := 1, slots := 6, locals := 176 } : Room) s m ([.ref x, .int p0, .int p1, .int p2] : List Value).toArray below meth c H locs 0 0 Q9 (F0 m 86 ls [.int s3, .int s2, .ref x]) := by
    intro s3 s2 tcn mcn hd la so ki op H locs ls hw hP hD hS hl
    have hPc := hP.sub (ws' := [(x, .inr (1, [.ref aH, .ref aL, .ref aS, .ref aO, .ref aK, .ref aZ, .ref cv, .int tcn, .int mcn, .int swd, .int rwd, .int bpt, .int flm])), (aH, .inl (cI, 34, .inl hd)), (aL, .inl (cI, 34, .inl la))]) [0, 1, 2] rfl
    have hDc := hD.sub (ws' := [(x, .inr (1, [.ref aH, .ref aL, .ref aS, .ref aO, .ref aK, .ref aZ, .ref cv, .int tcn, .int mcn, .int swd, .int rwd, .int bpt, .int flm])), (aH, .inl (cI, 34, .inl hd)), (aL, .inl (cI, 34, .inl la))]) [0, 1, 2] (by decide) rfl
    have hFc := va_free (wc := [(x, .inr (1, [.ref aH, .ref aL, .ref aS, .ref aO, .ref aK, .ref aZ, .ref cv, .int tcn, .int mcn, .int swd, .int rwd, .int bpt, .int flm])), (aH, .inl (cI, 34, .inl hd)), (aL, .inl (cI, 34, .inl la))]) hD hS hA [0, 1, 2] rfl
    rcases hw with hw | hw
    · refine va_callv (va_runV (As := [.int s2, .int s3]) (rest := []) ⟨hx, hb, hml, hown, hts⟩ (c_X1_layAlike l dC dI cI cZ x aH aL aS aO aK aZ cv H.size tcn mcn swd rwd bpt flm hd la s2 s3 _ hw) (cwV 2 hts gX1_meld_X1_layAlike rfl rfl rfl (by decide +kernel) ⟨Nat.le_of_ble_eq_true rfl, Nat.le_of_ble_eq_true rfl⟩) ⟨fun a U g mk q => by obtain ⟨q0, q1, qP, qK, qD⟩ := q; exact ⟨q0, q1, qP, va_K.moved (u := U) (U := U.calling g mk a) (Vm.Alike.refl U.vm) qK, qD⟩, va_recv hK hPc (ci := 1) (q0 := 0) rfl rfl, fun U hU hW => ⟨rfl, by rw [hU], by rw [hU]; exact hPc, va_K.moved hW.alike hK, hDc.weaken (fun _ _ _ _ => trivial)⟩⟩ rfl rfl hl.1 rfl (lv_room (Nat.le_of_ble_eq_true rfl)) dX1_meld_86 ⟨Nat.le_of_ble_eq_true rfl, Nat.le_of_ble_eq_true rfl⟩) hS (fun q _ h => hFc q h) hFc (fun u t H1 locs ht hvm hw hB hz1 hk1 hS => ?_)
      obtain ⟨tcn_7, hd_8, la_9⟩ := u
      obtain ⟨hP1, -, hD1⟩ := hB
      have hw := And.intro hw trivial
      try dsimp only at hw
      have hw := hw.1
      rw [ht] at hP1
      obtain ⟨hP, hD⟩ := va_join (wr := [(aO, .inl (cI, 4, .inl so)), (aK, .inl (cI, 4, .inl ki)), (aZ, .inl (cZ, 4, .inl op))]) (w1 := [(x, .inr (1, [.ref aH, .ref aL, .ref aS, .ref aO, .ref aK, .ref aZ, .ref cv, .int tcn_7, .int mcn, .int swd, .int rwd, .int bpt, .int flm])), (aH, .inl (cI, 34, .inl hd_8)), (aL, .inl (cI, 34, .inl la_9))]) hP hD [0, 1, 2] [3, 4, 5] rfl rfl (by decide) (by decide) hk1 hFc hP1 hD1
      generalize H1 = H at hP hS ⊢
      have hP : va_P (dC, dI) vwCl [(aO, .inl (cI, 4, .inl so)), (aK, .inl (cI, 4, .inl ki)), (aZ, .inl (cZ, 4, .inl op)), (x, .inr (1, [.ref aH, .ref aL, .ref aS, .ref aO, .ref aK, .ref aZ, .ref cv, .int tcn_7, .int mcn, .int swd, .int rwd, .int bpt, .int flm])), (aH, .inl (cI, 34, .inl hd_8)), (aL, .inl (cI, 34, .inl la_9))] H := hP
      have hD : va_D A [(aO, .inl (cI, 4, .inl so)), (aK, .inl (cI, 4, .inl ki)), (aZ, .inl (cZ, 4, .inl op)), (x, .inr (1, [.ref aH, .ref aL, .ref aS, .ref aO, .ref aK, .ref aZ, .ref cv, .int tcn_7, .int mcn, .int swd, .int rwd, .int bpt, .int flm])), (aH, .inl (cI, 34, .inl hd_8)), (aL, .inl (cI, 34, .inl la_9))] := hD
      have hP9 := hP.sub (ws' := [(x, .inr (1, [.ref aH, .ref aL, .ref aS, .ref aO, .ref aK, .ref aZ, .ref cv, .int tcn_7, .int mcn, .int swd, .int rwd, .int bpt, .int flm])), (aH, .inl (cI, 34, .inl hd_8)), (aL, .inl (cI, 34, .inl la_9)), (aO, .inl (cI, 4, .inl so)), (aK, .inl (cI, 4, .inl ki)), (aZ, .inl (cZ, 4, .inl op))]) [3, 4, 5, 0, 1, 2] rfl
      have hD9 := hD.sub (ws' := [(x, .inr (1, [.ref aH, .ref aL, .ref aS, .ref aO, .ref aK, .ref aZ, .ref cv, .int tcn_7, .int mcn, .int swd, .int rwd, .int bpt, .int flm])), (aH, .inl (cI, 34, .inl hd_8)), (aL, .inl (cI, 34, .inl la_9)), (aO, .inl (cI, 4, .inl so)), (aK, .inl (cI, 4, .inl ki)), (aZ, .inl (cZ, 4, .inl op))]) [3, 4, 5, 0, 1, 2] (by decide) rfl
      exact L89 tcn_7 mcn hd_8 la_9 so ki op _ _ _ hw hP9 hD9 hS (lv_sub hl [0, 1, 2, 3] rfl)
    · refine vx_callv (vx_runV (As := [.int s2, .int s3]) (rest := []) ⟨hx, hb, hml, hown, hts⟩ (c_X1_layAlike_x l hl9 dC dI cI cZ x aH aL aS aO aK aZ cv H.size tcn mcn swd rwd bpt flm hd la s2 s3 _ hw) (cwV 2 hts gX1_meld_X1_layAlike rfl rfl rfl (by decide +kernel) ⟨Nat.le_of_ble_eq_true rfl, Nat.le_of_ble_eq_true rfl⟩) ⟨fun a U g mk q => by obtain ⟨q0, q1, qP, qK, qD, qX⟩ := q; exact ⟨q0, q1, qP, va_K.moved (u := U) (U := U.calling g mk a) (Vm.Alike.refl U.vm) qK, qD, xk_same rfl rfl qX⟩, va_recv hK hPc (ci := 1) (q0 := 0) rfl rfl, fun U hU hW => ⟨rfl, by rw [hU], by rw [hU]; exact hPc, va_K.moved hW.alike hK, hDc.weaken (fun _ _ _ _ => trivial), xk_call hS hU hW (fun q h => hFc q h) hxk⟩⟩ rfl rfl hl.1 rfl (lv_room (Nat.le_of_ble_eq_true rfl)) dX1_meld_86 ⟨Nat.le_of_ble_eq_true rfl, Nat.le_of_ble_eq_true rfl⟩) hS (fun q _ h => hFc q h) hFc (fun q _ h => hFc q h) (fun E ce qe9 u t H1 locs ht hvm hw hB hz1 hk1 hS hce hcv hcl => ?_) (fun u t H1 locs ht hvm hw hB hz1 hk1 hS => False.elim hw)
      obtain ⟨E14, tcn_7, hd_8, la_9⟩ := u
      obtain ⟨rfl, hP1, -, hD1⟩ := hB
      try dsimp only at hw
      rw [ht] at hP1
      obtain ⟨hP, hD⟩ := va_join (wr := [(aO, .inl (cI, 4, .inl so)), (aK, .inl (cI, 4, .inl ki)), (aZ, .inl (cZ, 4, .inl op))]) (w1 := [(x, .inr (1, [.ref aH, .ref aL, .ref aS, .ref aO, .ref aK, .ref aZ, .ref cv, .int tcn_7, .int mcn, .int swd, .int rwd, .int bpt, .int flm])), (aH, .inl (cI, 34, .inl hd_8)), (aL, .inl (cI, 34, .inl la_9))]) hP hD [0, 1, 2] [3, 4, 5] rfl rfl (by decide) (by decide) hk1 hFc hP1 hD1
      generalize H1 = H at hP hS hce ⊢
      have hP : va_P (dC, dI) vwCl [(aO, .inl (cI, 4, .inl so)), (aK, .inl (cI, 4, .inl ki)), (aZ, .inl (cZ, 4, .inl op)), (x, .inr (1, [.ref aH, .ref aL, .ref aS, .ref aO, .ref aK, .ref aZ, .ref cv, .int tcn_7, .int mcn, .int swd, .int rwd, .int bpt, .int flm])), (aH, .inl (cI, 34, .inl hd_8)), (aL, .inl (cI, 34, .inl la_9))] H := hP
      have hD : va_D A [(aO, .inl (cI, 4, .inl so)), (aK, .inl (cI, 4, .inl ki)), (aZ, .inl (cZ, 4, .inl op)), (x, .inr (1, [.ref aH, .ref aL, .ref aS, .ref aO, .ref aK, .ref aZ, .ref cv, .int tcn_7, .int mcn, .int swd, .int rwd, .int bpt, .int flm])), (aH, .inl (cI, 34, .inl hd_8)), (aL, .inl (cI, 34, .inl la_9))] := hD
      have hP9 := hP.sub (ws' := [(x, .inr (1, [.ref aH, .ref aL, .ref aS, .ref aO, .ref aK, .ref aZ, .ref cv, .int tcn_7, .int mcn, .int swd, .int rwd, .int bpt, .int flm])), (aH, .inl (cI, 34, .inl hd_8)), (aL, .inl (cI, 34, .inl la_9)), (aO, .inl (cI, 4, .inl so)), (aK, .inl (cI, 4, .inl ki)), (aZ, .inl (cZ, 4, .inl op))]) [3, 4, 5, 0, 1, 2] rfl
      have hD9 := hD.sub (ws' := [(x, .inr (1, [.ref aH, .ref aL, .ref aS, .ref aO, .ref aK, .ref aZ, .ref cv, .int tcn_7, .int mcn, .int swd, .int rwd, .int bpt, .int flm])), (aH, .inl (cI, 34, .inl hd_8)), (aL, .inl (cI, 34, .inl la_9)), (aO, .inl (cI, 4, .inl so)), (aK, .inl (cI, 4, .inl ki)), (aZ, .inl (cZ, 4, .inl op))]) [3, 4, 5, 0, 1, 2] (by decide) rfl
      rw [← hQ9]
      exact vx_out (E := E) (fun x hx => (hEx x hx).elim) hlocks hce hcv hcl (fun t ht ha => ⟨(E, tcn_7, mcn, hd_8, la_9, so, ki, op), hw, ⟨rfl, by rw [ht]; exact hP9, va_K.moved ha hK, hD9⟩, hS.F ht⟩) hS.2.2 (Nat.le_of_ble_eq_true rfl) (Nat.le_of_ble_eq_true rfl)
  have L44 : ∀ (tcn : Int32) (mcn : Int32) (hd : (Nat → Int32)) (la : (Nat → Int32)) (so : (Nat → Int32)) (ki : (Nat → Int32)) (op : (Nat → Int32)) (H : Heap) (locs : List Loc) (ls : Array Slot), w_X1_meld_x_b44 px p0 p1 p2 tcn mcn hd la so ki op → va_P (dC, dI) vwCl [(x, .inr (1, [.ref aH, .ref aL, .ref aS, .ref aO, .ref aK, .ref aZ, .ref cv, .int tcn, .int mcn, .int swd, .int rwd, .int bpt, .int flm])), (aH, .inl (cI, 34, .inl hd)), (aL, .inl (cI, 34, .inl la)), (aO, .inl (cI, 4, .inl so)), (aK, .inl (cI, 4, .inl ki)), (aZ, .inl (cZ, 4, .inl op))] H → va_D A [(x, .inr (1, [.ref aH, .ref aL, .ref aS, .ref aO, .ref aK, .ref aZ, .ref cv, .int tcn, .int mcn, .int swd, .int rwd, .int bpt, .int flm])), (aH, .inl (cI, 34, .inl hd)), (aL, .inl (cI, 34, .inl la)), (aO, .inl (cI, 4, .inl so)), (aK, .inl (cI, 4, .inl ki)), (aZ, .inl (cZ, 4, .inl op))] → va_S A s.heap H locs → lv_has ls 4 [(0, .ref x), (1, .int p0), (2, .int p1), (3, .int p2)] → W p l e ({ frames := 9, cells := 1, slots := 6, locals := 176 } : Room) s m ([.ref x, .int p0, .int p1, .int p2] : List Value).toArray below meth c H locs 0 0 Q9 (F0 m 44 ls []) := by
    intro tcn mcn hd la so ki op H locs ls hw hP hD hS hl
    refine lv_aload_n hx hb dX1_meld_44 rfl (lv_at hl 0 rfl) ?_
    refine va_get (D := (dC, dI)) (ci := 1) (v := .int mcn) (C := RX1) (T := TX1) (N := 13) hx hb hts hinX1 hown hK hP 0 rfl rfl 8 (by decide) (hts (.fieldLink RX1 89 "TileHand" "meldCount" "I") (by decide +kernel)) (fun _ h9 => h9) rfl dX1_meld_45 ?_
    refine lv_iconst (v := 4) hx hb dX1_meld_48 (by decide) ?_
    refine lv_icmp_lt (tgt := 62) hx hb dX1_meld_49 (by decide) (fun c4 => ?_) (fun c4 => ?_)
    · have hw := hw.1 c4
      refine lv_iload_n hx hb dX1_meld_62 rfl (lv_at hl 1 rfl) ?_
      refine lv_if_ne (tgt := 74) hx hb dX1_meld_63 (by decide) (fun c5 => ?_) (fun c5 => ?_)
      · have hw := hw.2 c5
        refine lv_aload_n hx hb dX1_meld_74 rfl (lv_at hl 0 rfl) ?_
        refine lv_iload_n hx hb dX1_meld_75 rfl (lv_at hl 2 rfl) ?_
        refine lv_iload_n hx hb dX1_meld_76 rfl (lv_at hl 1 rfl) ?_
        refine lv_iconst (v := 2) hx hb dX1_meld_77 (by decide) ?_
        refine lv_icmp_ne (tgt := 85) hx hb dX1_meld_78 (by decide) (fun c6 => ?_) (fun c6 => ?_)
        · have hw := hw.2 c6
          refine lv_iconst (v := 3) hx hb dX1_meld_85 (by decide) ?_
          exact L86 (3 : Int32) p1 tcn mcn hd la so ki op _ _ _ hw hP hD hS (lv_sub hl [0, 1, 2, 3] rfl)
        · have hw := hw.1 c6
          refine lv_iconst (v := 4) hx hb dX1_meld_81 (by decide) ?_
          refine lv_goto (tgt := 86) hx hb dX1_meld_82 (by decide) ?_
          exact L86 (4 : Int32) p1 tcn mcn hd la so ki op _ _ _ hw hP hD hS (lv_sub hl [0, 1, 2, 3] rfl)
      · have hw := hw.1 c5
        refine lv_aload_n hx hb dX1_meld_66 rfl (lv_at hl 0 rfl) ?_
        refine lv_iload_n hx hb dX1_meld_67 rfl (lv_at hl 2 rfl) ?_
        have hPc := hP.sub (ws' := [(x, .inr (1, [.ref aH, .ref aL, .ref aS, .ref aO, .ref aK, .ref aZ, .ref cv, .int tcn, .int mcn, .int swd, .int rwd, .int bpt, .int flm])), (aH, .inl (cI, 34, .inl hd)), (aL, .inl (cI, 34, .inl la))]) [0, 1, 2] rfl
        have hDc := hD.sub (ws' := [(x, .inr (1, [.ref aH, .ref aL, .ref aS, .ref aO, .ref aK, .ref aZ, .ref cv, .int tcn, .int mcn, .int swd, .int rwd, .int bpt, .int flm])), (aH, .inl (cI, 34, .inl hd)), (aL, .inl (cI, 34, .inl la))]) [0, 1, 2] (by decide) rfl
        have hFc := va_free (wc := [(x, .inr (1, [.ref aH, .ref aL, .ref aS, .ref aO, .ref aK, .ref aZ, .ref cv, .int tcn, .int mcn, .int swd, .int rwd, .int bpt, .int flm])), (aH, .inl (cI, 34, .inl hd)), (aL, .inl (cI, 34, .inl la))]) hD hS hA [0, 1, 2] rfl
        rcases hw with hw | hw
        · refine va_callv (va_runV (As := [.int p1]) (rest := []) ⟨hx, hb, hml, hown, hts⟩ (c_X1_layRow l dC dI cI cZ x aH aL aS aO aK aZ cv H.size tcn mcn swd rwd bpt flm hd la p1 _ hw) (cwV 1 hts gX1_meld_X1_layRow rfl rfl rfl (by decide +kernel) ⟨Nat.le_of_ble_eq_true rfl, Nat.le_of_ble_eq_true rfl⟩) ⟨fun a U g mk q => by obtain ⟨q0, q1, qP, qK, qD⟩ := q; exact ⟨q0, q1, qP, va_K.moved (u := U) (U := U.calling g mk a) (Vm.Alike.refl U.vm) qK, qD⟩, va_recv hK hPc (ci := 1) (q0 := 0) rfl rfl, fun U hU hW => ⟨rfl, by rw [hU], by rw [hU]; exact hPc, va_K.moved hW.alike hK, hDc.weaken (fun _ _ _ _ => trivial)⟩⟩ rfl rfl hl.1 rfl (lv_room (Nat.le_of_ble_eq_true rfl)) dX1_meld_68 ⟨Nat.le_of_ble_eq_true rfl, Nat.le_of_ble_eq_true rfl⟩) hS (fun q _ h => hFc q h) hFc (fun u t H1 locs ht hvm hw hB hz1 hk1 hS => ?_)
          obtain ⟨tcn_15, hd_16, la_17⟩ := u
          obtain ⟨hP1, -, hD1⟩ := hB
          have hw := And.intro hw trivial
          try dsimp only at hw
          have hw := hw.1
          rw [ht] at hP1
          obtain ⟨hP, hD⟩ := va_join (wr := [(aO, .inl (cI, 4, .inl so)), (aK, .inl (cI, 4, .inl ki)), (aZ, .inl (cZ, 4, .inl op))]) (w1 := [(x, .inr (1, [.ref aH, .ref aL, .ref aS, .ref aO, .ref aK, .ref aZ, .ref cv, .int tcn_15, .int mcn, .int swd, .int rwd, .int bpt, .int flm])), (aH, .inl (cI, 34, .inl hd_16)), (aL, .inl (cI, 34, .inl la_17))]) hP hD [0, 1, 2] [3, 4, 5] rfl rfl (by decide) (by decide) hk1 hFc hP1 hD1
          generalize H1 = H at hP hS ⊢
          have hP : va_P (dC, dI) vwCl [(aO, .inl (cI, 4, .inl so)), (aK, .inl (cI, 4, .inl ki)), (aZ, .inl (cZ, 4, .inl op)), (x, .inr (1, [.ref aH, .ref aL, .ref aS, .ref aO, .ref aK, .ref aZ, .ref cv, .int tcn_15, .int mcn, .int swd, .int rwd, .int bpt, .int flm])), (aH, .inl (cI, 34, .inl hd_16)), (aL, .inl (cI, 34, .inl la_17))] H := hP
          have hD : va_D A [(aO, .inl (cI, 4, .inl so)), (aK, .inl (cI, 4, .inl ki)), (aZ, .inl (cZ, 4, .inl op)), (x, .inr (1, [.ref aH, .ref aL, .ref aS, .ref aO, .ref aK, .ref aZ, .ref cv, .int tcn_15, .int mcn, .int swd, .int rwd, .int bpt, .int flm])), (aH, .inl (cI, 34, .inl hd_16)), (aL, .inl (cI, 34, .inl la_17))] := hD
          refine lv_goto (tgt := 89) hx hb dX1_meld_71 (by decide) ?_
          have hP9 := hP.sub (ws' := [(x, .inr (1, [.ref aH, .ref aL, .ref aS, .ref aO, .ref aK, .ref aZ, .ref cv, .int tcn_15, .int mcn, .int swd, .int rwd, .int bpt, .int flm])), (aH, .inl (cI, 34, .inl hd_16)), (aL, .inl (cI, 34, .inl la_17)), (aO, .inl (cI, 4, .inl so)), (aK, .inl (cI, 4, .inl ki)), (aZ, .inl (cZ, 4, .inl op))]) [3, 4, 5, 0, 1, 2] rfl
          have hD9 := hD.sub (ws' := [(x, .inr (1, [.ref aH, .ref aL, .ref aS, .ref aO, .ref aK, .ref aZ, .ref cv, .int tcn_15, .int mcn, .int swd, .int rwd, .int bpt, .int flm])), (aH, .inl (cI, 34, .inl hd_16)), (aL, .inl (cI, 34, .inl la_17)), (aO, .inl (cI, 4, .inl so)), (aK, .inl (cI, 4, .inl ki)), (aZ, .inl (cZ, 4, .inl op))]) [3, 4, 5, 0, 1, 2] (by decide) rfl
          exact L89 tcn_15 mcn hd_16 la_17 so ki op _ _ _ hw hP9 hD9 hS (lv_sub hl [0, 1, 2, 3] rfl)
        · refine vx_callv (vx_runV (As := [.int p1]) (rest := []) ⟨hx, hb, hml, hown, hts⟩ (c_X1_layRow_x l hl9 dC dI cI cZ x aH aL aS aO aK aZ cv H.size tcn mcn swd rwd bpt flm hd la p1 _ hw) (cwV 1 hts gX1_meld_X1_layRow rfl rfl rfl (by decide +kernel) ⟨Nat.le_of_ble_eq_true rfl, Nat.le_of_ble_eq_true rfl⟩) ⟨fun a U g mk q => by obtain ⟨q0, q1, qP, qK, qD, qX⟩ := q; exact ⟨q0, q1, qP, va_K.moved (u := U) (U := U.calling g mk a) (Vm.Alike.refl U.vm) qK, qD, xk_same rfl rfl qX⟩, va_recv hK hPc (ci := 1) (q0 := 0) rfl rfl, fun U hU hW => ⟨rfl, by rw [hU], by rw [hU]; exact hPc, va_K.moved hW.alike hK, hDc.weaken (fun _ _ _ _ => trivial), xk_call hS hU hW (fun q h => hFc q h) hxk⟩⟩ rfl rfl hl.1 rfl (lv_room (Nat.le_of_ble_eq_true rfl)) dX1_meld_68 ⟨Nat.le_of_ble_eq_true rfl, Nat.le_of_ble_eq_true rfl⟩) hS (fun q _ h => hFc q h) hFc (fun q _ h => hFc q h) (fun E ce qe9 u t H1 locs ht hvm hw hB hz1 hk1 hS hce hcv hcl => ?_) (fun u t H1 locs ht hvm hw hB hz1 hk1 hS => False.elim hw)
          obtain ⟨E18, tcn_15, hd_16, la_17⟩ := u
          obtain ⟨rfl, hP1, -, hD1⟩ := hB
          try dsimp only at hw
          rw [ht] at hP1
          obtain ⟨hP, hD⟩ := va_join (wr := [(aO, .inl (cI, 4, .inl so)), (aK, .inl (cI, 4, .inl ki)), (aZ, .inl (cZ, 4, .inl op))]) (w1 := [(x, .inr (1, [.ref aH, .ref aL, .ref aS, .ref aO, .ref aK, .ref aZ, .ref cv, .int tcn_15, .int mcn, .int swd, .int rwd, .int bpt, .int flm])), (aH, .inl (cI, 34, .inl hd_16)), (aL, .inl (cI, 34, .inl la_17))]) hP hD [0, 1, 2] [3, 4, 5] rfl rfl (by decide) (by decide) hk1 hFc hP1 hD1
          generalize H1 = H at hP hS hce ⊢
          have hP : va_P (dC, dI) vwCl [(aO, .inl (cI, 4, .inl so)), (aK, .inl (cI, 4, .inl ki)), (aZ, .inl (cZ, 4, .inl op)), (x, .inr (1, [.ref aH, .ref aL, .ref aS, .ref aO, .ref aK, .ref aZ, .ref cv, .int tcn_15, .int mcn, .int swd, .int rwd, .int bpt, .int flm])), (aH, .inl (cI, 34, .inl hd_16)), (aL, .inl (cI, 34, .inl la_17))] H := hP
          have hD : va_D A [(aO, .inl (cI, 4, .inl so)), (aK, .inl (cI, 4, .inl ki)), (aZ, .inl (cZ, 4, .inl op)), (x, .inr (1, [.ref aH, .ref aL, .ref aS, .ref aO, .ref aK, .ref aZ, .ref cv, .int tcn_15, .int mcn, .int swd, .int rwd, .int bpt, .int flm])), (aH, .inl (cI, 34, .inl hd_16)), (aL, .inl (cI, 34, .inl la_17))] := hD
          have hP9 := hP.sub (ws' := [(x, .inr (1, [.ref aH, .ref aL, .ref aS, .ref aO, .ref aK, .ref aZ, .ref cv, .int tcn_15, .int mcn, .int swd, .int rwd, .int bpt, .int flm])), (aH, .inl (cI, 34, .inl hd_16)), (aL, .inl (cI, 34, .inl la_17)), (aO, .inl (cI, 4, .inl so)), (aK, .inl (cI, 4, .inl ki)), (aZ, .inl (cZ, 4, .inl op))]) [3, 4, 5, 0, 1, 2] rfl
          have hD9 := hD.sub (ws' := [(x, .inr (1, [.ref aH, .ref aL, .ref aS, .ref aO, .ref aK, .ref aZ, .ref cv, .int tcn_15, .int mcn, .int swd, .int rwd, .int bpt, .int flm])), (aH, .inl (cI, 34, .inl hd_16)), (aL, .inl (cI, 34, .inl la_17)), (aO, .inl (cI, 4, .inl so)), (aK, .inl (cI, 4, .inl ki)), (aZ, .inl (cZ, 4, .inl op))]) [3, 4, 5, 0, 1, 2] (by decide) rfl
          rw [← hQ9]
          exact vx_out (E := E) (fun x hx => (hEx x hx).elim) hlocks hce hcv hcl (fun t ht ha => ⟨(E, tcn_15, mcn, hd_16, la_17, so, ki, op), hw, ⟨rfl, by rw [ht]; exact hP9, va_K.moved ha hK, hD9⟩, hS.F ht⟩) hS.2.2 (Nat.le_of_ble_eq_true rfl) (Nat.le_of_ble_eq_true rfl)
    · have hw := hw.2 c4
      obtain ⟨sa9, hstr9⟩ := xk_s92 hxk
      rw [← hQ9]
      exact vx_throwS (own := RX1) (cls := "java/lang/IllegalStateException") (text := "there are four melds") (names := ["java/lang/RuntimeException", "java/lang/Exception"]) (A := A) hx hb hl9 hown (by decide +kernel) (by decide +kernel) (hts (.classLink RX1 57 "java/lang/IllegalStateException") (by decide +kernel)) (hts (.initialized "java/lang/IllegalStateException") (by decide +kernel)) hstr9 (vx_hat (L := vx_atS RX1 61 "java/lang/IllegalStateException" ["java/lang/RuntimeException", "java/lang/Exception"]) (B := [.castable "java/lang/IllegalStateException" "java/lang/IllegalStateException", .declares ⟨"java/lang/RuntimeException", "<init>", "(Ljava/lang/String;)V"⟩, .declares ⟨"java/lang/Exception", "<init>", "(Ljava/lang/String;)V"⟩, .declares ⟨"java/lang/Throwable", "<init>", "(Ljava/lang/String;)V"⟩]) (fun w hw => hts w ((by decide +kernel : ∀ w ∈ (vx_atS RX1 61 "java/lang/IllegalStateException" ["java/lang/RuntimeException", "java/lang/Exception"]).filter goodWord, w ∈ wsX1_meld) w hw)) (by decide +kernel) (vx_c (va_Nw.use rfl (xk_c3 hxk)) (vx_c (va_Nw.use rfl (xk_d1 hxk)) (vx_c (va_Nw.use rfl (xk_d2 hxk)) (vx_c (va_Nw.use rfl (xk_d3 hxk)) vx_n))))) (by decide +kernel) (xk_U hxk) (xk_N hxk) hS (hl.1.trans hml.symm) dX1_meld_52 dX1_meld_55 dX1_meld_56 dX1_meld_58 dX1_meld_61 (fun x hx => (hEx x hx).elim) (Nat.le_of_ble_eq_true rfl) (Nat.le_of_ble_eq_true rfl) (Nat.le_of_ble_eq_true rfl) (Nat.le_of_ble_eq_true rfl) hlocks (fun t ha hz hq => ⟨("java/lang/IllegalStateException", tcn, mcn, hd, la, so, ki, op), hw, ⟨rfl, xt_P hP hq, va_K.moved ha hK, hD⟩, xt_F hS hz hq⟩) hS.2.2 (Nat.le_of_ble_eq_true rfl) (Nat.le_of_ble_eq_true rfl)
  refine lv_iload_n hx hb dX1_meld_0 rfl (lv_at hl 2 rfl) ?_
  have hPc := hP.sub (ws' := []) [] rfl
  have hDc := hD.sub (ws' := []) [] (by decide) rfl
  have hFc := va_free (wc := []) hD hS hA [] rfl
  rcases hw with hw | hw
  · refine va_callv (va_runS (As := [.int p1]) (rest := []) ⟨hx, hb, hml, hown, hts⟩ (c_X1_requireKind l dC dI cI cZ s.heap.size p1 _ hw) (va_cwS 1 hts gX1_meld_X1_requireKind rfl rfl rfl (by decide +kernel) ⟨Nat.le_of_ble_eq_true rfl, Nat.le_of_ble_eq_true rfl⟩) ⟨fun a U g mk q => by obtain ⟨q0, q1, qP, qK, qD⟩ := q; exact ⟨q0, q1, qP, va_K.moved (u := U) (U := U.calling g mk a) (Vm.Alike.refl U.vm) qK, qD⟩, fun U hU hW => ⟨rfl, by rw [hU], by rw [hU]; exact hPc, va_K.moved hW.alike hK, hDc.weaken (fun _ _ _ _ => trivial)⟩⟩ rfl rfl hl.1 rfl (lv_room (Nat.le_of_ble_eq_true rfl)) dX1_meld_1 ⟨Nat.le_of_ble_eq_true rfl, Nat.le_of_ble_eq_true rfl⟩) hS (fun q _ h => hFc q h) hFc (fun u t H1 locs ht hvm hw hB hz1 hk1 hS => ?_)
    obtain ⟨hP1, -, hD1⟩ := hB
    have hw := And.intro hw trivial
    try dsimp only at hw
    have hw := hw.1
    rw [ht] at hP1
    obtain ⟨hP, hD⟩ := va_join (wr := [(x, .inr (1, [.ref aH, .ref aL, .ref aS, .ref aO, .ref aK, .ref aZ, .ref cv, .int tcn, .int mcn, .int swd, .int rwd, .int bpt, .int flm])), (aH, .inl (cI, 34, .inl hd)), (aL, .inl (cI, 34, .inl la)), (aO, .inl (cI, 4, .inl so)), (aK, .inl (cI, 4, .inl ki)), (aZ, .inl (cZ, 4, .inl op))]) (w1 := []) hP hD [] [0, 1, 2, 3, 4, 5] rfl rfl (by decide) (by decide) hk1 hFc hP1 hD1
    generalize H1 = H at hP hS ⊢
    have hP : va_P (dC, dI) vwCl [(x, .inr (1, [.ref aH, .ref aL, .ref aS, .ref aO, .ref aK, .ref aZ, .ref cv, .int tcn, .int mcn, .int swd, .int rwd, .int bpt, .int flm])), (aH, .inl (cI, 34, .inl hd)), (aL, .inl (cI, 34, .inl la)), (aO, .inl (cI, 4, .inl so)), (aK, .inl (cI, 4, .inl ki)), (aZ, .inl (cZ, 4, .inl op))] H := hP
    have hD : va_D A [(x, .inr (1, [.ref aH, .ref aL, .ref aS, .ref aO, .ref aK, .ref aZ, .ref cv, .int tcn, .int mcn, .int swd, .int rwd, .int bpt, .int flm])), (aH, .inl (cI, 34, .inl hd)), (aL, .inl (cI, 34, .inl la)), (aO, .inl (cI, 4, .inl so)), (aK, .inl (cI, 4, .inl ki)), (aZ, .inl (cZ, 4, .inl op))] := hD
    refine lv_iload_n hx hb dX1_meld_4 rfl (lv_at hl 1 rfl) ?_
    refine lv_if_lt (tgt := 13) hx hb dX1_meld_5 (by decide) (fun c1 => ?_) (fun c1 => ?_)
    · have hw := hw.1 c1
      exact L13 tcn mcn hd la so ki op _ _ _ hw hP hD hS (lv_sub hl [0] rfl)
    · have hw := hw.2 c1
      refine lv_iload_n hx hb dX1_meld_8 rfl (lv_at hl 1 rfl) ?_
      refine lv_iconst (v := 2) hx hb dX1_meld_9 (by decide) ?_
      refine lv_icmp_le (tgt := 23) hx hb dX1_meld_10 (by decide) (fun c2 => ?_) (fun c2 => ?_)
      · have hw := hw.1 c2
        refine lv_iload_n hx hb dX1_meld_23 rfl (lv_at hl 1 rfl) ?_
        refine lv_if_ne (tgt := 44) hx hb dX1_meld_24 (by decide) (fun c3 => ?_) (fun c3 => ?_)
        · have hw := hw.2 c3
          exact L44 tcn mcn hd la so ki op _ _ _ hw hP hD hS (lv_sub hl [0, 1, 2, 3] rfl)
        · have hw := hw.1 c3
          refine lv_iload_n hx hb dX1_meld_27 rfl (lv_at hl 2 rfl) ?_
          have hPc := hP.sub (ws' := []) [] rfl
          have hDc := hD.sub (ws' := []) [] (by decide) rfl
          have hFc := va_free (wc := []) hD hS hA [] rfl
          refine va_calli (va_runS (As := [.int p1]) (rest := []) ⟨hx, hb, hml, hown, hts⟩ (c_X1_beginsRow l dC dI cI cZ H.size p1 _ hw) (va_cwS 1 hts gX1_meld_X1_beginsRow rfl rfl rfl (by decide +kernel) ⟨Nat.le_of_ble_eq_true rfl, Nat.le_of_ble_eq_true rfl⟩) ⟨fun a U g mk q => by obtain ⟨q0, q1, qP, qK, qD⟩ := q; exact ⟨q0, q1, qP, va_K.moved (u := U) (U := U.calling g mk a) (Vm.Alike.refl U.vm) qK, qD⟩, fun U hU hW => ⟨rfl, by rw [hU], by rw [hU]; exact hPc, va_K.moved hW.alike hK, hDc.weaken (fun _ _ _ _ => trivial)⟩⟩ rfl rfl hl.1 rfl (lv_room (Nat.le_of_ble_eq_true rfl)) dX1_meld_28 ⟨Nat.le_of_ble_eq_true rfl, Nat.le_of_ble_eq_true rfl⟩) hS (fun q _ h => hFc q h) hFc (fun r19 u t H1 locs ht hvm hw hB hz1 hk1 hS => ?_)
          obtain ⟨hP1, -, hD1⟩ := hB
          have hw := And.intro hw trivial
          try dsimp only at hw
          have hw := hw.1
          rw [ht] at hP1
          obtain ⟨hP, hD⟩ := va_join (wr := [(x, .inr (1, [.ref aH, .ref aL, .ref aS, .ref aO, .ref aK, .ref aZ, .ref cv, .int tcn, .int mcn, .int swd, .int rwd, .int bpt, .int flm])), (aH, .inl (cI, 34, .inl hd)), (aL, .inl (cI, 34, .inl la)), (aO, .inl (cI, 4, .inl so)), (aK, .inl (cI, 4, .inl ki)), (aZ, .inl (cZ, 4, .inl op))]) (w1 := []) hP hD [] [0, 1, 2, 3, 4, 5] rfl rfl (by decide) (by decide) hk1 hFc hP1 hD1
          generalize H1 = H at hP hS ⊢
          have hP : va_P (dC, dI) vwCl [(x, .inr (1, [.ref aH, .ref aL, .ref aS, .ref aO, .ref aK, .ref aZ, .ref cv, .int tcn, .int mcn, .int swd, .int rwd, .int bpt, .int flm])), (aH, .inl (cI, 34, .inl hd)), (aL, .inl (cI, 34, .inl la)), (aO, .inl (cI, 4, .inl so)), (aK, .inl (cI, 4, .inl ki)), (aZ, .inl (cZ, 4, .inl op))] H := hP
          have hD : va_D A [(x, .inr (1, [.ref aH, .ref aL, .ref aS, .ref aO, .ref aK, .ref aZ, .ref cv, .int tcn, .int mcn, .int swd, .int rwd, .int bpt, .int flm])), (aH, .inl (cI, 34, .inl hd)), (aL, .inl (cI, 34, .inl la)), (aO, .inl (cI, 4, .inl so)), (aK, .inl (cI, 4, .inl ki)), (aZ, .inl (cZ, 4, .inl op))] := hD
          refine lv_if_ne (tgt := 44) hx hb dX1_meld_31 (by decide) (fun c20 => ?_) (fun c20 => ?_)
          · have hw := hw.2 c20
            exact L44 tcn mcn hd la so ki op _ _ _ hw hP hD hS (lv_sub hl [0, 1, 2, 3] rfl)
          · have hw := hw.1 c20
            obtain ⟨sa9, hstr9⟩ := xk_s87 hxk
            rw [← hQ9]
            exact vx_throwS (own := RX1) (cls := "java/lang/IllegalArgumentException") (text := "no such ROW") (names := ["java/lang/RuntimeException", "java/lang/Exception"]) (A := A) hx hb hl9 hown (by decide +kernel) (by decide +kernel) (hts (.classLink RX1 78 "java/lang/IllegalArgumentException") (by decide +kernel)) (hts (.initialized "java/lang/IllegalArgumentException") (by decide +kernel)) hstr9 (vx_hat (L := vx_atS RX1 82 "java/lang/IllegalArgumentException" ["java/lang/RuntimeException", "java/lang/Exception"]) (B := [.castable "java/lang/IllegalArgumentException" "java/lang/IllegalArgumentException", .declares ⟨"java/lang/RuntimeException", "<init>", "(Ljava/lang/String;)V"⟩, .declares ⟨"java/lang/Exception", "<init>", "(Ljava/lang/String;)V"⟩, .declares ⟨"java/lang/Throwable", "<init>", "(Ljava/lang/String;)V"⟩]) (fun w hw => hts w ((by decide +kernel : ∀ w ∈ (vx_atS RX1 82 "java/lang/IllegalArgumentException" ["java/lang/RuntimeException", "java/lang/Exception"]).filter goodWord, w ∈ wsX1_meld) w hw)) (by decide +kernel) (vx_c (va_Nw.use rfl (xk_c2 hxk)) (vx_c (va_Nw.use rfl (xk_d1 hxk)) (vx_c (va_Nw.use rfl (xk_d2 hxk)) (vx_c (va_Nw.use rfl (xk_d3 hxk)) vx_n))))) (by decide +kernel) (xk_U hxk) (xk_N hxk) hS (hl.1.trans hml.symm) dX1_meld_34 dX1_meld_37 dX1_meld_38 dX1_meld_40 dX1_meld_43 (fun x hx => (hEx x hx).elim) (Nat.le_of_ble_eq_true rfl) (Nat.le_of_ble_eq_true rfl) (Nat.le_of_ble_eq_true rfl) (Nat.le_of_ble_eq_true rfl) hlocks (fun t ha hz hq => ⟨("java/lang/IllegalArgumentException", tcn, mcn, hd, la, so, ki, op), hw, ⟨rfl, xt_P hP hq, va_K.moved ha hK, hD⟩, xt_F hS hz hq⟩) hS.2.2 (Nat.le_of_ble_eq_true rfl) (Nat.le_of_ble_eq_true rfl)
      · have hw := hw.2 c2
        exact L13 tcn mcn hd la so ki op _ _ _ hw hP hD hS (lv_sub hl [0] rfl)
  · refine vx_callv (vx_runS (As := [.int p1]) (rest := []) ⟨hx, hb, hml, hown, hts⟩ (c_X1_requireKind_x l hl9 dC dI cI cZ s.heap.size p1 _ hw) (va_cwS 1 hts gX1_meld_X1_requireKind rfl rfl rfl (by decide +kernel) ⟨Nat.le_of_ble_eq_true rfl, Nat.le_of_ble_eq_true rfl⟩) ⟨fun a U g mk q => by obtain ⟨q0, q1, qP, qK, qD, qX⟩ := q; exact ⟨q0, q1, qP, va_K.moved (u := U) (U := U.calling g mk a) (Vm.Alike.refl U.vm) qK, qD, xk_same rfl rfl qX⟩, fun U hU hW => ⟨rfl, by rw [hU], by rw [hU]; exact hPc, va_K.moved hW.alike hK, hDc.weaken (fun _ _ _ _ => trivial), xk_call hS hU hW (fun q h => hFc q h) hxk⟩⟩ rfl rfl hl.1 rfl (lv_room (Nat.le_of_ble_eq_true rfl)) dX1_meld_1 ⟨Nat.le_of_ble_eq_true rfl, Nat.le_of_ble_eq_true rfl⟩) hS (fun q _ h => hFc q h) hFc (fun q _ h => hFc q h) (fun E ce qe9 u t H1 locs ht hvm hw hB hz1 hk1 hS hce hcv hcl => ?_) (fun u t H1 locs ht hvm hw hB hz1 hk1 hS => False.elim hw)
    obtain ⟨E21, rfl⟩ : ∃ z, z = u := ⟨_, rfl⟩
    obtain ⟨rfl, hP1, -, hD1⟩ := hB
    try dsimp only at hw
    rw [ht] at hP1
    obtain ⟨hP, hD⟩ := va_join (wr := [(x, .inr (1, [.ref aH, .ref aL, .ref aS, .ref aO, .ref aK, .ref aZ, .ref cv, .int tcn, .int mcn, .int swd, .int rwd, .int bpt, .int flm])), (aH, .inl (cI, 34, .inl hd)), (aL, .inl (cI, 34, .inl la)), (aO, .inl (cI, 4, .inl so)), (aK, .inl (cI, 4, .inl ki)), (aZ, .inl (cZ, 4, .inl op))]) (w1 := []) hP hD [] [0, 1, 2, 3, 4, 5] rfl rfl (by decide) (by decide) hk1 hFc hP1 hD1
    generalize H1 = H at hP hS hce ⊢
    have hP : va_P (dC, dI) vwCl [(x, .inr (1, [.ref aH, .ref aL, .ref aS, .ref aO, .ref aK, .ref aZ, .ref cv, .int tcn, .int mcn, .int swd, .int rwd, .int bpt, .int flm])), (aH, .inl (cI, 34, .inl hd)), (aL, .inl (cI, 34, .inl la)), (aO, .inl (cI, 4, .inl so)), (aK, .inl (cI, 4, .inl ki)), (aZ, .inl (cZ, 4, .inl op))] H := hP
    have hD : va_D A [(x, .inr (1, [.ref aH, .ref aL, .ref aS, .ref aO, .ref aK, .ref aZ, .ref cv, .int tcn, .int mcn, .int swd, .int rwd, .int bpt, .int flm])), (aH, .inl (cI, 34, .inl hd)), (aL, .inl (cI, 34, .inl la)), (aO, .inl (cI, 4, .inl so)), (aK, .inl (cI, 4, .inl ki)), (aZ, .inl (cZ, 4, .inl op))] := hD
    have hP9 := hP.sub (ws' := [(x, .inr (1, [.ref aH, .ref aL, .ref aS, .ref aO, .ref aK, .ref aZ, .ref cv, .int tcn, .int mcn, .int swd, .int rwd, .int bpt, .int flm])), (aH, .inl (cI, 34, .inl hd)), (aL, .inl (cI, 34, .inl la)), (aO, .inl (cI, 4, .inl so)), (aK, .inl (cI, 4, .inl ki)), (aZ, .inl (cZ, 4, .inl op))]) [0, 1, 2, 3, 4, 5] rfl
    have hD9 := hD.sub (ws' := [(x, .inr (1, [.ref aH, .ref aL, .ref aS, .ref aO, .ref aK, .ref aZ, .ref cv, .int tcn, .int mcn, .int swd, .int rwd, .int bpt, .int flm])), (aH, .inl (cI, 34, .inl hd)), (aL, .inl (cI, 34, .inl la)), (aO, .inl (cI, 4, .inl so)), (aK, .inl (cI, 4, .inl ki)), (aZ, .inl (cZ, 4, .inl op))]) [0, 1, 2, 3, 4, 5] (by decide) rfl
    rw [← hQ9]
    exact vx_out (E := E) (fun x hx => (hEx x hx).elim) hlocks hce hcv hcl (fun t ht ha => ⟨(E, tcn, mcn, hd, la, so, ki, op), hw, ⟨rfl, by rw [ht]; exact hP9, va_K.moved ha hK, hD9⟩, hS.F ht⟩) hS.2.2 (Nat.le_of_ble_eq_true rfl) (Nat.le_of_ble_eq_true rfl)

def w_X1_findThree_b37 (post : Int32 → Prop) (mcn : Int32) (so : (Nat → Int32)) (ki : (Nat → Int32)) (p0 : Int32) (K2 : Int32 → Prop) (v2 : Int32) : Prop := K2 (v2 + 1)

def w_X1_findThree_b2 (post : Int32 → Prop) (mcn : Int32) (so : (Nat → Int32)) (ki : (Nat → Int32)) (p0 : Int32) : Nat → Int32 → Prop
  | 0, _ => False
  | n + 1, v2 => ((mcn ≤ v2 → (post (-1 : Int32))) ∧ (¬ mcn ≤ v2 → ((((4 : Int32) ≤ v2 → (post (-1 : Int32))) ∧ (¬ (4 : Int32) ≤ v2 → (vp_in v2 4 ∧ ((((so v2.toNatClampNeg) = (1 : Int32) → (vp_in v2 4 ∧ ((((ki v2.toNatClampNeg) = p0 → (post v2)) ∧ (¬ (ki v2.toNatClampNeg) = p0 → (w_X1_findThree_b37 post mcn so ki p0 (w_X1_findThree_b2 post mcn so ki p0 n) v2)))))) ∧ (¬ (so v2.toNatClampNeg) = (1 : Int32) → (w_X1_findThree_b37 post mcn so ki p0 (w_X1_findThree_b2 post mcn so ki p0 n) v2))))))))))

def w_X1_findThree (mcn : Int32) (so : (Nat → Int32)) (ki : (Nat → Int32)) (p0 : Int32) (post : Int32 → Prop) : Prop := ∃ n9, w_X1_findThree_b2 post mcn so ki p0 n9 (0 : Int32)

set_option maxHeartbeats 4000000 in
set_option maxRecDepth 100000 in
theorem c_X1_findThree (l : Launch) (dC : Nat → ClassId) (dI : Nat → Nat → Nat) (cI cZ : ClassId) (x : Nat) (aH : Nat) (aL : Nat) (aS : Nat) (aO : Nat) (aK : Nat) (aZ : Nat) (cv : Nat) (sz : Nat) (tcn : Int32) (mcn : Int32) (swd : Int32) (rwd : Int32) (bpt : Int32) (flm : Int32) (so : (Nat → Int32)) (ki : (Nat → Int32)) (p0 : Int32) (post : Int32 → Prop) (hw : w_X1_findThree mcn so ki p0 post) : Met l yX1_findThree wsX1_findThree ({ frames := 0, cells := 0, slots := 0, locals := 0 } : Room) (va_Pc [.ref x, .int p0] (fun U => U.heap.size = sz ∧ va_P (dC, dI) vwCl [(x, .inr (1, [.ref aH, .ref aL, .ref aS, .ref aO, .ref aK, .ref aZ, .ref cv, .int tcn, .int mcn, .int swd, .int rwd, .int bpt, .int flm])), (aO, .inl (cI, 4, .inl so)), (aK, .inl (cI, 4, .inl ki))] U.heap ∧ va_K (dC, dI) vwCl [(cI, .int), (cZ, .boolean)] U ∧ va_D (fun _ => True) [(x, .inr (1, [.ref aH, .ref aL, .ref aS, .ref aO, .ref aK, .ref aZ, .ref cv, .int tcn, .int mcn, .int swd, .int rwd, .int bpt, .int flm])), (aO, .inl (cI, 4, .inl so)), (aK, .inl (cI, 4, .inl ki))])) (va_Qi (fun (r9 : Int32) (u9 : Unit) => post r9) (fun (u9 : Unit) (t9 : State) => va_P (dC, dI) vwCl [(x, .inr (1, [.ref aH, .ref aL, .ref aS, .ref aO, .ref aK, .ref aZ, .ref cv, .int tcn, .int mcn, .int swd, .int rwd, .int bpt, .int flm])), (aO, .inl (cI, 4, .inl so)), (aK, .inl (cI, 4, .inl ki))] t9.heap ∧ va_K (dC, dI) vwCl [(cI, .int), (cZ, .boolean)] t9 ∧ va_D (va_A [(x, .inr (1, [.ref aH, .ref aL, .ref aS, .ref aO, .ref aK, .ref aZ, .ref cv, .int tcn, .int mcn, .int swd, .int rwd, .int bpt, .int flm])), (aO, .inl (cI, 4, .inl so)), (aK, .inl (cI, 4, .inl ki))] sz) [(x, .inr (1, [.ref aH, .ref aL, .ref aS, .ref aO, .ref aK, .ref aZ, .ref cv, .int tcn, .int mcn, .int swd, .int rwd, .int bpt, .int flm])), (aO, .inl (cI, 4, .inl so)), (aK, .inl (cI, 4, .inl ki))]) (va_A [(x, .inr (1, [.ref aH, .ref aL, .ref aS, .ref aO, .ref aK, .ref aZ, .ref cv, .int tcn, .int mcn, .int swd, .int rwd, .int bpt, .int flm])), (aO, .inl (cI, 4, .inl so)), (aK, .inl (cI, 4, .inl ki))] sz)) 0 0 (va_A [(x, .inr (1, [.ref aH, .ref aL, .ref aS, .ref aO, .ref aK, .ref aZ, .ref cv, .int tcn, .int mcn, .int swd, .int rwd, .int bpt, .int flm])), (aO, .inl (cI, 4, .inl so)), (aK, .inl (cI, 4, .inl ki))] sz) := by
  refine Met.ofW (cc := cX1_findThree) (maxL := 3) (ret := (some .int)) (by decide) rfl ?_
  intro p e s m args below meth c s₁ B hml hv
  obtain ⟨rfl, hsz, hP, hK, hD0⟩ := hv
  have hx := B.exec
  have hb := B.bytes
  have hr := B.returns
  have hts := atoms_spec (ws := wsX1_findThree) B.pre
  have hown : s.vm.findClass RX1 = some m.cls := findClass_of_methodNamed B.named
  have hlocks := B.notSynchronized
  have hinX1 : ∀ w ∈ u_ws RX1 TX1 13, w ∈ wsX1_findThree := by decide +kernel
  subst hsz
  have hD := hD0.self (sz := s.heap.size)
  generalize hAe : va_A [(x, .inr (1, [.ref aH, .ref aL, .ref aS, .ref aO, .ref aK, .ref aZ, .ref cv, .int tcn, .int mcn, .int swd, .int rwd, .int bpt, .int flm])), (aO, .inl (cI, 4, .inl so)), (aK, .inl (cI, 4, .inl ki))] s.heap.size = A at hD ⊢
  have hA : ∀ q : Nat, s.heap.size ≤ q → A q := fun q h => by rw [← hAe]; exact Or.inr h
  have hS : va_S A s.heap s.heap [] := va_S.rf
  have hl := lv_entry ([.ref x, .int p0]) (n := 3) (Nat.le_of_ble_eq_true rfl)
  rw [lg_entry_eq]
  generalize (lg_sl ([.ref x, .int p0]) ++ List.replicate (3 - (lg_sl ([.ref x, .int p0])).length) Slot.unset).toArray = ls at hl ⊢
  have hl : lv_has ls 3 [(0, .ref x), (1, .int p0)] := hl
  refine (?_ : ∀ Q9 : State → Prop, MQ below _ _ s _ _ _ = Q9 → W p l e ({ frames := 0, cells := 0, slots := 0, locals := 0 } : Room) s m _ below meth c s.heap [] 0 0 Q9 (F0 m 0 ls [])) _ rfl
  intro Q9 hQ9
  have hw : ∃ n9, w_X1_findThree_b2 post mcn so ki p0 n9 (0 : Int32) := hw
  have L37 : ∀ (K2 : Int32 → Prop) (hK2 : ∀ (v2 : Int32) (H : Heap) (locs : List Loc) (ls : Array Slot), K2 v2 → va_P (dC, dI) vwCl [(x, .inr (1, [.ref aH, .ref aL, .ref aS, .ref aO, .ref aK, .ref aZ, .ref cv, .int tcn, .int mcn, .int swd, .int rwd, .int bpt, .int flm])), (aO, .inl (cI, 4, .inl so)), (aK, .inl (cI, 4, .inl ki))] H → va_D A [(x, .inr (1, [.ref aH, .ref aL, .ref aS, .ref aO, .ref aK, .ref aZ, .ref cv, .int tcn, .int mcn, .int swd, .int rwd, .int bpt, .int flm])), (aO, .inl (cI, 4, .inl so)), (aK, .inl (cI, 4, .inl ki))] → va_S A s.heap H locs → lv_has ls 3 [(0, .ref x), (1, .int p0), (2, .int v2)] → W p l e ({ frames := 0, cells := 0, slots := 0, locals := 0 } : Room) s m ([.ref x, .int p0] : List Value).toArray below meth c H locs 0 0 Q9 (F0 m 2 ls [])), ∀ (v2 : Int32) (H : Heap) (locs : List Loc) (ls : Array Slot), w_X1_findThree_b37 post mcn so ki p0 K2 v2 → va_P (dC, dI) vwCl [(x, .inr (1, [.ref aH, .ref aL, .ref aS, .ref aO, .ref aK, .ref aZ, .ref cv, .int tcn, .int mcn, .int swd, .int rwd, .int bpt, .int flm])), (aO, .inl (cI, 4, .inl so)), (aK, .inl (cI, 4, .inl ki))] H → va_D A [(x, .inr (1, [.ref aH, .ref aL, .ref aS, .ref aO, .ref aK, .ref aZ, .ref cv, .int tcn, .int mcn, .int swd, .int rwd, .int bpt, .int flm])), (aO, .inl (cI, 4, .inl so)), (aK, .inl (cI, 4, .inl ki))] → va_S A s.heap H locs → lv_has ls 3 [(0, .ref x), (1, .int p0), (2, .int v2)] → W p l e ({ frames := 0, cells := 0, slots := 0, locals := 0 } : Room) s m ([.ref x, .int p0] : List Value).toArray below meth c H locs 0 0 Q9 (F0 m 37 ls []) := by
    intro K2 hK2 v2 H locs ls hw hP hD hS hl
    refine lv_iinc (v := v2 + 1) (lv' := [(2, .int (v2 + 1)), (0, .ref x), (1, .int p0)]) hx hb dX1_findThree_37 hl (k := 2) rfl rfl (by decide) rfl (fun ls hl => ?_)
    refine lv_goto (tgt := 2) hx hb dX1_findThree_40 (by decide) ?_
    exact hK2 (v2 + 1) _ _ _ hw hP hD hS (lv_sub hl [1, 2, 0] rfl)
  have L2 : ∀ (n : Nat), ∀ (v2 : Int32) (H : Heap) (locs : List Loc) (ls : Array Slot), w_X1_findThree_b2 post mcn so ki p0 n v2 → va_P (dC, dI) vwCl [(x, .inr (1, [.ref aH, .ref aL, .ref aS, .ref aO, .ref aK, .ref aZ, .ref cv, .int tcn, .int mcn, .int swd, .int rwd, .int bpt, .int flm])), (aO, .inl (cI, 4, .inl so)), (aK, .inl (cI, 4, .inl ki))] H → va_D A [(x, .inr (1, [.ref aH, .ref aL, .ref aS, .ref aO, .ref aK, .ref aZ, .ref cv, .int tcn, .int mcn, .int swd, .int rwd, .int bpt, .int flm])), (aO, .inl (cI, 4, .inl so)), (aK, .inl (cI, 4, .inl ki))] → va_S A s.heap H locs → lv_has ls 3 [(0, .ref x), (1, .int p0), (2, .int v2)] → W p l e ({ frames := 0, cells := 0, slots := 0, locals := 0 } : Room) s m ([.ref x, .int p0] : List Value).toArray below meth c H locs 0 0 Q9 (F0 m 2 ls []) := by
    intro n
    induction n with
    | zero => intro v2 H locs ls hw _ _ _ _; exact False.elim hw
    | succ n ih =>
      intro v2 H locs ls hw hP hD hS hl
      refine lv_iload_n hx hb dX1_findThree_2 rfl (lv_at hl 2 rfl) ?_
      refine lv_aload_n hx hb dX1_findThree_3 rfl (lv_at hl 0 rfl) ?_
      refine va_get (D := (dC, dI)) (ci := 1) (v := .int mcn) (C := RX1) (T := TX1) (N := 13) hx hb hts hinX1 hown hK hP 0 rfl rfl 8 (by decide) (hts (.fieldLink RX1 89 "TileHand" "meldCount" "I") (by decide +kernel)) (fun _ h9 => h9) rfl dX1_findThree_4 ?_
      refine lv_icmp_ge (tgt := 43) hx hb dX1_findThree_7 (by decide) (fun c1 => ?_) (fun c1 => ?_)
      · have hw := hw.1 c1
        refine lv_iconst (v := -1) hx hb dX1_findThree_43 (by decide) ?_
        rw [← hQ9]
        exact W.iret (v := (-1 : Int32)) hx hb hr (fun t ht hW => ⟨⟨(-1 : Int32), (), rfl, hw, by rw [ht]; exact hP, va_K.moved hW.alike hK, hD⟩, hS.F ht⟩) hS.2.2 dX1_findThree_44
      · have hw := hw.2 c1
        refine lv_iload_n hx hb dX1_findThree_10 rfl (lv_at hl 2 rfl) ?_
        refine lv_iconst (v := 4) hx hb dX1_findThree_11 (by decide) ?_
        refine lv_icmp_ge (tgt := 43) hx hb dX1_findThree_12 (by decide) (fun c2 => ?_) (fun c2 => ?_)
        · have hw := hw.1 c2
          refine lv_iconst (v := -1) hx hb dX1_findThree_43 (by decide) ?_
          rw [← hQ9]
          exact W.iret (v := (-1 : Int32)) hx hb hr (fun t ht hW => ⟨⟨(-1 : Int32), (), rfl, hw, by rw [ht]; exact hP, va_K.moved hW.alike hK, hD⟩, hS.F ht⟩) hS.2.2 dX1_findThree_44
        · have hw := hw.2 c2
          refine lv_aload_n hx hb dX1_findThree_15 rfl (lv_at hl 0 rfl) ?_
          refine va_get (D := (dC, dI)) (ci := 1) (v := .ref aO) (C := RX1) (T := TX1) (N := 13) hx hb hts hinX1 hown hK hP 0 rfl rfl 3 (by decide) (hts (.fieldLink RX1 19 "TileHand" "setSorts" "[I") (by decide +kernel)) (fun _ h9 => h9) rfl dX1_findThree_16 ?_
          refine lv_iload_n hx hb dX1_findThree_19 rfl (lv_at hl 2 rfl) ?_
          obtain ⟨h3, hw⟩ := hw
          refine va_iald hx hb hK hP 1 0 rfl rfl h3 dX1_findThree_20 ?_
          refine lv_iconst (v := 1) hx hb dX1_findThree_21 (by decide) ?_
          refine lv_icmp_ne (tgt := 37) hx hb dX1_findThree_22 (by decide) (fun c4 => ?_) (fun c4 => ?_)
          · have hw := hw.2 c4
            exact L37 (w_X1_findThree_b2 post mcn so ki p0 n) ih v2 _ _ _ hw hP hD hS (lv_sub hl [0, 1, 2] rfl)
          · have hw := hw.1 c4
            refine lv_aload_n hx hb dX1_findThree_25 rfl (lv_at hl 0 rfl) ?_
            refine va_get (D := (dC, dI)) (ci := 1) (v := .ref aK) (C := RX1) (T := TX1) (N := 13) hx hb hts hinX1 hown hK hP 0 rfl rfl 4 (by decide) (hts (.fieldLink RX1 22 "TileHand" "setKinds" "[I") (by decide +kernel)) (fun _ h9 => h9) rfl dX1_findThree_26 ?_
            refine lv_iload_n hx hb dX1_findThree_29 rfl (lv_at hl 2 rfl) ?_
            obtain ⟨h5, hw⟩ := hw
            refine va_iald hx hb hK hP 2 0 rfl rfl h5 dX1_findThree_30 ?_
            refine lv_iload_n hx hb dX1_findThree_31 rfl (lv_at hl 1 rfl) ?_
            refine lv_icmp_ne (tgt := 37) hx hb dX1_findThree_32 (by decide) (fun c6 => ?_) (fun c6 => ?_)
            · have hw := hw.2 c6
              exact L37 (w_X1_findThree_b2 post mcn so ki p0 n) ih v2 _ _ _ hw hP hD hS (lv_sub hl [0, 1, 2] rfl)
            · have hw := hw.1 c6
              refine lv_iload_n hx hb dX1_findThree_35 rfl (lv_at hl 2 rfl) ?_
              rw [← hQ9]
              exact W.iret (v := v2) hx hb hr (fun t ht hW => ⟨⟨v2, (), rfl, hw, by rw [ht]; exact hP, va_K.moved hW.alike hK, hD⟩, hS.F ht⟩) hS.2.2 dX1_findThree_36
  refine lv_iconst (v := 0) hx hb dX1_findThree_0 (by decide) ?_
  refine lv_istore_n (lv' := [(2, .int (0 : Int32)), (0, .ref x), (1, .int p0)]) hx hb dX1_findThree_1 rfl hl (by decide) rfl (fun ls hl => ?_)
  obtain ⟨n9, hw⟩ := hw
  exact L2 n9 (0 : Int32) _ _ _ hw hP hD hS (lv_sub hl [1, 2, 0] rfl)

def w_X1_grow (tcn : Int32) (mcn : Int32) (hd : (Nat → Int32)) (la : (Nat → Int32)) (so : (Nat → Int32)) (ki : (Nat → Int32)) (p0 : Int32) (post : Int32 → Int32 → (Nat → Int32) → (Nat → Int32) → (Nat → Int32) → Prop) : Prop := w_X1_requireKind p0 (w_X1_findThree mcn so ki p0 (fun r1 => (((r1 = (-1 : Int32) → (False)) ∧ (¬ r1 = (-1 : Int32) → (w_X1_layAlike tcn hd la p0 (1 : Int32) (fun tcn_3 hd_4 la_5 => (vp_in r1 4 ∧ (w_X1_sizeNow tcn_3 mcn (fun r7 => (post r7 tcn_3 hd_4 la_5 (upd so r1.toNatClampNeg (2 : Int32)))))))))))))

set_option maxHeartbeats 4000000 in
set_option maxRecDepth 100000 in
theorem c_X1_grow (l : Launch) (dC : Nat → ClassId) (dI : Nat → Nat → Nat) (cI cZ : ClassId) (x : Nat) (aH : Nat) (aL : Nat) (aS : Nat) (aO : Nat) (aK : Nat) (aZ : Nat) (cv : Nat) (sz : Nat) (tcn : Int32) (mcn : Int32) (swd : Int32) (rwd : Int32) (bpt : Int32) (flm : Int32) (hd : (Nat → Int32)) (la : (Nat → Int32)) (so : (Nat → Int32)) (ki : (Nat → Int32)) (p0 : Int32) (post : Int32 → Int32 → (Nat → Int32) → (Nat → Int32) → (Nat → Int32) → Prop) (hw : w_X1_grow tcn mcn hd la so ki p0 post) : Met l yX1_grow wsX1_grow ({ frames := 8, cells := 0, slots := 0, locals := 154 } : Room) (va_Pc [.ref x, .int p0] (fun U => U.heap.size = sz ∧ va_P (dC, dI) vwCl [(x, .inr (1, [.ref aH, .ref aL, .ref aS, .ref aO, .ref aK, .ref aZ, .ref cv, .int tcn, .int mcn, .int swd, .int rwd, .int bpt, .int flm])), (aH, .inl (cI, 34, .inl hd)), (aL, .inl (cI, 34, .inl la)), (aO, .inl (cI, 4, .inl so)), (aK, .inl (cI, 4, .inl ki))] U.heap ∧ va_K (dC, dI) vwCl [(cI, .int), (cZ, .boolean)] U ∧ va_D (fun _ => True) [(x, .inr (1, [.ref aH, .ref aL, .ref aS, .ref aO, .ref aK, .ref aZ, .ref cv, .int tcn, .int mcn, .int swd, .int rwd, .int bpt, .int flm])), (aH, .inl (cI, 34, .inl hd)), (aL, .inl (cI, 34, .inl la)), (aO, .inl (cI, 4, .inl so)), (aK, .inl (cI, 4, .inl ki))])) (va_Qi (fun (r9 : Int32) (u9 : Int32 × (Nat → Int32) × (Nat → Int32) × (Nat → Int32)) => post r9 u9.1 u9.2.1 u9.2.2.1 u9.2.2.2) (fun (u9 : Int32 × (Nat → Int32) × (Nat → Int32) × (Nat → Int32)) (t9 : State) => va_P (dC, dI) vwCl [(x, .inr (1, [.ref aH, .ref aL, .ref aS, .ref aO, .ref aK, .ref aZ, .ref cv, .int u9.1, .int mcn, .int swd, .int rwd, .int bpt, .int flm])), (aH, .inl (cI, 34, .inl u9.2.1)), (aL, .inl (cI, 34, .inl u9.2.2.1)), (aO, .inl (cI, 4, .inl u9.2.2.2)), (aK, .inl (cI, 4, .inl ki))] t9.heap ∧ va_K (dC, dI) vwCl [(cI, .int), (cZ, .boolean)] t9 ∧ va_D (va_A [(x, .inr (1, [.ref aH, .ref aL, .ref aS, .ref aO, .ref aK, .ref aZ, .ref cv, .int tcn, .int mcn, .int swd, .int rwd, .int bpt, .int flm])), (aH, .inl (cI, 34, .inl hd)), (aL, .inl (cI, 34, .inl la)), (aO, .inl (cI, 4, .inl so)), (aK, .inl (cI, 4, .inl ki))] sz) [(x, .inr (1, [.ref aH, .ref aL, .ref aS, .ref aO, .ref aK, .ref aZ, .ref cv, .int u9.1, .int mcn, .int swd, .int rwd, .int bpt, .int flm])), (aH, .inl (cI, 34, .inl u9.2.1)), (aL, .inl (cI, 34, .inl u9.2.2.1)), (aO, .inl (cI, 4, .inl u9.2.2.2)), (aK, .inl (cI, 4, .inl ki))]) (va_A [(x, .inr (1, [.ref aH, .ref aL, .ref aS, .ref aO, .ref aK, .ref aZ, .ref cv, .int tcn, .int mcn, .int swd, .int rwd, .int bpt, .int flm])), (aH, .inl (cI, 34, .inl hd)), (aL, .inl (cI, 34, .inl la)), (aO, .inl (cI, 4, .inl so)), (aK, .inl (cI, 4, .inl ki))] sz)) 0 0 (va_A [(x, .inr (1, [.ref aH, .ref aL, .ref aS, .ref aO, .ref aK, .ref aZ, .ref cv, .int tcn, .int mcn, .int swd, .int rwd, .int bpt, .int flm])), (aH, .inl (cI, 34, .inl hd)), (aL, .inl (cI, 34, .inl la)), (aO, .inl (cI, 4, .inl so)), (aK, .inl (cI, 4, .inl ki))] sz) := by
  refine Met.ofW (cc := cX1_grow) (maxL := 3) (ret := (some .int)) (by decide) rfl ?_
  intro p e s m args below meth c s₁ B hml hv
  obtain ⟨rfl, hsz, hP, hK, hD0⟩ := hv
  have hx := B.exec
  have hb := B.bytes
  have hr := B.returns
  have hts := atoms_spec (ws := wsX1_grow) B.pre
  have hown : s.vm.findClass RX1 = some m.cls := findClass_of_methodNamed B.named
  have hlocks := B.notSynchronized
  have hinX1 : ∀ w ∈ u_ws RX1 TX1 13, w ∈ wsX1_grow := by decide +kernel
  subst hsz
  have hD := hD0.self (sz := s.heap.size)
  generalize hAe : va_A [(x, .inr (1, [.ref aH, .ref aL, .ref aS, .ref aO, .ref aK, .ref aZ, .ref cv, .int tcn, .int mcn, .int swd, .int rwd, .int bpt, .int flm])), (aH, .inl (cI, 34, .inl hd)), (aL, .inl (cI, 34, .inl la)), (aO, .inl (cI, 4, .inl so)), (aK, .inl (cI, 4, .inl ki))] s.heap.size = A at hD ⊢
  have hA : ∀ q : Nat, s.heap.size ≤ q → A q := fun q h => by rw [← hAe]; exact Or.inr h
  have hS : va_S A s.heap s.heap [] := va_S.rf
  have hl := lv_entry ([.ref x, .int p0]) (n := 3) (Nat.le_of_ble_eq_true rfl)
  rw [lg_entry_eq]
  generalize (lg_sl ([.ref x, .int p0]) ++ List.replicate (3 - (lg_sl ([.ref x, .int p0])).length) Slot.unset).toArray = ls at hl ⊢
  have hl : lv_has ls 3 [(0, .ref x), (1, .int p0)] := hl
  refine (?_ : ∀ Q9 : State → Prop, MQ below _ _ s _ _ _ = Q9 → W p l e ({ frames := 8, cells := 0, slots := 0, locals := 154 } : Room) s m _ below meth c s.heap [] 0 0 Q9 (F0 m 0 ls [])) _ rfl
  intro Q9 hQ9
  have hw : w_X1_requireKind p0 (w_X1_findThree mcn so ki p0 (fun r1 => (((r1 = (-1 : Int32) → (False)) ∧ (¬ r1 = (-1 : Int32) → (w_X1_layAlike tcn hd la p0 (1 : Int32) (fun tcn_3 hd_4 la_5 => (vp_in r1 4 ∧ (w_X1_sizeNow tcn_3 mcn (fun r7 => (post r7 tcn_3 hd_4 la_5 (upd so r1.toNatClampNeg (2 : Int32))))))))))))) := hw
  refine lv_iload_n hx hb dX1_grow_0 rfl (lv_at hl 1 rfl) ?_
  have hPc := hP.sub (ws' := []) [] rfl
  have hDc := hD.sub (ws' := []) [] (by decide) rfl
  have hFc := va_free (wc := []) hD hS hA [] rfl
  refine va_callv (va_runS (As := [.int p0]) (rest := []) ⟨hx, hb, hml, hown, hts⟩ (c_X1_requireKind l dC dI cI cZ s.heap.size p0 _ hw) (va_cwS 1 hts gX1_grow_X1_requireKind rfl rfl rfl (by decide +kernel) ⟨Nat.le_of_ble_eq_true rfl, Nat.le_of_ble_eq_true rfl⟩) ⟨fun a U g mk q => by obtain ⟨q0, q1, qP, qK, qD⟩ := q; exact ⟨q0, q1, qP, va_K.moved (u := U) (U := U.calling g mk a) (Vm.Alike.refl U.vm) qK, qD⟩, fun U hU hW => ⟨rfl, by rw [hU], by rw [hU]; exact hPc, va_K.moved hW.alike hK, hDc.weaken (fun _ _ _ _ => trivial)⟩⟩ rfl rfl hl.1 rfl (lv_room (Nat.le_of_ble_eq_true rfl)) dX1_grow_1 ⟨Nat.le_of_ble_eq_true rfl, Nat.le_of_ble_eq_true rfl⟩) hS (fun q _ h => hFc q h) hFc (fun u t H1 locs ht hvm hw hB hz1 hk1 hS => ?_)
  obtain ⟨hP1, -, hD1⟩ := hB
  have hw := And.intro hw trivial
  try dsimp only at hw
  have hw := hw.1
  rw [ht] at hP1
  obtain ⟨hP, hD⟩ := va_join (wr := [(x, .inr (1, [.ref aH, .ref aL, .ref aS, .ref aO, .ref aK, .ref aZ, .ref cv, .int tcn, .int mcn, .int swd, .int rwd, .int bpt, .int flm])), (aH, .inl (cI, 34, .inl hd)), (aL, .inl (cI, 34, .inl la)), (aO, .inl (cI, 4, .inl so)), (aK, .inl (cI, 4, .inl ki))]) (w1 := []) hP hD [] [0, 1, 2, 3, 4] rfl rfl (by decide) (by decide) hk1 hFc hP1 hD1
  generalize H1 = H at hP hS ⊢
  have hP : va_P (dC, dI) vwCl [(x, .inr (1, [.ref aH, .ref aL, .ref aS, .ref aO, .ref aK, .ref aZ, .ref cv, .int tcn, .int mcn, .int swd, .int rwd, .int bpt, .int flm])), (aH, .inl (cI, 34, .inl hd)), (aL, .inl (cI, 34, .inl la)), (aO, .inl (cI, 4, .inl so)), (aK, .inl (cI, 4, .inl ki))] H := hP
  have hD : va_D A [(x, .inr (1, [.ref aH, .ref aL, .ref aS, .ref aO, .ref aK, .ref aZ, .ref cv, .int tcn, .int mcn, .int swd, .int rwd, .int bpt, .int flm])), (aH, .inl (cI, 34, .inl hd)), (aL, .inl (cI, 34, .inl la)), (aO, .inl (cI, 4, .inl so)), (aK, .inl (cI, 4, .inl ki))] := hD
  refine lv_aload_n hx hb dX1_grow_4 rfl (lv_at hl 0 rfl) ?_
  refine lv_iload_n hx hb dX1_grow_5 rfl (lv_at hl 1 rfl) ?_
  have hPc := hP.sub (ws' := [(x, .inr (1, [.ref aH, .ref aL, .ref aS, .ref aO, .ref aK, .ref aZ, .ref cv, .int tcn, .int mcn, .int swd, .int rwd, .int bpt, .int flm])), (aO, .inl (cI, 4, .inl so)), (aK, .inl (cI, 4, .inl ki))]) [0, 3, 4] rfl
  have hDc := hD.sub (ws' := [(x, .inr (1, [.ref aH, .ref aL, .ref aS, .ref aO, .ref aK, .ref aZ, .ref cv, .int tcn, .int mcn, .int swd, .int rwd, .int bpt, .int flm])), (aO, .inl (cI, 4, .inl so)), (aK, .inl (cI, 4, .inl ki))]) [0, 3, 4] (by decide) rfl
  have hFc := va_free (wc := [(x, .inr (1, [.ref aH, .ref aL, .ref aS, .ref aO, .ref aK, .ref aZ, .ref cv, .int tcn, .int mcn, .int swd, .int rwd, .int bpt, .int flm])), (aO, .inl (cI, 4, .inl so)), (aK, .inl (cI, 4, .inl ki))]) hD hS hA [0, 3, 4] rfl
  refine va_calli (va_runV (As := [.int p0]) (rest := []) ⟨hx, hb, hml, hown, hts⟩ (c_X1_findThree l dC dI cI cZ x aH aL aS aO aK aZ cv H.size tcn mcn swd rwd bpt flm so ki p0 _ hw) (cwV 1 hts gX1_grow_X1_findThree rfl rfl rfl (by decide +kernel) ⟨Nat.le_of_ble_eq_true rfl, Nat.le_of_ble_eq_true rfl⟩) ⟨fun a U g mk q => by obtain ⟨q0, q1, qP, qK, qD⟩ := q; exact ⟨q0, q1, qP, va_K.moved (u := U) (U := U.calling g mk a) (Vm.Alike.refl U.vm) qK, qD⟩, va_recv hK hPc (ci := 1) (q0 := 0) rfl rfl, fun U hU hW => ⟨rfl, by rw [hU], by rw [hU]; exact hPc, va_K.moved hW.alike hK, hDc.weaken (fun _ _ _ _ => trivial)⟩⟩ rfl rfl hl.1 rfl (lv_room (Nat.le_of_ble_eq_true rfl)) dX1_grow_6 ⟨Nat.le_of_ble_eq_true rfl, Nat.le_of_ble_eq_true rfl⟩) hS (fun q _ h => hFc q h) hFc (fun r1 u t H1 locs ht hvm hw hB hz1 hk1 hS => ?_)
  obtain ⟨hP1, -, hD1⟩ := hB
  have hw := And.intro hw trivial
  try dsimp only at hw
  have hw := hw.1
  rw [ht] at hP1
  obtain ⟨hP, hD⟩ := va_join (wr := [(aH, .inl (cI, 34, .inl hd)), (aL, .inl (cI, 34, .inl la))]) (w1 := [(x, .inr (1, [.ref aH, .ref aL, .ref aS, .ref aO, .ref aK, .ref aZ, .ref cv, .int tcn, .int mcn, .int swd, .int rwd, .int bpt, .int flm])), (aO, .inl (cI, 4, .inl so)), (aK, .inl (cI, 4, .inl ki))]) hP hD [0, 3, 4] [1, 2] rfl rfl (by decide) (by decide) hk1 hFc hP1 hD1
  generalize H1 = H at hP hS ⊢
  have hP : va_P (dC, dI) vwCl [(aH, .inl (cI, 34, .inl hd)), (aL, .inl (cI, 34, .inl la)), (x, .inr (1, [.ref aH, .ref aL, .ref aS, .ref aO, .ref aK, .ref aZ, .ref cv, .int tcn, .int mcn, .int swd, .int rwd, .int bpt, .int flm])), (aO, .inl (cI, 4, .inl so)), (aK, .inl (cI, 4, .inl ki))] H := hP
  have hD : va_D A [(aH, .inl (cI, 34, .inl hd)), (aL, .inl (cI, 34, .inl la)), (x, .inr (1, [.ref aH, .ref aL, .ref aS, .ref aO, .ref aK, .ref aZ, .ref cv, .int tcn, .int mcn, .int swd, .int rwd, .int bpt, .int flm])), (aO, .inl (cI, 4, .inl so)), (aK, .inl (cI, 4, .inl ki))] := hD
  refine lv_istore_n (lv' := [(2, .int r1), (0, .ref x), (1, .int p0)]) hx hb dX1_grow_9 rfl hl (by decide) rfl (fun ls hl => ?_)
  refine lv_iload_n hx hb dX1_grow_10 rfl (lv_at hl 0 rfl) ?_
  refine lv_iconst (v := -1) hx hb dX1_grow_11 (by decide) ?_
  refine lv_icmp_ne (tgt := 25) hx hb dX1_grow_12 (by decide) (fun c2 => ?_) (fun c2 => ?_)
  · have hw := hw.2 c2
    refine lv_aload_n hx hb dX1_grow_25 rfl (lv_at hl 1 rfl) ?_
    refine lv_iload_n hx hb dX1_grow_26 rfl (lv_at hl 2 rfl) ?_
    refine lv_iconst (v := 1) hx hb dX1_grow_27 (by decide) ?_
    have hPc := hP.sub (ws' := [(x, .inr (1, [.ref aH, .ref aL, .ref aS, .ref aO, .ref aK, .ref aZ, .ref cv, .int tcn, .int mcn, .int swd, .int rwd, .int bpt, .int flm])), (aH, .inl (cI, 34, .inl hd)), (aL, .inl (cI, 34, .inl la))]) [2, 0, 1] rfl
    have hDc := hD.sub (ws' := [(x, .inr (1, [.ref aH, .ref aL, .ref aS, .ref aO, .ref aK, .ref aZ, .ref cv, .int tcn, .int mcn, .int swd, .int rwd, .int bpt, .int flm])), (aH, .inl (cI, 34, .inl hd)), (aL, .inl (cI, 34, .inl la))]) [2, 0, 1] (by decide) rfl
    have hFc := va_free (wc := [(x, .inr (1, [.ref aH, .ref aL, .ref aS, .ref aO, .ref aK, .ref aZ, .ref cv, .int tcn, .int mcn, .int swd, .int rwd, .int bpt, .int flm])), (aH, .inl (cI, 34, .inl hd)), (aL, .inl (cI, 34, .inl la))]) hD hS hA [2, 0, 1] rfl
    refine va_callv (va_runV (As := [.int p0, .int (1 : Int32)]) (rest := []) ⟨hx, hb, hml, hown, hts⟩ (c_X1_layAlike l dC dI cI cZ x aH aL aS aO aK aZ cv H.size tcn mcn swd rwd bpt flm hd la p0 (1 : Int32) _ hw) (cwV 2 hts gX1_grow_X1_layAlike rfl rfl rfl (by decide +kernel) ⟨Nat.le_of_ble_eq_true rfl, Nat.le_of_ble_eq_true rfl⟩) ⟨fun a U g mk q => by obtain ⟨q0, q1, qP, qK, qD⟩ := q; exact ⟨q0, q1, qP, va_K.moved (u := U) (U := U.calling g mk a) (Vm.Alike.refl U.vm) qK, qD⟩, va_recv hK hPc (ci := 1) (q0 := 0) rfl rfl, fun U hU hW => ⟨rfl, by rw [hU], by rw [hU]; exact hPc, va_K.moved hW.alike hK, hDc.weaken (fun _ _ _ _ => trivial)⟩⟩ rfl rfl hl.1 rfl (lv_room (Nat.le_of_ble_eq_true rfl)) dX1_grow_28 ⟨Nat.le_of_ble_eq_true rfl, Nat.le_of_ble_eq_true rfl⟩) hS (fun q _ h => hFc q h) hFc (fun u t H1 locs ht hvm hw hB hz1 hk1 hS => ?_)
    obtain ⟨tcn_3, hd_4, la_5⟩ := u
    obtain ⟨hP1, -, hD1⟩ := hB
    have hw := And.intro hw trivial
    try dsimp only at hw
    have hw := hw.1
    rw [ht] at hP1
    obtain ⟨hP, hD⟩ := va_join (wr := [(aO, .inl (cI, 4, .inl so)), (aK, .inl (cI, 4, .inl ki))]) (w1 := [(x, .inr (1, [.ref aH, .ref aL, .ref aS, .ref aO, .ref aK, .ref aZ, .ref cv, .int tcn_3, .int mcn, .int swd, .int rwd, .int bpt, .int flm])), (aH, .inl (cI, 34, .inl hd_4)), (aL, .inl (cI, 34, .inl la_5))]) hP hD [2, 0, 1] [3, 4] rfl rfl (by decide) (by decide) hk1 hFc hP1 hD1
    generalize H1 = H at hP hS ⊢
    have hP : va_P (dC, dI) vwCl [(aO, .inl (cI, 4, .inl so)), (aK, .inl (cI, 4, .inl ki)), (x, .inr (1, [.ref aH, .ref aL, .ref aS, .ref aO, .ref aK, .ref aZ, .ref cv, .int tcn_3, .int mcn, .int swd, .int rwd, .int bpt, .int flm])), (aH, .inl (cI, 34, .inl hd_4)), (aL, .inl (cI, 34, .inl la_5))] H := hP
    have hD : va_D A [(aO, .inl (cI, 4, .inl so)), (aK, .inl (cI, 4, .inl ki)), (x, .inr (1, [.ref aH, .ref aL, .ref aS, .ref aO, .ref aK, .ref aZ, .ref cv, .int tcn_3, .int mcn, .int swd, .int rwd, .int bpt, .int flm])), (aH, .inl (cI, 34, .inl hd_4)), (aL, .inl (cI, 34, .inl la_5))] := hD
    refine lv_aload_n hx hb dX1_grow_31 rfl (lv_at hl 1 rfl) ?_
    refine va_get (D := (dC, dI)) (ci := 1) (v := .ref aO) (C := RX1) (T := TX1) (N := 13) hx hb hts hinX1 hown hK hP 2 rfl rfl 3 (by decide) (hts (.fieldLink RX1 19 "TileHand" "setSorts" "[I") (by decide +kernel)) (fun _ h9 => h9) rfl dX1_grow_32 ?_
    refine lv_iload_n hx hb dX1_grow_35 rfl (lv_at hl 0 rfl) ?_
    refine lv_iconst (v := 2) hx hb dX1_grow_36 (by decide) ?_
    obtain ⟨h6, hw⟩ := hw
    refine va_iast hx hb hK hP hD hS 0 0 rfl rfl h6 dX1_grow_37 (fun H locs hP hD hS => ?_)
    have hP : va_P (dC, dI) vwCl [(aO, .inl (cI, 4, .inl (upd so r1.toNatClampNeg (2 : Int32)))), (aK, .inl (cI, 4, .inl ki)), (x, .inr (1, [.ref aH, .ref aL, .ref aS, .ref aO, .ref aK, .ref aZ, .ref cv, .int tcn_3, .int mcn, .int swd, .int rwd, .int bpt, .int flm])), (aH, .inl (cI, 34, .inl hd_4)), (aL, .inl (cI, 34, .inl la_5))] H := hP
    have hD : va_D A [(aO, .inl (cI, 4, .inl (upd so r1.toNatClampNeg (2 : Int32)))), (aK, .inl (cI, 4, .inl ki)), (x, .inr (1, [.ref aH, .ref aL, .ref aS, .ref aO, .ref aK, .ref aZ, .ref cv, .int tcn_3, .int mcn, .int swd, .int rwd, .int bpt, .int flm])), (aH, .inl (cI, 34, .inl hd_4)), (aL, .inl (cI, 34, .inl la_5))] := hD
    refine lv_aload_n hx hb dX1_grow_38 rfl (lv_at hl 1 rfl) ?_
    have hPc := hP.sub (ws' := [(x, .inr (1, [.ref aH, .ref aL, .ref aS, .ref aO, .ref aK, .ref aZ, .ref cv, .int tcn_3, .int mcn, .int swd, .int rwd, .int bpt, .int flm]))]) [2] rfl
    have hDc := hD.sub (ws' := [(x, .inr (1, [.ref aH, .ref aL, .ref aS, .ref aO, .ref aK, .ref aZ, .ref cv, .int tcn_3, .int mcn, .int swd, .int rwd, .int bpt, .int flm]))]) [2] (by decide) rfl
    have hFc := va_free (wc := [(x, .inr (1, [.ref aH, .ref aL, .ref aS, .ref aO, .ref aK, .ref aZ, .ref cv, .int tcn_3, .int mcn, .int swd, .int rwd, .int bpt, .int flm]))]) hD hS hA [2] rfl
    refine va_calli (va_runV (As := []) (rest := []) ⟨hx, hb, hml, hown, hts⟩ (c_X1_sizeNow l dC dI cI cZ x aH aL aS aO aK aZ cv H.size tcn_3 mcn swd rwd bpt flm _ hw) (cwV 0 hts gX1_grow_X1_sizeNow rfl rfl rfl (by decide +kernel) ⟨Nat.le_of_ble_eq_true rfl, Nat.le_of_ble_eq_true rfl⟩) ⟨fun a U g mk q => by obtain ⟨q0, q1, qP, qK, qD⟩ := q; exact ⟨q0, q1, qP, va_K.moved (u := U) (U := U.calling g mk a) (Vm.Alike.refl U.vm) qK, qD⟩, va_recv hK hPc (ci := 1) (q0 := 0) rfl rfl, fun U hU hW => ⟨rfl, by rw [hU], by rw [hU]; exact hPc, va_K.moved hW.alike hK, hDc.weaken (fun _ _ _ _ => trivial)⟩⟩ rfl rfl hl.1 rfl (lv_room (Nat.le_of_ble_eq_true rfl)) dX1_grow_39 ⟨Nat.le_of_ble_eq_true rfl, Nat.le_of_ble_eq_true rfl⟩) hS (fun q _ h => hFc q h) hFc (fun r7 u t H1 locs ht hvm hw hB hz1 hk1 hS => ?_)
    obtain ⟨hP1, -, hD1⟩ := hB
    have hw := And.intro hw trivial
    try dsimp only at hw
    have hw := hw.1
    rw [ht] at hP1
    obtain ⟨hP, hD⟩ := va_join (wr := [(aO, .inl (cI, 4, .inl (upd so r1.toNatClampNeg (2 : Int32)))), (aK, .inl (cI, 4, .inl ki)), (aH, .inl (cI, 34, .inl hd_4)), (aL, .inl (cI, 34, .inl la_5))]) (w1 := [(x, .inr (1, [.ref aH, .ref aL, .ref aS, .ref aO, .ref aK, .ref aZ, .ref cv, .int tcn_3, .int mcn, .int swd, .int rwd, .int bpt, .int flm]))]) hP hD [2] [0, 1, 3, 4] rfl rfl (by decide) (by decide) hk1 hFc hP1 hD1
    generalize H1 = H at hP hS ⊢
    have hP : va_P (dC, dI) vwCl [(aO, .inl (cI, 4, .inl (upd so r1.toNatClampNeg (2 : Int32)))), (aK, .inl (cI, 4, .inl ki)), (aH, .inl (cI, 34, .inl hd_4)), (aL, .inl (cI, 34, .inl la_5)), (x, .inr (1, [.ref aH, .ref aL, .ref aS, .ref aO, .ref aK, .ref aZ, .ref cv, .int tcn_3, .int mcn, .int swd, .int rwd, .int bpt, .int flm]))] H := hP
    have hD : va_D A [(aO, .inl (cI, 4, .inl (upd so r1.toNatClampNeg (2 : Int32)))), (aK, .inl (cI, 4, .inl ki)), (aH, .inl (cI, 34, .inl hd_4)), (aL, .inl (cI, 34, .inl la_5)), (x, .inr (1, [.ref aH, .ref aL, .ref aS, .ref aO, .ref aK, .ref aZ, .ref cv, .int tcn_3, .int mcn, .int swd, .int rwd, .int bpt, .int flm]))] := hD
    have hP9 := hP.sub (ws' := [(x, .inr (1, [.ref aH, .ref aL, .ref aS, .ref aO, .ref aK, .ref aZ, .ref cv, .int tcn_3, .int mcn, .int swd, .int rwd, .int bpt, .int flm])), (aH, .inl (cI, 34, .inl hd_4)), (aL, .inl (cI, 34, .inl la_5)), (aO, .inl (cI, 4, .inl (upd so r1.toNatClampNeg (2 : Int32)))), (aK, .inl (cI, 4, .inl ki))]) [4, 2, 3, 0, 1] rfl
    have hD9 := hD.sub (ws' := [(x, .inr (1, [.ref aH, .ref aL, .ref aS, .ref aO, .ref aK, .ref aZ, .ref cv, .int tcn_3, .int mcn, .int swd, .int rwd, .int bpt, .int flm])), (aH, .inl (cI, 34, .inl hd_4)), (aL, .inl (cI, 34, .inl la_5)), (aO, .inl (cI, 4, .inl (upd so r1.toNatClampNeg (2 : Int32)))), (aK, .inl (cI, 4, .inl ki))]) [4, 2, 3, 0, 1] (by decide) rfl
    rw [← hQ9]
    exact W.iret (v := r7) hx hb hr (fun t ht hW => ⟨⟨r7, (tcn_3, hd_4, la_5, upd so r1.toNatClampNeg (2 : Int32)), rfl, hw, by rw [ht]; exact hP9, va_K.moved hW.alike hK, hD9⟩, hS.F ht⟩) hS.2.2 dX1_grow_42
  · have hw := hw.1 c2
    exact False.elim hw

def w_X1_grow_x (tcn : Int32) (mcn : Int32) (hd : (Nat → Int32)) (la : (Nat → Int32)) (so : (Nat → Int32)) (ki : (Nat → Int32)) (p0 : Int32) (px : String → Int32 → (Nat → Int32) → (Nat → Int32) → (Nat → Int32) → Prop) : Prop := ((w_X1_requireKind p0 (w_X1_findThree mcn so ki p0 (fun r1 => (((r1 = (-1 : Int32) → (px "java/lang/IllegalStateException" tcn hd la so)) ∧ (¬ r1 = (-1 : Int32) → (((w_X1_layAlike tcn hd la p0 (1 : Int32) (fun tcn_3 hd_4 la_5 => (vp_in r1 4 ∧ (w_X1_sizeNow tcn_3 mcn (fun r7 => (False)))))) ∨ (w_X1_layAlike_x tcn hd la p0 (1 : Int32) (fun E8 tcn_3 hd_4 la_5 => (px E8 tcn_3 hd_4 la_5 so))))))))))) ∨ (w_X1_requireKind_x p0 (fun E9 => (px E9 tcn hd la so))))

set_option maxHeartbeats 4000000 in
set_option maxRecDepth 100000 in
theorem c_X1_grow_x (l : Launch) (hl9 : l.stackTraces = false) (dC : Nat → ClassId) (dI : Nat → Nat → Nat) (cI cZ : ClassId) (x : Nat) (aH : Nat) (aL : Nat) (aS : Nat) (aO : Nat) (aK : Nat) (aZ : Nat) (cv : Nat) (sz : Nat) (tcn : Int32) (mcn : Int32) (swd : Int32) (rwd : Int32) (bpt : Int32) (flm : Int32) (hd : (Nat → Int32)) (la : (Nat → Int32)) (so : (Nat → Int32)) (ki : (Nat → Int32)) (p0 : Int32) (px : String → Int32 → (Nat → Int32) → (Nat → Int32) → (Nat → Int32) → Prop) (hw : w_X1_grow_x tcn mcn hd la so ki p0 px) : vx_Met l yX1_grow wsX1_grow ({ frames := 8, cells := 1, slots := 6, locals := 154 } : Room) (va_Pc [.ref x, .int p0] (fun U => U.heap.size = sz ∧ va_P (dC, dI) vwCl [(x, .inr (1, [.ref aH, .ref aL, .ref aS, .ref aO, .ref aK, .ref aZ, .ref cv, .int tcn, .int mcn, .int swd, .int rwd, .int bpt, .int flm])), (aH, .inl (cI, 34, .inl hd)), (aL, .inl (cI, 34, .inl la)), (aO, .inl (cI, 4, .inl so)), (aK, .inl (cI, 4, .inl ki))] U.heap ∧ va_K (dC, dI) vwCl [(cI, .int), (cZ, .boolean)] U ∧ va_D (fun _ => True) [(x, .inr (1, [.ref aH, .ref aL, .ref aS, .ref aO, .ref aK, .ref aZ, .ref cv, .int tcn, .int mcn, .int swd, .int rwd, .int bpt, .int flm])), (aH, .inl (cI, 34, .inl hd)), (aL, .inl (cI, 34, .inl la)), (aO, .inl (cI, 4, .inl so)), (aK, .inl (cI, 4, .inl ki))] ∧ xk (va_A [(x, .inr (1, [.ref aH, .ref aL, .ref aS, .ref aO, .ref aK, .ref aZ, .ref cv, .int tcn, .int mcn, .int swd, .int rwd, .int bpt, .int flm])), (aH, .inl (cI, 34, .inl hd)), (aL, .inl (cI, 34, .inl la)), (aO, .inl (cI, 4, .inl so)), (aK, .inl (cI, 4, .inl ki))] sz) U)) (va_Qi (fun (_ : Int32) (_ : Unit) => False) (fun _ _ => True) (va_A [(x, .inr (1, [.ref aH, .ref aL, .ref aS, .ref aO, .ref aK, .ref aZ, .ref cv, .int tcn, .int mcn, .int swd, .int rwd, .int bpt, .int flm])), (aH, .inl (cI, 34, .inl hd)), (aL, .inl (cI, 34, .inl la)), (aO, .inl (cI, 4, .inl so)), (aK, .inl (cI, 4, .inl ki))] sz)) (vx_X (fun (u9 : String × Int32 × (Nat → Int32) × (Nat → Int32) × (Nat → Int32)) => px u9.1 u9.2.1 u9.2.2.1 u9.2.2.2.1 u9.2.2.2.2) (fun (E9 : String) (u9 : String × Int32 × (Nat → Int32) × (Nat → Int32) × (Nat → Int32)) (t9 : State) => E9 = u9.1 ∧ va_P (dC, dI) vwCl [(x, .inr (1, [.ref aH, .ref aL, .ref aS, .ref aO, .ref aK, .ref aZ, .ref cv, .int u9.2.1, .int mcn, .int swd, .int rwd, .int bpt, .int flm])), (aH, .inl (cI, 34, .inl u9.2.2.1)), (aL, .inl (cI, 34, .inl u9.2.2.2.1)), (aO, .inl (cI, 4, .inl u9.2.2.2.2)), (aK, .inl (cI, 4, .inl ki))] t9.heap ∧ va_K (dC, dI) vwCl [(cI, .int), (cZ, .boolean)] t9 ∧ va_D (va_A [(x, .inr (1, [.ref aH, .ref aL, .ref aS, .ref aO, .ref aK, .ref aZ, .ref cv, .int tcn, .int mcn, .int swd, .int rwd, .int bpt, .int flm])), (aH, .inl (cI, 34, .inl hd)), (aL, .inl (cI, 34, .inl la)), (aO, .inl (cI, 4, .inl so)), (aK, .inl (cI, 4, .inl ki))] sz) [(x, .inr (1, [.ref aH, .ref aL, .ref aS, .ref aO, .ref aK, .ref aZ, .ref cv, .int u9.2.1, .int mcn, .int swd, .int rwd, .int bpt, .int flm])), (aH, .inl (cI, 34, .inl u9.2.2.1)), (aL, .inl (cI, 34, .inl u9.2.2.2.1)), (aO, .inl (cI, 4, .inl u9.2.2.2.2)), (aK, .inl (cI, 4, .inl ki))]) (va_A [(x, .inr (1, [.ref aH, .ref aL, .ref aS, .ref aO, .ref aK, .ref aZ, .ref cv, .int tcn, .int mcn, .int swd, .int rwd, .int bpt, .int flm])), (aH, .inl (cI, 34, .inl hd)), (aL, .inl (cI, 34, .inl la)), (aO, .inl (cI, 4, .inl so)), (aK, .inl (cI, 4, .inl ki))] sz)) 1 6 (va_A [(x, .inr (1, [.ref aH, .ref aL, .ref aS, .ref aO, .ref aK, .ref aZ, .ref cv, .int tcn, .int mcn, .int swd, .int rwd, .int bpt, .int flm])), (aH, .inl (cI, 34, .inl hd)), (aL, .inl (cI, 34, .inl la)), (aO, .inl (cI, 4, .inl so)), (aK, .inl (cI, 4, .inl ki))] sz) := by
  refine vx_ofW (cc := cX1_grow) (maxL := 3) (ret := (some .int)) (by decide) rfl ?_
  intro p e s m args below meth c s₁ B hml hEx hv
  obtain ⟨rfl, hsz, hP, hK, hD0, hxk⟩ := hv
  have hx := B.exec
  have hb := B.bytes
  have hr := B.returns
  have hts := atoms_spec (ws := wsX1_grow) B.pre
  have hown : s.vm.findClass RX1 = some m.cls := findClass_of_methodNamed B.named
  have hlocks := B.notSynchronized
  have hinX1 : ∀ w ∈ u_ws RX1 TX1 13, w ∈ wsX1_grow := by decide +kernel
  subst hsz
  have hD := hD0.self (sz := s.heap.size)
  generalize hAe : va_A [(x, .inr (1, [.ref aH, .ref aL, .ref aS, .ref aO, .ref aK, .ref aZ, .ref cv, .int tcn, .int mcn, .int swd, .int rwd, .int bpt, .int flm])), (aH, .inl (cI, 34, .inl hd)), (aL, .inl (cI, 34, .inl la)), (aO, .inl (cI, 4, .inl so)), (aK, .inl (cI, 4, .inl ki))] s.heap.size = A at hD hxk ⊢
  have hA : ∀ q : Nat, s.heap.size ≤ q → A q := fun q h => by rw [← hAe]; exact Or.inr h
  have hS : va_S A s.heap s.heap [] := va_S.rf
  have hl := lv_entry ([.ref x, .int p0]) (n := 3) (Nat.le_of_ble_eq_true rfl)
  rw [lg_entry_eq]
  generalize (lg_sl ([.ref x, .int p0]) ++ List.replicate (3 - (lg_sl ([.ref x, .int p0])).length) Slot.unset).toArray = ls at hl ⊢
  have hl : lv_has ls 3 [(0, .ref x), (1, .int p0)] := hl
  refine (?_ : ∀ Q9 : State → Prop, vx_MQ below _ _ _ s _ _ _ = Q9 → W p l e ({ frames := 8, cells := 1, slots := 6, locals := 154 } : Room) s m _ below meth c s.heap [] 0 0 Q9 (F0 m 0 ls [])) _ rfl
  intro Q9 hQ9
  have hw : ((w_X1_requireKind p0 (w_X1_findThree mcn so ki p0 (fun r1 => (((r1 = (-1 : Int32) → (px "java/lang/IllegalStateException" tcn hd la so)) ∧ (¬ r1 = (-1 : Int32) → (((w_X1_layAlike tcn hd la p0 (1 : Int32) (fun tcn_3 hd_4 la_5 => (vp_in r1 4 ∧ (w_X1_sizeNow tcn_3 mcn (fun r7 => (False)))))) ∨ (w_X1_layAlike_x tcn hd la p0 (1 : Int32) (fun E8 tcn_3 hd_4 la_5 => (px E8 tcn_3 hd_4 la_5 so))))))))))) ∨ (w_X1_requireKind_x p0 (fun E9 => (px E9 tcn hd la so)))) := hw
  refine lv_iload_n hx hb dX1_grow_0 rfl (lv_at hl 1 rfl) ?_
  have hPc := hP.sub (ws' := []) [] rfl
  have hDc := hD.sub (ws' := []) [] (by decide) rfl
  have hFc := va_free (wc := []) hD hS hA [] rfl
  rcases hw with hw | hw
  · refine va_callv (va_runS (As := [.int p0]) (rest := []) ⟨hx, hb, hml, hown, hts⟩ (c_X1_requireKind l dC dI cI cZ s.heap.size p0 _ hw) (va_cwS 1 hts gX1_grow_X1_requireKind rfl rfl rfl (by decide +kernel) ⟨Nat.le_of_ble_eq_true rfl, Nat.le_of_ble_eq_true rfl⟩) ⟨fun a U g mk q => by obtain ⟨q0, q1, qP, qK, qD⟩ := q; exact ⟨q0, q1, qP, va_K.moved (u := U) (U := U.calling g mk a) (Vm.Alike.refl U.vm) qK, qD⟩, fun U hU hW => ⟨rfl, by rw [hU], by rw [hU]; exact hPc, va_K.moved hW.alike hK, hDc.weaken (fun _ _ _ _ => trivial)⟩⟩ rfl rfl hl.1 rfl (lv_room (Nat.le_of_ble_eq_true rfl)) dX1_grow_1 ⟨Nat.le_of_ble_eq_true rfl, Nat.le_of_ble_eq_true rfl⟩) hS (fun q _ h => hFc q h) hFc (fun u t H1 locs ht hvm hw hB hz1 hk1 hS => ?_)
    obtain ⟨hP1, -, hD1⟩ := hB
    have hw := And.intro hw trivial
    try dsimp only at hw
    have hw := hw.1
    rw [ht] at hP1
    obtain ⟨hP, hD⟩ := va_join (wr := [(x, .inr (1, [.ref aH, .ref aL, .ref aS, .ref aO, .ref aK, .ref aZ, .ref cv, .int tcn, .int mcn, .int swd, .int rwd, .int bpt, .int flm])), (aH, .inl (cI, 34, .inl hd)), (aL, .inl (cI, 34, .inl la)), (aO, .inl (cI, 4, .inl so)), (aK, .inl (cI, 4, .inl ki))]) (w1 := []) hP hD [] [0, 1, 2, 3, 4] rfl rfl (by decide) (by decide) hk1 hFc hP1 hD1
    generalize H1 = H at hP hS ⊢
    have hP : va_P (dC, dI) vwCl [(x, .inr (1, [.ref aH, .ref aL, .ref aS, .ref aO, .ref aK, .ref aZ, .ref cv, .int tcn, .int mcn, .int swd, .int rwd, .int bpt, .int flm])), (aH, .inl (cI, 34, .inl hd)), (aL, .inl (cI, 34, .inl la)), (aO, .inl (cI, 4, .inl so)), (aK, .inl (cI, 4, .inl ki))] H := hP
    have hD : va_D A [(x, .inr (1, [.ref aH, .ref aL, .ref aS, .ref aO, .ref aK, .ref aZ, .ref cv, .int tcn, .int mcn, .int swd, .int rwd, .int bpt, .int flm])), (aH, .inl (cI, 34, .inl hd)), (aL, .inl (cI, 34, .inl la)), (aO, .inl (cI, 4, .inl so)), (aK, .inl (cI, 4, .inl ki))] := hD
    refine lv_aload_n hx hb dX1_grow_4 rfl (lv_at hl 0 rfl) ?_
    refine lv_iload_n hx hb dX1_grow_5 rfl (lv_at hl 1 rfl) ?_
    have hPc := hP.sub (ws' := [(x, .inr (1, [.ref aH, .ref aL, .ref aS, .ref aO, .ref aK, .ref aZ, .ref cv, .int tcn, .int mcn, .int swd, .int rwd, .int bpt, .int flm])), (aO, .inl (cI, 4, .inl so)), (aK, .inl (cI, 4, .inl ki))]) [0, 3, 4] rfl
    have hDc := hD.sub (ws' := [(x, .inr (1, [.ref aH, .ref aL, .ref aS, .ref aO, .ref aK, .ref aZ, .ref cv, .int tcn, .int mcn, .int swd, .int rwd, .int bpt, .int flm])), (aO, .inl (cI, 4, .inl so)), (aK, .inl (cI, 4, .inl ki))]) [0, 3, 4] (by decide) rfl
    have hFc := va_free (wc := [(x, .inr (1, [.ref aH, .ref aL, .ref aS, .ref aO, .ref aK, .ref aZ, .ref cv, .int tcn, .int mcn, .int swd, .int rwd, .int bpt, .int flm])), (aO, .inl (cI, 4, .inl so)), (aK, .inl (cI, 4, .inl ki))]) hD hS hA [0, 3, 4] rfl
    refine va_calli (va_runV (As := [.int p0]) (rest := []) ⟨hx, hb, hml, hown, hts⟩ (c_X1_findThree l dC dI cI cZ x aH aL aS aO aK aZ cv H.size tcn mcn swd rwd bpt flm so ki p0 _ hw) (cwV 1 hts gX1_grow_X1_findThree rfl rfl rfl (by decide +kernel) ⟨Nat.le_of_ble_eq_true rfl, Nat.le_of_ble_eq_true rfl⟩) ⟨fun a U g mk q => by obtain ⟨q0, q1, qP, qK, qD⟩ := q; exact ⟨q0, q1, qP, va_K.moved (u := U) (U := U.calling g mk a) (Vm.Alike.refl U.vm) qK, qD⟩, va_recv hK hPc (ci := 1) (q0 := 0) rfl rfl, fun U hU hW => ⟨rfl, by rw [hU], by rw [hU]; exact hPc, va_K.moved hW.alike hK, hDc.weaken (fun _ _ _ _ => trivial)⟩⟩ rfl rfl hl.1 rfl (lv_room (Nat.le_of_ble_eq_true rfl)) dX1_grow_6 ⟨Nat.le_of_ble_eq_true rfl, Nat.le_of_ble_eq_true rfl⟩) hS (fun q _ h => hFc q h) hFc (fun r1 u t H1 locs ht hvm hw hB hz1 hk1 hS => ?_)
    obtain ⟨hP1, -, hD1⟩ := hB
    have hw := And.intro hw trivial
    try dsimp only at hw
    have hw := hw.1
    rw [ht] at hP1
    obtain ⟨hP, hD⟩ := va_join (wr := [(aH, .inl (cI, 34, .inl hd)), (aL, .inl (cI, 34, .inl la))]) (w1 := [(x, .inr (1, [.ref aH, .ref aL, .ref aS, .ref aO, .ref aK, .ref aZ, .ref cv, .int tcn, .int mcn, .int swd, .int rwd, .int bpt, .int flm])), (aO, .inl (cI, 4, .inl so)), (aK, .inl (cI, 4, .inl ki))]) hP hD [0, 3, 4] [1, 2] rfl rfl (by decide) (by decide) hk1 hFc hP1 hD1
    generalize H1 = H at hP hS ⊢
    have hP : va_P (dC, dI) vwCl [(aH, .inl (cI, 34, .inl hd)), (aL, .inl (cI, 34, .inl la)), (x, .inr (1, [.ref aH, .ref aL, .ref aS, .ref aO, .ref aK, .ref aZ, .ref cv, .int tcn, .int mcn, .int swd, .int rwd, .int bpt, .int flm])), (aO, .inl (cI, 4, .inl so)), (aK, .inl (cI, 4, .inl ki))] H := hP
    have hD : va_D A [(aH, .inl (cI, 34, .inl hd)), (aL, .inl (cI, 34, .inl la)), (x, .inr (1, [.ref aH, .ref aL, .ref aS, .ref aO, .ref aK, .ref aZ, .ref cv, .int tcn, .int mcn, .int swd, .int rwd, .int bpt, .int flm])), (aO, .inl (cI, 4, .inl so)), (aK, .inl (cI, 4, .inl ki))] := hD
    refine lv_istore_n (lv' := [(2, .int r1), (0, .ref x), (1, .int p0)]) hx hb dX1_grow_9 rfl hl (by decide) rfl (fun ls hl => ?_)
    refine lv_iload_n hx hb dX1_grow_10 rfl (lv_at hl 0 rfl) ?_
    refine lv_iconst (v := -1) hx hb dX1_grow_11 (by decide) ?_
    refine lv_icmp_ne (tgt := 25) hx hb dX1_grow_12 (by decide) (fun c2 => ?_) (fun c2 => ?_)
    · have hw := hw.2 c2
      refine lv_aload_n hx hb dX1_grow_25 rfl (lv_at hl 1 rfl) ?_
      refine lv_iload_n hx hb dX1_grow_26 rfl (lv_at hl 2 rfl) ?_
      refine lv_iconst (v := 1) hx hb dX1_grow_27 (by decide) ?_
      have hPc := hP.sub (ws' := [(x, .inr (1, [.ref aH, .ref aL, .ref aS, .ref aO, .ref aK, .ref aZ, .ref cv, .int tcn, .int mcn, .int swd, .int rwd, .int bpt, .int flm])), (aH, .inl (cI, 34, .inl hd)), (aL, .inl (cI, 34, .inl la))]) [2, 0, 1] rfl
      have hDc := hD.sub (ws' := [(x, .inr (1, [.ref aH, .ref aL, .ref aS, .ref aO, .ref aK, .ref aZ, .ref cv, .int tcn, .int mcn, .int swd, .int rwd, .int bpt, .int flm])), (aH, .inl (cI, 34, .inl hd)), (aL, .inl (cI, 34, .inl la))]) [2, 0, 1] (by decide) rfl
      have hFc := va_free (wc := [(x, .inr (1, [.ref aH, .ref aL, .ref aS, .ref aO, .ref aK, .ref aZ, .ref cv, .int tcn, .int mcn, .int swd, .int rwd, .int bpt, .int flm])), (aH, .inl (cI, 34, .inl hd)), (aL, .inl (cI, 34, .inl la))]) hD hS hA [2, 0, 1] rfl
      rcases hw with hw | hw
      · refine va_callv (va_runV (As := [.int p0, .int (1 : Int32)]) (rest := []) ⟨hx, hb, hml, hown, hts⟩ (c_X1_layAlike l dC dI cI cZ x aH aL aS aO aK aZ cv H.size tcn mcn swd rwd bpt flm hd la p0 (1 : Int32) _ hw) (cwV 2 hts gX1_grow_X1_layAlike rfl rfl rfl (by decide +kernel) ⟨Nat.le_of_ble_eq_true rfl, Nat.le_of_ble_eq_true rfl⟩) ⟨fun a U g mk q => by obtain ⟨q0, q1, qP, qK, qD⟩ := q; exact ⟨q0, q1, qP, va_K.moved (u := U) (U := U.calling g mk a) (Vm.Alike.refl U.vm) qK, qD⟩, va_recv hK hPc (ci := 1) (q0 := 0) rfl rfl, fun U hU hW => ⟨rfl, by rw [hU], by rw [hU]; exact hPc, va_K.moved hW.alike hK, hDc.weaken (fun _ _ _ _ => trivial)⟩⟩ rfl rfl hl.1 rfl (lv_room (Nat.le_of_ble_eq_true rfl)) dX1_grow_28 ⟨Nat.le_of_ble_eq_true rfl, Nat.le_of_ble_eq_true rfl⟩) hS (fun q _ h => hFc q h) hFc (fun u t H1 locs ht hvm hw hB hz1 hk1 hS => ?_)
        obtain ⟨tcn_3, hd_4, la_5⟩ := u
        obtain ⟨hP1, -, hD1⟩ := hB
        have hw := And.intro hw trivial
        try dsimp only at hw
        have hw := hw.1
        rw [ht] at hP1
        obtain ⟨hP, hD⟩ := va_join (wr := [(aO, .inl (cI, 4, .inl so)), (aK, .inl (cI, 4, .inl ki))]) (w1 := [(x, .inr (1, [.ref aH, .ref aL, .ref aS, .ref aO, .ref aK, .ref aZ, .ref cv, .int tcn_3, .int mcn, .int swd, .int rwd, .int bpt, .int flm])), (aH, .inl (cI, 34, .inl hd_4)), (aL, .inl (cI, 34, .inl la_5))]) hP hD [2, 0, 1] [3, 4] rfl rfl (by decide) (by decide) hk1 hFc hP1 hD1
        generalize H1 = H at hP hS ⊢
        have hP : va_P (dC, dI) vwCl [(aO, .inl (cI, 4, .inl so)), (aK, .inl (cI, 4, .inl ki)), (x, .inr (1, [.ref aH, .ref aL, .ref aS, .ref aO, .ref aK, .ref aZ, .ref cv, .int tcn_3, .int mcn, .int swd, .int rwd, .int bpt, .int flm])), (aH, .inl (cI, 34, .inl hd_4)), (aL, .inl (cI, 34, .inl la_5))] H := hP
        have hD : va_D A [(aO, .inl (cI, 4, .inl so)), (aK, .inl (cI, 4, .inl ki)), (x, .inr (1, [.ref aH, .ref aL, .ref aS, .ref aO, .ref aK, .ref aZ, .ref cv, .int tcn_3, .int mcn, .int swd, .int rwd, .int bpt, .int flm])), (aH, .inl (cI, 34, .inl hd_4)), (aL, .inl (cI, 34, .inl la_5))] := hD
        refine lv_aload_n hx hb dX1_grow_31 rfl (lv_at hl 1 rfl) ?_
        refine va_get (D := (dC, dI)) (ci := 1) (v := .ref aO) (C := RX1) (T := TX1) (N := 13) hx hb hts hinX1 hown hK hP 2 rfl rfl 3 (by decide) (hts (.fieldLink RX1 19 "TileHand" "setSorts" "[I") (by decide +kernel)) (fun _ h9 => h9) rfl dX1_grow_32 ?_
        refine lv_iload_n hx hb dX1_grow_35 rfl (lv_at hl 0 rfl) ?_
        refine lv_iconst (v := 2) hx hb dX1_grow_36 (by decide) ?_
        obtain ⟨h6, hw⟩ := hw
        refine va_iast hx hb hK hP hD hS 0 0 rfl rfl h6 dX1_grow_37 (fun H locs hP hD hS => ?_)
        have hP : va_P (dC, dI) vwCl [(aO, .inl (cI, 4, .inl (upd so r1.toNatClampNeg (2 : Int32)))), (aK, .inl (cI, 4, .inl ki)), (x, .inr (1, [.ref aH, .ref aL, .ref aS, .ref aO, .ref aK, .ref aZ, .ref cv, .int tcn_3, .int mcn, .int swd, .int rwd, .int bpt, .int flm])), (aH, .inl (cI, 34, .inl hd_4)), (aL, .inl (cI, 34, .inl la_5))] H := hP
        have hD : va_D A [(aO, .inl (cI, 4, .inl (upd so r1.toNatClampNeg (2 : Int32)))), (aK, .inl (cI, 4, .inl ki)), (x, .inr (1, [.ref aH, .ref aL, .ref aS, .ref aO, .ref aK, .ref aZ, .ref cv, .int tcn_3, .int mcn, .int swd, .int rwd, .int bpt, .int flm])), (aH, .inl (cI, 34, .inl hd_4)), (aL, .inl (cI, 34, .inl la_5))] := hD
        refine lv_aload_n hx hb dX1_grow_38 rfl (lv_at hl 1 rfl) ?_
        have hPc := hP.sub (ws' := [(x, .inr (1, [.ref aH, .ref aL, .ref aS, .ref aO, .ref aK, .ref aZ, .ref cv, .int tcn_3, .int mcn, .int swd, .int rwd, .int bpt, .int flm]))]) [2] rfl
        have hDc := hD.sub (ws' := [(x, .inr (1, [.ref aH, .ref aL, .ref aS, .ref aO, .ref aK, .ref aZ, .ref cv, .int tcn_3, .int mcn, .int swd, .int rwd, .int bpt, .int flm]))]) [2] (by decide) rfl
        have hFc := va_free (wc := [(x, .inr (1, [.ref aH, .ref aL, .ref aS, .ref aO, .ref aK, .ref aZ, .ref cv, .int tcn_3, .int mcn, .int swd, .int rwd, .int bpt, .int flm]))]) hD hS hA [2] rfl
        refine va_calli (va_runV (As := []) (rest := []) ⟨hx, hb, hml, hown, hts⟩ (c_X1_sizeNow l dC dI cI cZ x aH aL aS aO aK aZ cv H.size tcn_3 mcn swd rwd bpt flm _ hw) (cwV 0 hts gX1_grow_X1_sizeNow rfl rfl rfl (by decide +kernel) ⟨Nat.le_of_ble_eq_true rfl, Nat.le_of_ble_eq_true rfl⟩) ⟨fun a U g mk q => by obtain ⟨q0, q1, qP, qK, qD⟩ := q; exact ⟨q0, q1, qP, va_K.moved (u := U) (U := U.calling g mk a) (Vm.Alike.refl U.vm) qK, qD⟩, va_recv hK hPc (ci := 1) (q0 := 0) rfl rfl, fun U hU hW => ⟨rfl, by rw [hU], by rw [hU]; exact hPc, va_K.moved hW.alike hK, hDc.weaken (fun _ _ _ _ => trivial)⟩⟩ rfl rfl hl.1 rfl (lv_room (Nat.le_of_ble_eq_true rfl)) dX1_grow_39 ⟨Nat.le_of_ble_eq_true rfl, Nat.le_of_ble_eq_true rfl⟩) hS (fun q _ h => hFc q h) hFc (fun r7 u t H1 locs ht hvm hw hB hz1 hk1 hS => ?_)
        obtain ⟨hP1, -, hD1⟩ := hB
        have hw := And.intro hw trivial
        try dsimp only at hw
        have hw := hw.1
        rw [ht] at hP1
        obtain ⟨hP, hD⟩ := va_join (wr := [(aO, .inl (cI, 4, .inl (upd so r1.toNatClampNeg (2 : Int32)))), (aK, .inl (cI, 4, .inl ki)), (aH, .inl (cI, 34, .inl hd_4)), (aL, .inl (cI, 34, .inl la_5))]) (w1 := [(x, .inr (1, [.ref aH, .ref aL, .ref aS, .ref aO, .ref aK, .ref aZ, .ref cv, .int tcn_3, .int mcn, .int swd, .int rwd, .int bpt, .int flm]))]) hP hD [2] [0, 1, 3, 4] rfl rfl (by decide) (by decide) hk1 hFc hP1 hD1
        generalize H1 = H at hP hS ⊢
        have hP : va_P (dC, dI) vwCl [(aO, .inl (cI, 4, .inl (upd so r1.toNatClampNeg (2 : Int32)))), (aK, .inl (cI, 4, .inl ki)), (aH, .inl (cI, 34, .inl hd_4)), (aL, .inl (cI, 34, .inl la_5)), (x, .inr (1, [.ref aH, .ref aL, .ref aS, .ref aO, .ref aK, .ref aZ, .ref cv, .int tcn_3, .int mcn, .int swd, .int rwd, .int bpt, .int flm]))] H := hP
        have hD : va_D A [(aO, .inl (cI, 4, .inl (upd so r1.toNatClampNeg (2 : Int32)))), (aK, .inl (cI, 4, .inl ki)), (aH, .inl (cI, 34, .inl hd_4)), (aL, .inl (cI, 34, .inl la_5)), (x, .inr (1, [.ref aH, .ref aL, .ref aS, .ref aO, .ref aK, .ref aZ, .ref cv, .int tcn_3, .int mcn, .int swd, .int rwd, .int bpt, .int flm]))] := hD
        exact False.elim hw
      · refine vx_callv (vx_runV (As := [.int p0, .int (1 : Int32)]) (rest := []) ⟨hx, hb, hml, hown, hts⟩ (c_X1_layAlike_x l hl9 dC dI cI cZ x aH aL aS aO aK aZ cv H.size tcn mcn swd rwd bpt flm hd la p0 (1 : Int32) _ hw) (cwV 2 hts gX1_grow_X1_layAlike rfl rfl rfl (by decide +kernel) ⟨Nat.le_of_ble_eq_true rfl, Nat.le_of_ble_eq_true rfl⟩) ⟨fun a U g mk q => by obtain ⟨q0, q1, qP, qK, qD, qX⟩ := q; exact ⟨q0, q1, qP, va_K.moved (u := U) (U := U.calling g mk a) (Vm.Alike.refl U.vm) qK, qD, xk_same rfl rfl qX⟩, va_recv hK hPc (ci := 1) (q0 := 0) rfl rfl, fun U hU hW => ⟨rfl, by rw [hU], by rw [hU]; exact hPc, va_K.moved hW.alike hK, hDc.weaken (fun _ _ _ _ => trivial), xk_call hS hU hW (fun q h => hFc q h) hxk⟩⟩ rfl rfl hl.1 rfl (lv_room (Nat.le_of_ble_eq_true rfl)) dX1_grow_28 ⟨Nat.le_of_ble_eq_true rfl, Nat.le_of_ble_eq_true rfl⟩) hS (fun q _ h => hFc q h) hFc (fun q _ h => hFc q h) (fun E ce qe9 u t H1 locs ht hvm hw hB hz1 hk1 hS hce hcv hcl => ?_) (fun u t H1 locs ht hvm hw hB hz1 hk1 hS => False.elim hw)
        obtain ⟨E8, tcn_3, hd_4, la_5⟩ := u
        obtain ⟨rfl, hP1, -, hD1⟩ := hB
        try dsimp only at hw
        rw [ht] at hP1
        obtain ⟨hP, hD⟩ := va_join (wr := [(aO, .inl (cI, 4, .inl so)), (aK, .inl (cI, 4, .inl ki))]) (w1 := [(x, .inr (1, [.ref aH, .ref aL, .ref aS, .ref aO, .ref aK, .ref aZ, .ref cv, .int tcn_3, .int mcn, .int swd, .int rwd, .int bpt, .int flm])), (aH, .inl (cI, 34, .inl hd_4)), (aL, .inl (cI, 34, .inl la_5))]) hP hD [2, 0, 1] [3, 4] rfl rfl (by decide) (by decide) hk1 hFc hP1 hD1
        generalize H1 = H at hP hS hce ⊢
        have hP : va_P (dC, dI) vwCl [(aO, .inl (cI, 4, .inl so)), (aK, .inl (cI, 4, .inl ki)), (x, .inr (1, [.ref aH, .ref aL, .ref aS, .ref aO, .ref aK, .ref aZ, .ref cv, .int tcn_3, .int mcn, .int swd, .int rwd, .int bpt, .int flm])), (aH, .inl (cI, 34, .inl hd_4)), (aL, .inl (cI, 34, .inl la_5))] H := hP
        have hD : va_D A [(aO, .inl (cI, 4, .inl so)), (aK, .inl (cI, 4, .inl ki)), (x, .inr (1, [.ref aH, .ref aL, .ref aS, .ref aO, .ref aK, .ref aZ, .ref cv, .int tcn_3, .int mcn, .int swd, .int rwd, .int bpt, .int flm])), (aH, .inl (cI, 34, .inl hd_4)), (aL, .inl (cI, 34, .inl la_5))] := hD
        have hP9 := hP.sub (ws' := [(x, .inr (1, [.ref aH, .ref aL, .ref aS, .ref aO, .ref aK, .ref aZ, .ref cv, .int tcn_3, .int mcn, .int swd, .int rwd, .int bpt, .int flm])), (aH, .inl (cI, 34, .inl hd_4)), (aL, .inl (cI, 34, .inl la_5)), (aO, .inl (cI, 4, .inl so)), (aK, .inl (cI, 4, .inl ki))]) [2, 3, 4, 0, 1] rfl
        have hD9 := hD.sub (ws' := [(x, .inr (1, [.ref aH, .ref aL, .ref aS, .ref aO, .ref aK, .ref aZ, .ref cv, .int tcn_3, .int mcn, .int swd, .int rwd, .int bpt, .int flm])), (aH, .inl (cI, 34, .inl hd_4)), (aL, .inl (cI, 34, .inl la_5)), (aO, .inl (cI, 4, .inl so)), (aK, .inl (cI, 4, .inl ki))]) [2, 3, 4, 0, 1] (by decide) rfl
        rw [← hQ9]
        exact vx_out (E := E) (fun x hx => (hEx x hx).elim) hlocks hce hcv hcl (fun t ht ha => ⟨(E, tcn_3, hd_4, la_5, so), hw, ⟨rfl, by rw [ht]; exact hP9, va_K.moved ha hK, hD9⟩, hS.F ht⟩) hS.2.2 (Nat.le_of_ble_eq_true rfl) (Nat.le_of_ble_eq_true rfl)
    · have hw := hw.1 c2
      have hP9 := hP.sub (ws' := [(x, .inr (1, [.ref aH, .ref aL, .ref aS, .ref aO, .ref aK, .ref aZ, .ref cv, .int tcn, .int mcn, .int swd, .int rwd, .int bpt, .int flm])), (aH, .inl (cI, 34, .inl hd)), (aL, .inl (cI, 34, .inl la)), (aO, .inl (cI, 4, .inl so)), (aK, .inl (cI, 4, .inl ki))]) [2, 0, 1, 3, 4] rfl
      have hD9 := hD.sub (ws' := [(x, .inr (1, [.ref aH, .ref aL, .ref aS, .ref aO, .ref aK, .ref aZ, .ref cv, .int tcn, .int mcn, .int swd, .int rwd, .int bpt, .int flm])), (aH, .inl (cI, 34, .inl hd)), (aL, .inl (cI, 34, .inl la)), (aO, .inl (cI, 4, .inl so)), (aK, .inl (cI, 4, .inl ki))]) [2, 0, 1, 3, 4] (by decide) rfl
      obtain ⟨sa9, hstr9⟩ := xk_s103 hxk
      rw [← hQ9]
      exact vx_throwS (own := RX1) (cls := "java/lang/IllegalStateException") (text := "no such THREE was laid") (names := ["java/lang/RuntimeException", "java/lang/Exception"]) (A := A) hx hb hl9 hown (by decide +kernel) (by decide +kernel) (hts (.classLink RX1 57 "java/lang/IllegalStateException") (by decide +kernel)) (hts (.initialized "java/lang/IllegalStateException") (by decide +kernel)) hstr9 (vx_hat (L := vx_atS RX1 61 "java/lang/IllegalStateException" ["java/lang/RuntimeException", "java/lang/Exception"]) (B := [.castable "java/lang/IllegalStateException" "java/lang/IllegalStateException", .declares ⟨"java/lang/RuntimeException", "<init>", "(Ljava/lang/String;)V"⟩, .declares ⟨"java/lang/Exception", "<init>", "(Ljava/lang/String;)V"⟩, .declares ⟨"java/lang/Throwable", "<init>", "(Ljava/lang/String;)V"⟩]) (fun w hw => hts w ((by decide +kernel : ∀ w ∈ (vx_atS RX1 61 "java/lang/IllegalStateException" ["java/lang/RuntimeException", "java/lang/Exception"]).filter goodWord, w ∈ wsX1_grow) w hw)) (by decide +kernel) (vx_c (va_Nw.use rfl (xk_c3 hxk)) (vx_c (va_Nw.use rfl (xk_d1 hxk)) (vx_c (va_Nw.use rfl (xk_d2 hxk)) (vx_c (va_Nw.use rfl (xk_d3 hxk)) vx_n))))) (by decide +kernel) (xk_U hxk) (xk_N hxk) hS (hl.1.trans hml.symm) dX1_grow_15 dX1_grow_18 dX1_grow_19 dX1_grow_21 dX1_grow_24 (fun x hx => (hEx x hx).elim) (Nat.le_of_ble_eq_true rfl) (Nat.le_of_ble_eq_true rfl) (Nat.le_of_ble_eq_true rfl) (Nat.le_of_ble_eq_true rfl) hlocks (fun t ha hz hq => ⟨("java/lang/IllegalStateException", tcn, hd, la, so), hw, ⟨rfl, xt_P hP9 hq, va_K.moved ha hK, hD9⟩, xt_F hS hz hq⟩) hS.2.2 (Nat.le_of_ble_eq_true rfl) (Nat.le_of_ble_eq_true rfl)
  · refine vx_callv (vx_runS (As := [.int p0]) (rest := []) ⟨hx, hb, hml, hown, hts⟩ (c_X1_requireKind_x l hl9 dC dI cI cZ s.heap.size p0 _ hw) (va_cwS 1 hts gX1_grow_X1_requireKind rfl rfl rfl (by decide +kernel) ⟨Nat.le_of_ble_eq_true rfl, Nat.le_of_ble_eq_true rfl⟩) ⟨fun a U g mk q => by obtain ⟨q0, q1, qP, qK, qD, qX⟩ := q; exact ⟨q0, q1, qP, va_K.moved (u := U) (U := U.calling g mk a) (Vm.Alike.refl U.vm) qK, qD, xk_same rfl rfl qX⟩, fun U hU hW => ⟨rfl, by rw [hU], by rw [hU]; exact hPc, va_K.moved hW.alike hK, hDc.weaken (fun _ _ _ _ => trivial), xk_call hS hU hW (fun q h => hFc q h) hxk⟩⟩ rfl rfl hl.1 rfl (lv_room (Nat.le_of_ble_eq_true rfl)) dX1_grow_1 ⟨Nat.le_of_ble_eq_true rfl, Nat.le_of_ble_eq_true rfl⟩) hS (fun q _ h => hFc q h) hFc (fun q _ h => hFc q h) (fun E ce qe9 u t H1 locs ht hvm hw hB hz1 hk1 hS hce hcv hcl => ?_) (fun u t H1 locs ht hvm hw hB hz1 hk1 hS => False.elim hw)
    obtain ⟨E9, rfl⟩ : ∃ z, z = u := ⟨_, rfl⟩
    obtain ⟨rfl, hP1, -, hD1⟩ := hB
    try dsimp only at hw
    rw [ht] at hP1
    obtain ⟨hP, hD⟩ := va_join (wr := [(x, .inr (1, [.ref aH, .ref aL, .ref aS, .ref aO, .ref aK, .ref aZ, .ref cv, .int tcn, .int mcn, .int swd, .int rwd, .int bpt, .int flm])), (aH, .inl (cI, 34, .inl hd)), (aL, .inl (cI, 34, .inl la)), (aO, .inl (cI, 4, .inl so)), (aK, .inl (cI, 4, .inl ki))]) (w1 := []) hP hD [] [0, 1, 2, 3, 4] rfl rfl (by decide) (by decide) hk1 hFc hP1 hD1
    generalize H1 = H at hP hS hce ⊢
    have hP : va_P (dC, dI) vwCl [(x, .inr (1, [.ref aH, .ref aL, .ref aS, .ref aO, .ref aK, .ref aZ, .ref cv, .int tcn, .int mcn, .int swd, .int rwd, .int bpt, .int flm])), (aH, .inl (cI, 34, .inl hd)), (aL, .inl (cI, 34, .inl la)), (aO, .inl (cI, 4, .inl so)), (aK, .inl (cI, 4, .inl ki))] H := hP
    have hD : va_D A [(x, .inr (1, [.ref aH, .ref aL, .ref aS, .ref aO, .ref aK, .ref aZ, .ref cv, .int tcn, .int mcn, .int swd, .int rwd, .int bpt, .int flm])), (aH, .inl (cI, 34, .inl hd)), (aL, .inl (cI, 34, .inl la)), (aO, .inl (cI, 4, .inl so)), (aK, .inl (cI, 4, .inl ki))] := hD
    have hP9 := hP.sub (ws' := [(x, .inr (1, [.ref aH, .ref aL, .ref aS, .ref aO, .ref aK, .ref aZ, .ref cv, .int tcn, .int mcn, .int swd, .int rwd, .int bpt, .int flm])), (aH, .inl (cI, 34, .inl hd)), (aL, .inl (cI, 34, .inl la)), (aO, .inl (cI, 4, .inl so)), (aK, .inl (cI, 4, .inl ki))]) [0, 1, 2, 3, 4] rfl
    have hD9 := hD.sub (ws' := [(x, .inr (1, [.ref aH, .ref aL, .ref aS, .ref aO, .ref aK, .ref aZ, .ref cv, .int tcn, .int mcn, .int swd, .int rwd, .int bpt, .int flm])), (aH, .inl (cI, 34, .inl hd)), (aL, .inl (cI, 34, .inl la)), (aO, .inl (cI, 4, .inl so)), (aK, .inl (cI, 4, .inl ki))]) [0, 1, 2, 3, 4] (by decide) rfl
    rw [← hQ9]
    exact vx_out (E := E) (fun x hx => (hEx x hx).elim) hlocks hce hcv hcl (fun t ht ha => ⟨(E, tcn, hd, la, so), hw, ⟨rfl, by rw [ht]; exact hP9, va_K.moved ha hK, hD9⟩, hS.F ht⟩) hS.2.2 (Nat.le_of_ble_eq_true rfl) (Nat.le_of_ble_eq_true rfl)
