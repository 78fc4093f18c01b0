theorem arr_ra {args : Array Value} {s : State} {ty : FieldType} (h : (Cond.arrayClass ty).before args s = true) (hp : ∀ C, ty ≠ .object C) : ∃ cA : ClassId, ArrOfT s cA ty ∧ va_RA s cA ty := by
  obtain ⟨cA, kA, comp, hfind, hk, hkind⟩ := Cond.arrayClass_spec h
  refine ⟨cA, fun n z => ⟨fun k h => (by cases h), kA, hk, comp, hkind⟩, ?_⟩
  cases ty with
  | object C => exact absurd rfl (hp C)
  | _ => exact hfind
theorem str_of {args : Array Value} {s : State} {own tx : String} {k : Nat} (h1 : (Cond.stringRef own k tx).before args s = true) (h2 : (Cond.exactly (.string own k) "java/lang/String").before args s = true) : ∃ sa, vk_R own k tx sa s := by
  obtain ⟨a2, c, cA, kA, q1, q2, q3, q4, q5, q6, -⟩ := Cond.exactly_spec (args := args) (first := s) (o := none) (s := s) (idx := []) (t := .string own k) (cls := "java/lang/String") h2
  exact ⟨a2, vk_R.of h1 q1⟩
set_option maxHeartbeats 4000000 in
set_option maxRecDepth 100000 in
/-- the law from its entry, if what is said of its answers holds -/
theorem whole_open {p : Program} {e : Env} {s : State} {m : MethodId} {below : List Frame} {meth : Method} {c : Code} (l : Launch) (hflags : l.flags = flags0) {b L : Nat} {xs : Nat → Int32} (C0 : lw_At p s m meth c b L xs) (hpure : w_L_law L xs 0 27 27 1 8 (fun _ => 0) (fun _ => 0) 0 (fun _ => 0) (fun _ => 0) (fun _ => 0) (fun _ => 0) 0 0 0 (fun _ => 0) (fun _ => 0) (fun _ => 0)) : W p l e room_1 s m #[Value.ref b] below meth c s.heap [] 0 0 (lw_Z below #[Value.ref b] s) (entryFrame m ([Value.ref b] : List Value).toArray 10) := by
  obtain ⟨hx, hb, hr, hml, hown0, htt, hX, hbl, hlocks, hgv⟩ := id C0
  have hown : s.vm.findClass RL = some m.cls := hown0
  have hts : ∀ w ∈ wsL_law, w.before #[Value.ref b] s = true := fun w h => htt w (wsL_law_in w h)
  have hs := flat_of_before _ hgv
  have hl9 : l.stackTraces = false := by unfold Launch.stackTraces; rw [hflags]; decide
  have hA : ∀ q : Nat, s.heap.size ≤ q → (fun q : Nat => s.heap.size ≤ q) q := fun _ h => h
  have hbA : ¬ (fun q : Nat => s.heap.size ≤ q) b := Nat.not_le.mpr hbl
  obtain ⟨c0, iS0, hKn0⟩ := u_known (C := RX0) (T := TX0) (N := 5) (n := 5) hts inlX0 (hts (.instantiable RX0 5) (by decide +kernel))
  obtain ⟨c1, iS1, hKn1⟩ := u_known (C := RX1) (T := TX1) (N := 13) (n := 13) hts inlX1 (hts (.instantiable RX1 13) (by decide +kernel))
  obtain ⟨dC, dI, hKc⟩ : ∃ (dC : Nat → ClassId) (dI : Nat → Nat → Nat), ∀ (k : Nat) (q : vw_C), vwCl[k]? = some q → u_Kn s q.1 q.2.1 q.2.2 (dC k) (dI k) := by
    refine ⟨fun k => if k = 0 then c0 else c1, fun k => if k = 0 then iS0 else iS1, ?_⟩
    intro k q hq
    match k, hq with
    | 0, hq => cases hq; exact hKn0
    | 1, hq => cases hq; exact hKn1
    | k + 2, hq => simp [vwCl] at hq
  obtain ⟨cI, aI, rI⟩ := arr_ra (hts (.arrayClass .int) (by decide +kernel)) (fun C => by simp)
  obtain ⟨cZ, aZ, rZ⟩ := arr_ra (hts (.arrayClass .boolean) (by decide +kernel)) (fun C => by simp)
  have hK : va_K (dC, dI) vwCl [(cI, .int), (cZ, .boolean)] s := ⟨hKc, fun k q h => by
    match k, h with
    | 0, h => cases h; exact ⟨aI, rI⟩
    | 1, h => cases h; exact ⟨aZ, rZ⟩
    | k + 2, h => simp at h⟩
  have hnk : va_Nw (.methodLinkNest RX0 51 yX1_beginsRow "TileHand") s := va_Nw.of rfl (htt (.methodLinkNest RX0 51 yX1_beginsRow "TileHand") (by decide +kernel))
  have hnk1 : va_Nw (.methodLinkNest RX1 31 yX0_init "TileHand") s := va_Nw.of rfl (htt (.methodLinkNest RX1 31 yX0_init "TileHand") (by decide +kernel))
  have hnc : nck s := trivial
  have hxk : xk (fun q : Nat => s.heap.size ≤ q) s := ⟨⟨va_Nw.of rfl (htt (.castable "java/lang/IndexOutOfBoundsException" "java/lang/IndexOutOfBoundsException") (by decide +kernel)), va_Nw.of rfl (htt (.castable "java/lang/IllegalStateException" "java/lang/IllegalStateException") (by decide +kernel))⟩, ⟨va_Nw.of rfl (htt (.declares ⟨"java/lang/RuntimeException", "<init>", "(Ljava/lang/String;)V"⟩) (by decide +kernel)), va_Nw.of rfl (htt (.declares ⟨"java/lang/Exception", "<init>", "(Ljava/lang/String;)V"⟩) (by decide +kernel)), va_Nw.of rfl (htt (.declares ⟨"java/lang/Throwable", "<init>", "(Ljava/lang/String;)V"⟩) (by decide +kernel))⟩, ⟨str_of (htt (.stringRef RX1 59 "the hand is full") (by decide +kernel)) (hs (.exactly (.string RX1 59) "java/lang/String") (by decide +kernel)), str_of (htt (.stringRef RX1 151 "there are no tiles in the hand") (by decide +kernel)) (hs (.exactly (.string RX1 151) "java/lang/String") (by decide +kernel)), str_of (htt (.stringRef RX1 185 "no such kind") (by decide +kernel)) (hs (.exactly (.string RX1 185) "java/lang/String") (by decide +kernel)), str_of (htt (.stringRef RX1 187 "no tile of this kind is left") (by decide +kernel)) (hs (.exactly (.string RX1 187) "java/lang/String") (by decide +kernel)), str_of (htt (.stringRef RX1 189 "the hand does not have these tiles") (by decide +kernel)) (hs (.exactly (.string RX1 189) "java/lang/String") (by decide +kernel)), str_of (htt (.stringRef RX1 219 "the hand is not complete") (by decide +kernel)) (hs (.exactly (.string RX1 219) "java/lang/String") (by decide +kernel))⟩, vx_Zqof (htt (.laysStatic Bundle.tN "UNASSIGNED_STACK" Bundle.steD) (by decide +kernel)) (htt (.initialized Bundle.tN) (by decide +kernel)) (hs (.isRef (.static Bundle.tN "UNASSIGNED_STACK" Bundle.steD)) (by decide +kernel)) (fun a h => Nat.not_le.mpr h), vx_Zqof (htt (.laysStatic Bundle.tN "SUPPRESSED_SENTINEL" Bundle.listD) (by decide +kernel)) (htt (.initialized Bundle.tN) (by decide +kernel)) (hs (.isRef (.static Bundle.tN "SUPPRESSED_SENTINEL" Bundle.listD)) (by decide +kernel)) (fun a h => Nat.not_le.mpr h)⟩
  have hS : va_S (fun q : Nat => s.heap.size ≤ q) s.heap s.heap [] := va_S.rf
  have hP : va_P (dC, dI) vwCl [] s.heap := fun k q h => by simp at h
  have hD : va_D (fun q : Nat => s.heap.size ≤ q) [] := ⟨fun i j p q h => by simp at h, fun k q h => by simp at h⟩
  have hl := lv_entry ([.ref b]) (n := 10) (Nat.le_of_ble_eq_true rfl)
  rw [lg_entry_eq]
  generalize (lg_sl ([.ref b]) ++ List.replicate (10 - (lg_sl ([.ref b])).length) Slot.unset).toArray = ls at hl ⊢
  have hl : lv_has ls 10 [(0, .ref b)] := hl
  refine va_new (ci := 1) (fs := [.null, .null, .null, .null, .null, .null, .null, .int 0, .int 0, .int 0, .int 0, .int 0, .int 0]) (C := RX1) (T := TX1) (N := 13) hx hb hts inlX1 tyX1 tyX1_ok hown (hts (.classLink RL 28 RX1) (by decide +kernel)) (hts (.instantiable RX1 13) (by decide +kernel)) (hts (.initialized RX1) (by decide +kernel)) hK hP hD hS hA rfl (fun j hj => by rcases (show j = 0 ∨ j = 1 ∨ j = 2 ∨ j = 3 ∨ j = 4 ∨ j = 5 ∨ j = 6 ∨ j = 7 ∨ j = 8 ∨ j = 9 ∨ j = 10 ∨ j = 11 ∨ j = 12 by omega) with rfl | rfl | rfl | rfl | rfl | rfl | rfl | rfl | rfl | rfl | rfl | rfl | rfl <;> rfl) (Nat.le_of_ble_eq_true rfl) (Nat.le_of_ble_eq_true rfl) dL_law_0 (fun x H hP hD hS => ?_)
  have hP : va_P (dC, dI) vwCl [(x, .inr (1, [.null, .null, .null, .null, .null, .null, .null, .int 0, .int 0, .int 0, .int 0, .int 0, .int 0]))] H := hP
  have hD : va_D (fun q : Nat => s.heap.size ≤ q) [(x, .inr (1, [.null, .null, .null, .null, .null, .null, .null, .int 0, .int 0, .int 0, .int 0, .int 0, .int 0]))] := hD
  refine lv_dup hx hb dL_law_3 rfl ?_
  have hPc := hP.sub (ws' := [(x, .inr (1, [.null, .null, .null, .null, .null, .null, .null, .int 0, .int 0, .int 0, .int 0, .int 0, .int 0]))]) [0] rfl
  have hDc := hD.sub (ws' := [(x, .inr (1, [.null, .null, .null, .null, .null, .null, .null, .int 0, .int 0, .int 0, .int 0, .int 0, .int 0]))]) [0] (by decide) rfl
  have hFc := va_free (wc := [(x, .inr (1, [.null, .null, .null, .null, .null, .null, .null, .int 0, .int 0, .int 0, .int 0, .int 0, .int 0]))]) hD hS hA [0] rfl
  refine va_callv (va_runI (As := []) (rest := [.ref x]) ⟨hx, hb, hml, hown, hts⟩ (c_X1_init l dC dI cI cZ x H.size) (cwI 0 hts gL_law_X1_init rfl rfl rfl (hts (.initialized RX1) (by decide +kernel)) (hts (.methodLink RL 53 yX1_init) (by decide +kernel)) (hts (.instanceMethod yX1_init) (by decide +kernel)) rfl (by decide +kernel) ⟨Nat.le_of_ble_eq_true rfl, Nat.le_of_ble_eq_true rfl⟩) ⟨fun a U g mk q => by obtain ⟨q0, q1, qP, qK, qD, qN⟩ := q; exact ⟨q0, q1, qP, va_K.moved (u := U) (U := U.calling g mk a) (Vm.Alike.refl U.vm) qK, qD, va_Nw.same rfl rfl qN⟩, fun U hU hW => ⟨rfl, by rw [hU], by rw [hU]; exact hPc, va_K.moved hW.alike hK, hDc.weaken (fun _ _ _ _ => trivial), va_Nw.warmM hW hnk1⟩⟩ rfl rfl hl.1 rfl (lv_room (Nat.le_of_ble_eq_true rfl)) dL_law_4 ⟨Nat.le_of_ble_eq_true rfl, Nat.le_of_ble_eq_true rfl⟩) hS (fun q _ h => hFc q h) hFc (fun u t H1 locs ht hvm hw9 hB hz1 hk1 hS => ?_)
  obtain ⟨aH, aL, aS, aO, aK, aZ, cv, aN, aX, hP1, -, hD1⟩ := hB
  rw [ht] at hP1
  obtain ⟨hP, hD⟩ := va_join (wr := []) (w1 := [(x, .inr (1, [.ref aH, .ref aL, .ref aS, .ref aO, .ref aK, .ref aZ, .ref cv, .int (0 : Int32), .int (0 : Int32), .int (27 : Int32), .int (27 : Int32), .int (1 : Int32), .int (8 : Int32)])), (aH, .inl (cI, 34, .inl (fun _ => 0))), (aL, .inl (cI, 34, .inl (fun _ => 0))), (aS, .inl (cI, 34, .inl (fun _ => 0))), (aO, .inl (cI, 4, .inl (fun _ => 0))), (aK, .inl (cI, 4, .inl (fun _ => 0))), (aZ, .inl (cZ, 4, .inl (fun _ => 0))), (cv, .inr (0, [.ref aN, .ref aX, .int (0 : Int32), .int (0 : Int32), .int (0 : Int32)])), (aN, .inl (cI, 90, .inl (fun _ => 0))), (aX, .inl (cI, 90, .inl (fun _ => 0)))]) hP hD [0] [] rfl rfl (by decide) (by decide) hk1 hFc hP1 hD1
  generalize H1 = H at hP hS ⊢
  have hP : va_P (dC, dI) vwCl [(x, .inr (1, [.ref aH, .ref aL, .ref aS, .ref aO, .ref aK, .ref aZ, .ref cv, .int (0 : Int32), .int (0 : Int32), .int (27 : Int32), .int (27 : Int32), .int (1 : Int32), .int (8 : Int32)])), (aH, .inl (cI, 34, .inl (fun _ => 0))), (aL, .inl (cI, 34, .inl (fun _ => 0))), (aS, .inl (cI, 34, .inl (fun _ => 0))), (aO, .inl (cI, 4, .inl (fun _ => 0))), (aK, .inl (cI, 4, .inl (fun _ => 0))), (aZ, .inl (cZ, 4, .inl (fun _ => 0))), (cv, .inr (0, [.ref aN, .ref aX, .int (0 : Int32), .int (0 : Int32), .int (0 : Int32)])), (aN, .inl (cI, 90, .inl (fun _ => 0))), (aX, .inl (cI, 90, .inl (fun _ => 0)))] H := hP
  have hD : va_D (fun q : Nat => s.heap.size ≤ q) [(x, .inr (1, [.ref aH, .ref aL, .ref aS, .ref aO, .ref aK, .ref aZ, .ref cv, .int (0 : Int32), .int (0 : Int32), .int (27 : Int32), .int (27 : Int32), .int (1 : Int32), .int (8 : Int32)])), (aH, .inl (cI, 34, .inl (fun _ => 0))), (aL, .inl (cI, 34, .inl (fun _ => 0))), (aS, .inl (cI, 34, .inl (fun _ => 0))), (aO, .inl (cI, 4, .inl (fun _ => 0))), (aK, .inl (cI, 4, .inl (fun _ => 0))), (aZ, .inl (cZ, 4, .inl (fun _ => 0))), (cv, .inr (0, [.ref aN, .ref aX, .int (0 : Int32), .int (0 : Int32), .int (0 : Int32)])), (aN, .inl (cI, 90, .inl (fun _ => 0))), (aX, .inl (cI, 90, .inl (fun _ => 0)))] := hD
  refine lv_astore_n (lv' := [(1, .ref x), (0, .ref b)]) hx hb dL_law_7 rfl hl (by decide) rfl (fun ls hl => ?_)
  refine lv_bipush (v := 116) hx hb dL_law_8 (by decide) ?_
  refine va_newa (atype := .int) (ty := .int) (n := 116) (N' := 116) (a0 := (116, .inl (fun _ => 0))) hx hb (hts (.arrayClass .int) (by decide +kernel)) rfl hK hP hD hS hA (fun _ => rfl) (by decide) (by decide) (by decide) (Nat.le_of_ble_eq_true rfl) (Nat.le_of_ble_eq_true rfl) dL_law_10 (fun aA cJ H hK3 hP hD hS => ?_)
  rw [← ki_eq hK3 0 2 rfl rfl] at hP hD
  have hP : va_P (dC, dI) vwCl [(x, .inr (1, [.ref aH, .ref aL, .ref aS, .ref aO, .ref aK, .ref aZ, .ref cv, .int (0 : Int32), .int (0 : Int32), .int (27 : Int32), .int (27 : Int32), .int (1 : Int32), .int (8 : Int32)])), (aH, .inl (cI, 34, .inl (fun _ => 0))), (aL, .inl (cI, 34, .inl (fun _ => 0))), (aS, .inl (cI, 34, .inl (fun _ => 0))), (aO, .inl (cI, 4, .inl (fun _ => 0))), (aK, .inl (cI, 4, .inl (fun _ => 0))), (aZ, .inl (cZ, 4, .inl (fun _ => 0))), (cv, .inr (0, [.ref aN, .ref aX, .int (0 : Int32), .int (0 : Int32), .int (0 : Int32)])), (aN, .inl (cI, 90, .inl (fun _ => 0))), (aX, .inl (cI, 90, .inl (fun _ => 0))), (aA, .inl (cI, 116, .inl (fun _ => 0)))] H := hP
  have hD : va_D (fun q : Nat => s.heap.size ≤ q) [(x, .inr (1, [.ref aH, .ref aL, .ref aS, .ref aO, .ref aK, .ref aZ, .ref cv, .int (0 : Int32), .int (0 : Int32), .int (27 : Int32), .int (27 : Int32), .int (1 : Int32), .int (8 : Int32)])), (aH, .inl (cI, 34, .inl (fun _ => 0))), (aL, .inl (cI, 34, .inl (fun _ => 0))), (aS, .inl (cI, 34, .inl (fun _ => 0))), (aO, .inl (cI, 4, .inl (fun _ => 0))), (aK, .inl (cI, 4, .inl (fun _ => 0))), (aZ, .inl (cZ, 4, .inl (fun _ => 0))), (cv, .inr (0, [.ref aN, .ref aX, .int (0 : Int32), .int (0 : Int32), .int (0 : Int32)])), (aN, .inl (cI, 90, .inl (fun _ => 0))), (aX, .inl (cI, 90, .inl (fun _ => 0))), (aA, .inl (cI, 116, .inl (fun _ => 0)))] := hD
  refine lv_astore_n (lv' := [(2, .ref aA), (1, .ref x), (0, .ref b)]) hx hb dL_law_12 rfl hl (by decide) rfl (fun ls hl => ?_)
  refine W.widen (k := 100) (n := 2000) (Nat.le_of_ble_eq_true rfl) (Nat.le_of_ble_eq_true rfl) ?_
  exact lp_main l ⟨hl9, hx, hb, hml, hown, hts, hX, hbl, hbA, hA, hK, hnk, hnk1, hnc, hxk⟩ hr hlocks (fun _ h => h) (B9 := 5250) (Nat.le_refl _) 100 2000 (Nat.le_of_ble_eq_true rfl) (Nat.le_of_ble_eq_true rfl) _ _ _ _ _ _ _ _ _ _ _ aN aX H _ ls hpure hP hD hS (lv_sub hl [0, 1, 2] rfl)
