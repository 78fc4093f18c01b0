def w_X1_digest_b109 (post : Int64 → Int32 → (Nat → Int32) → (Nat → Int32) → (Nat → Int32) → Int32 → Int32 → Int32 → (Nat → Int32) → (Nat → Int32) → Prop) (mcn : Int32) (swd : Int32) (rwd : Int32) (bpt : Int32) (flm : Int32) (la : (Nat → Int32)) (se : (Nat → Int32)) (op : (Nat → Int32)) (v1 : Int64) (tcn : Int32) (hd : (Nat → Int32)) (so : (Nat → Int32)) (ki : (Nat → Int32)) (glm : Int32) (rom : Int32) (hel : Int32) (nw : (Nat → Int32)) (nx : (Nat → Int32)) : Prop := ∀ t4 : Int64, t4 = (v1 * (31 : Int64)) + swd.toInt64 → (∀ t5 : Int64, t5 = (t4 * (31 : Int64)) + rwd.toInt64 → (∀ t6 : Int64, t6 = (t5 * (31 : Int64)) + bpt.toInt64 → (∀ t7 : Int64, t7 = (t6 * (31 : Int64)) + flm.toInt64 → (w_X1_waits tcn mcn swd rwd hd la so ki (fun r8 tcn_9 hd_10 so_11 ki_12 => (w_X1_missing mcn hd_10 la glm rom hel nw nx (fun r13 glm_14 rom_15 hel_16 nw_17 nx_18 => (post ((((t7 * (31 : Int64)) + r8) * (31 : Int64)) + r13.toInt64) tcn_9 hd_10 so_11 ki_12 glm_14 rom_15 hel_16 nw_17 nx_18))))))))

def w_X1_digest_b103 (post : Int64 → Int32 → (Nat → Int32) → (Nat → Int32) → (Nat → Int32) → Int32 → Int32 → Int32 → (Nat → Int32) → (Nat → Int32) → Prop) (mcn : Int32) (swd : Int32) (rwd : Int32) (bpt : Int32) (flm : Int32) (la : (Nat → Int32)) (se : (Nat → Int32)) (op : (Nat → Int32)) (K60 : Int64 → Int32 → Int32 → (Nat → Int32) → (Nat → Int32) → (Nat → Int32) → Int32 → Int32 → Int32 → (Nat → Int32) → (Nat → Int32) → Prop) (v1 : Int64) (v3 : Int32) (tcn : Int32) (hd : (Nat → Int32)) (so : (Nat → Int32)) (ki : (Nat → Int32)) (glm : Int32) (rom : Int32) (hel : Int32) (nw : (Nat → Int32)) (nx : (Nat → Int32)) : Prop := K60 v1 (v3 + 1) tcn hd so ki glm rom hel nw nx

def w_X1_digest_b76 (post : Int64 → Int32 → (Nat → Int32) → (Nat → Int32) → (Nat → Int32) → Int32 → Int32 → Int32 → (Nat → Int32) → (Nat → Int32) → Prop) (mcn : Int32) (swd : Int32) (rwd : Int32) (bpt : Int32) (flm : Int32) (la : (Nat → Int32)) (se : (Nat → Int32)) (op : (Nat → Int32)) (K60 : Int64 → Int32 → Int32 → (Nat → Int32) → (Nat → Int32) → (Nat → Int32) → Int32 → Int32 → Int32 → (Nat → Int32) → (Nat → Int32) → Prop) : Nat → Int64 → Int32 → Int32 → Int32 → (Nat → Int32) → (Nat → Int32) → (Nat → Int32) → Int32 → Int32 → Int32 → (Nat → Int32) → (Nat → Int32) → Prop
  | 0, _, _, _, _, _, _, _, _, _, _, _, _ => False
  | n + 1, v1, v3, v4, tcn, hd, so, ki, glm, rom, hel, nw, nx => (((2 : Int32) < v4 → (w_X1_digest_b103 post mcn swd rwd bpt flm la se op K60 v1 v3 tcn hd so ki glm rom hel nw nx)) ∧ (¬ (2 : Int32) < v4 → (w_X1_tellMeld so ki op v3 v4 (fun r23 => (∀ t24 : Int64, t24 = (v1 * (31 : Int64)) + r23.toInt64 → (w_X1_digest_b76 post mcn swd rwd bpt flm la se op K60 n t24 v3 (v4 + 1) tcn hd so ki glm rom hel nw nx))))))

def w_X1_digest_b60 (post : Int64 → Int32 → (Nat → Int32) → (Nat → Int32) → (Nat → Int32) → Int32 → Int32 → Int32 → (Nat → Int32) → (Nat → Int32) → Prop) (mcn : Int32) (swd : Int32) (rwd : Int32) (bpt : Int32) (flm : Int32) (la : (Nat → Int32)) (se : (Nat → Int32)) (op : (Nat → Int32)) : Nat → Int64 → Int32 → Int32 → (Nat → Int32) → (Nat → Int32) → (Nat → Int32) → Int32 → Int32 → Int32 → (Nat → Int32) → (Nat → Int32) → Prop
  | 0, _, _, _, _, _, _, _, _, _, _, _ => False
  | n + 1, v1, v3, tcn, hd, so, ki, glm, rom, hel, nw, nx => ((mcn ≤ v3 → (w_X1_digest_b109 post mcn swd rwd bpt flm la se op v1 tcn hd so ki glm rom hel nw nx)) ∧ (¬ mcn ≤ v3 → ((((4 : Int32) ≤ v3 → (w_X1_digest_b109 post mcn swd rwd bpt flm la se op v1 tcn hd so ki glm rom hel nw nx)) ∧ (¬ (4 : Int32) ≤ v3 → (∃ n9, w_X1_digest_b76 post mcn swd rwd bpt flm la se op (w_X1_digest_b60 post mcn swd rwd bpt flm la se op n) n9 v1 v3 (0 : Int32) tcn hd so ki glm rom hel nw nx))))))

def w_X1_digest_b46 (post : Int64 → Int32 → (Nat → Int32) → (Nat → Int32) → (Nat → Int32) → Int32 → Int32 → Int32 → (Nat → Int32) → (Nat → Int32) → Prop) (mcn : Int32) (swd : Int32) (rwd : Int32) (bpt : Int32) (flm : Int32) (la : (Nat → Int32)) (se : (Nat → Int32)) (op : (Nat → Int32)) (v1 : Int64) (tcn : Int32) (hd : (Nat → Int32)) (so : (Nat → Int32)) (ki : (Nat → Int32)) (glm : Int32) (rom : Int32) (hel : Int32) (nw : (Nat → Int32)) (nx : (Nat → Int32)) : Prop := ∀ t2 : Int64, t2 = (v1 * (31 : Int64)) + mcn.toInt64 → (∃ n9, w_X1_digest_b60 post mcn swd rwd bpt flm la se op n9 t2 (0 : Int32) tcn hd so ki glm rom hel nw nx)

def w_X1_digest_b6 (post : Int64 → Int32 → (Nat → Int32) → (Nat → Int32) → (Nat → Int32) → Int32 → Int32 → Int32 → (Nat → Int32) → (Nat → Int32) → Prop) (mcn : Int32) (swd : Int32) (rwd : Int32) (bpt : Int32) (flm : Int32) (la : (Nat → Int32)) (se : (Nat → Int32)) (op : (Nat → Int32)) : Nat → Int64 → Int32 → Int32 → (Nat → Int32) → (Nat → Int32) → (Nat → Int32) → Int32 → Int32 → Int32 → (Nat → Int32) → (Nat → Int32) → Prop
  | 0, _, _, _, _, _, _, _, _, _, _, _ => False
  | n + 1, v1, v3, tcn, hd, so, ki, glm, rom, hel, nw, nx => (((34 : Int32) ≤ v3 → (w_X1_digest_b46 post mcn swd rwd bpt flm la se op v1 tcn hd so ki glm rom hel nw nx)) ∧ (¬ (34 : Int32) ≤ v3 → (vp_in v3 34 ∧ (∀ t26 : Int64, t26 = (v1 * (31 : Int64)) + ((hd v3.toNatClampNeg).toInt64) → (vp_in v3 34 ∧ (∀ t28 : Int64, t28 = (t26 * (31 : Int64)) + ((se v3.toNatClampNeg).toInt64) → (w_X1_digest_b6 post mcn swd rwd bpt flm la se op n t28 (v3 + 1) tcn hd so ki glm rom hel nw nx)))))))

def w_X1_digest (tcn : Int32) (mcn : Int32) (swd : Int32) (rwd : Int32) (bpt : Int32) (flm : Int32) (hd : (Nat → Int32)) (la : (Nat → Int32)) (se : (Nat → Int32)) (so : (Nat → Int32)) (ki : (Nat → Int32)) (op : (Nat → Int32)) (glm : Int32) (rom : Int32) (hel : Int32) (nw : (Nat → Int32)) (nx : (Nat → Int32)) (post : Int64 → Int32 → (Nat → Int32) → (Nat → Int32) → (Nat → Int32) → Int32 → Int32 → Int32 → (Nat → Int32) → (Nat → Int32) → Prop) : Prop := ∃ n9, w_X1_digest_b6 post mcn swd rwd bpt flm la se op n9 (271 : Int64) (0 : Int32) tcn hd so ki glm rom hel nw nx

set_option maxHeartbeats 4000000 in
set_option maxRecDepth 100000 in
theorem c_X1_digest (l : Launch) (dC : Nat → ClassId) (dI : Nat → Nat → Nat) (cI cZ : ClassId) (x : Nat) (aH : Nat) (aL : Nat) (aS : Nat) (aO : Nat) (aK : Nat) (aZ : Nat) (cv : Nat) (aN : Nat) (aX : Nat) (sz : Nat) (tcn : Int32) (mcn : Int32) (swd : Int32) (rwd : Int32) (bpt : Int32) (flm : Int32) (hd : (Nat → Int32)) (la : (Nat → Int32)) (se : (Nat → Int32)) (so : (Nat → Int32)) (ki : (Nat → Int32)) (op : (Nat → Int32)) (glm : Int32) (rom : Int32) (hel : Int32) (nw : (Nat → Int32)) (nx : (Nat → Int32)) (post : Int64 → Int32 → (Nat → Int32) → (Nat → Int32) → (Nat → Int32) → Int32 → Int32 → Int32 → (Nat → Int32) → (Nat → Int32) → Prop) (hw : w_X1_digest tcn mcn swd rwd bpt flm hd la se so ki op glm rom hel nw nx post) : Met l yX1_digest wsX1_digest ({ frames := 19, cells := 0, slots := 0, locals := 442 } : Room) (va_Pc [.ref x] (fun U => U.heap.size = sz ∧ va_P (dC, dI) vwCl [(x, .inr (1, [.ref aH, .ref aL, .ref aS, .ref aO, .ref aK, .ref aZ, .ref cv, .int tcn, .int mcn, .int swd, .int rwd, .int bpt, .int flm])), (aH, .inl (cI, 34, .inl hd)), (aL, .inl (cI, 34, .inl la)), (aS, .inl (cI, 34, .inl se)), (aO, .inl (cI, 4, .inl so)), (aK, .inl (cI, 4, .inl ki)), (aZ, .inl (cZ, 4, .inl op)), (cv, .inr (0, [.ref aN, .ref aX, .int glm, .int rom, .int hel])), (aN, .inl (cI, 90, .inl nw)), (aX, .inl (cI, 90, .inl nx))] U.heap ∧ va_K (dC, dI) vwCl [(cI, .int), (cZ, .boolean)] U ∧ va_D (fun _ => True) [(x, .inr (1, [.ref aH, .ref aL, .ref aS, .ref aO, .ref aK, .ref aZ, .ref cv, .int tcn, .int mcn, .int swd, .int rwd, .int bpt, .int flm])), (aH, .inl (cI, 34, .inl hd)), (aL, .inl (cI, 34, .inl la)), (aS, .inl (cI, 34, .inl se)), (aO, .inl (cI, 4, .inl so)), (aK, .inl (cI, 4, .inl ki)), (aZ, .inl (cZ, 4, .inl op)), (cv, .inr (0, [.ref aN, .ref aX, .int glm, .int rom, .int hel])), (aN, .inl (cI, 90, .inl nw)), (aX, .inl (cI, 90, .inl nx))] ∧ va_Nw (.methodLinkNest RX0 51 yX1_beginsRow "TileHand") U)) (va_Ql (fun (r9 : Int64) (u9 : Int32 × (Nat → Int32) × (Nat → Int32) × (Nat → Int32) × Int32 × Int32 × Int32 × (Nat → Int32) × (Nat → Int32)) => post r9 u9.1 u9.2.1 u9.2.2.1 u9.2.2.2.1 u9.2.2.2.2.1 u9.2.2.2.2.2.1 u9.2.2.2.2.2.2.1 u9.2.2.2.2.2.2.2.1 u9.2.2.2.2.2.2.2.2) (fun (u9 : Int32 × (Nat → Int32) × (Nat → Int32) × (Nat → Int32) × Int32 × Int32 × Int32 × (Nat → Int32) × (Nat → Int32)) (t9 : State) => ∃ aN1 aX1 : Nat, va_P (dC, dI) vwCl [(x, .inr (1, [.ref aH, .ref aL, .ref aS, .ref aO, .ref aK, .ref aZ, .ref cv, .int u9.1, .int mcn, .int swd, .int rwd, .int bpt, .int flm])), (aH, .inl (cI, 34, .inl u9.2.1)), (aL, .inl (cI, 34, .inl la)), (aS, .inl (cI, 34, .inl se)), (aO, .inl (cI, 4, .inl u9.2.2.1)), (aK, .inl (cI, 4, .inl u9.2.2.2.1)), (aZ, .inl (cZ, 4, .inl op)), (cv, .inr (0, [.ref aN1, .ref aX1, .int u9.2.2.2.2.1, .int u9.2.2.2.2.2.1, .int u9.2.2.2.2.2.2.1])), (aN1, .inl (cI, 90, .inl u9.2.2.2.2.2.2.2.1)), (aX1, .inl (cI, 90, .inl u9.2.2.2.2.2.2.2.2))] t9.heap ∧ va_K (dC, dI) vwCl [(cI, .int), (cZ, .boolean)] t9 ∧ va_D (va_A [(x, .inr (1, [.ref aH, .ref aL, .ref aS, .ref aO, .ref aK, .ref aZ, .ref cv, .int tcn, .int mcn, .int swd, .int rwd, .int bpt, .int flm])), (aH, .inl (cI, 34, .inl hd)), (aL, .inl (cI, 34, .inl la)), (aS, .inl (cI, 34, .inl se)), (aO, .inl (cI, 4, .inl so)), (aK, .inl (cI, 4, .inl ki)), (aZ, .inl (cZ, 4, .inl op)), (cv, .inr (0, [.ref aN, .ref aX, .int glm, .int rom, .int hel])), (aN, .inl (cI, 90, .inl nw)), (aX, .inl (cI, 90, .inl nx))] sz) [(x, .inr (1, [.ref aH, .ref aL, .ref aS, .ref aO, .ref aK, .ref aZ, .ref cv, .int u9.1, .int mcn, .int swd, .int rwd, .int bpt, .int flm])), (aH, .inl (cI, 34, .inl u9.2.1)), (aL, .inl (cI, 34, .inl la)), (aS, .inl (cI, 34, .inl se)), (aO, .inl (cI, 4, .inl u9.2.2.1)), (aK, .inl (cI, 4, .inl u9.2.2.2.1)), (aZ, .inl (cZ, 4, .inl op)), (cv, .inr (0, [.ref aN1, .ref aX1, .int u9.2.2.2.2.1, .int u9.2.2.2.2.2.1, .int u9.2.2.2.2.2.2.1])), (aN1, .inl (cI, 90, .inl u9.2.2.2.2.2.2.2.1)), (aX1, .inl (cI, 90, .inl u9.2.2.2.2.2.2.2.2))]) (va_A [(x, .inr (1, [.ref aH, .ref aL, .ref aS, .ref aO, .ref aK, .ref aZ, .ref cv, .int tcn, .int mcn, .int swd, .int rwd, .int bpt, .int flm])), (aH, .inl (cI, 34, .inl hd)), (aL, .inl (cI, 34, .inl la)), (aS, .inl (cI, 34, .inl se)), (aO, .inl (cI, 4, .inl so)), (aK, .inl (cI, 4, .inl ki)), (aZ, .inl (cZ, 4, .inl op)), (cv, .inr (0, [.ref aN, .ref aX, .int glm, .int rom, .int hel])), (aN, .inl (cI, 90, .inl nw)), (aX, .inl (cI, 90, .inl nx))] sz)) 0 0 (va_A [(x, .inr (1, [.ref aH, .ref aL, .ref aS, .ref aO, .ref aK, .ref aZ, .ref cv, .int tcn, .int mcn, .int swd, .int rwd, .int bpt, .int flm])), (aH, .inl (cI, 34, .inl hd)), (aL, .inl (cI, 34, .inl la)), (aS, .inl (cI, 34, .inl se)), (aO, .inl (cI, 4, .inl so)), (aK, .inl (cI, 4, .inl ki)), (aZ, .inl (cZ, 4, .inl op)), (cv, .inr (0, [.ref aN, .ref aX, .int glm, .int rom, .int hel])), (aN, .inl (cI, 90, .inl nw)), (aX, .inl (cI, 90, .inl nx))] sz) := by
  refine Met.ofW (cc := cX1_digest) (maxL := 5) (ret := (some .long)) (by decide) rfl ?_
  intro p e s m args below meth c s₁ B hml hv
  obtain ⟨rfl, hsz, hP, hK, hD0, hnk⟩ := hv
  have hx := B.exec
  have hb := B.bytes
  have hr := B.returns
  have hts := atoms_spec (ws := wsX1_digest) B.pre
  have hown : s.vm.findClass RX1 = some m.cls := findClass_of_methodNamed B.named
  have hlocks := B.notSynchronized
  have hinX1 : ∀ w ∈ u_ws RX1 TX1 13, w ∈ wsX1_digest := by decide +kernel
  have hinX0 : ∀ w ∈ u_ws RX0 TX0 5, w ∈ wsX1_digest := by decide +kernel
  subst hsz
  have hD := hD0.self (sz := s.heap.size)
  generalize hAe : va_A [(x, .inr (1, [.ref aH, .ref aL, .ref aS, .ref aO, .ref aK, .ref aZ, .ref cv, .int tcn, .int mcn, .int swd, .int rwd, .int bpt, .int flm])), (aH, .inl (cI, 34, .inl hd)), (aL, .inl (cI, 34, .inl la)), (aS, .inl (cI, 34, .inl se)), (aO, .inl (cI, 4, .inl so)), (aK, .inl (cI, 4, .inl ki)), (aZ, .inl (cZ, 4, .inl op)), (cv, .inr (0, [.ref aN, .ref aX, .int glm, .int rom, .int hel])), (aN, .inl (cI, 90, .inl nw)), (aX, .inl (cI, 90, .inl nx))] s.heap.size = A at hD ⊢
  have hA : ∀ q : Nat, s.heap.size ≤ q → A q := fun q h => by rw [← hAe]; exact Or.inr h
  have hS : va_S A s.heap s.heap [] := va_S.rf
  have hl := lv_entry ([.ref x]) (n := 5) (Nat.le_of_ble_eq_true rfl)
  rw [lg_entry_eq]
  generalize (lg_sl ([.ref x]) ++ List.replicate (5 - (lg_sl ([.ref x])).length) Slot.unset).toArray = ls at hl ⊢
  have hl : lv_has ls 5 [(0, .ref x)] := hl
  refine (?_ : ∀ Q9 : State → Prop, MQ below _ _ s _ _ _ = Q9 → W p l e ({ frames := 19, cells := 0, slots := 0, locals := 442 } : Room) s m _ below meth c s.heap [] 0 0 Q9 (F0 m 0 ls [])) _ rfl
  intro Q9 hQ9
  have hw : ∃ n9, w_X1_digest_b6 post mcn swd rwd bpt flm la se op n9 (271 : Int64) (0 : Int32) tcn hd so ki glm rom hel nw nx := hw
  have L109 : ∀ (v1 : Int64) (tcn : Int32) (hd : (Nat → Int32)) (so : (Nat → Int32)) (ki : (Nat → Int32)) (glm : Int32) (rom : Int32) (hel : Int32) (nw : (Nat → Int32)) (nx : (Nat → Int32)) (aN aX : Nat) (H : Heap) (locs : List Loc) (ls : Array Slot), w_X1_digest_b109 post mcn swd rwd bpt flm la se op v1 tcn hd so ki glm rom hel nw nx → va_P (dC, dI) vwCl [(x, .inr (1, [.ref aH, .ref aL, .ref aS, .ref aO, .ref aK, .ref aZ, .ref cv, .int tcn, .int mcn, .int swd, .int rwd, .int bpt, .int flm])), (aH, .inl (cI, 34, .inl hd)), (aL, .inl (cI, 34, .inl la)), (aS, .inl (cI, 34, .inl se)), (aO, .inl (cI, 4, .inl so)), (aK, .inl (cI, 4, .inl ki)), (aZ, .inl (cZ, 4, .inl op)), (cv, .inr (0, [.ref aN, .ref aX, .int glm, .int rom, .int hel])), (aN, .inl (cI, 90, .inl nw)), (aX, .inl (cI, 90, .inl nx))] H → va_D A [(x, .inr (1, [.ref aH, .ref aL, .ref aS, .ref aO, .ref aK, .ref aZ, .ref cv, .int tcn, .int mcn, .int swd, .int rwd, .int bpt, .int flm])), (aH, .inl (cI, 34, .inl hd)), (aL, .inl (cI, 34, .inl la)), (aS, .inl (cI, 34, .inl se)), (aO, .inl (cI, 4, .inl so)), (aK, .inl (cI, 4, .inl ki)), (aZ, .inl (cZ, 4, .inl op)), (cv, .inr (0, [.ref aN, .ref aX, .int glm, .int rom, .int hel])), (aN, .inl (cI, 90, .inl nw)), (aX, .inl (cI, 90, .inl nx))] → va_S A s.heap H locs → lv_has ls 5 [(0, .ref x), (1, .long v1)] → W p l e ({ frames := 19, cells := 0, slots := 0, locals := 442 } : Room) s m ([.ref x] : List Value).toArray below meth c H locs 0 0 Q9 (F0 m 109 ls []) := by
    intro v1 tcn hd so ki glm rom hel nw nx aN aX H locs ls hw hP hD hS hl
    refine lv_lload_n hx hb dX1_digest_109 rfl (lv_at hl 1 rfl) ?_
    refine lv_ldc2 (v := 31) hx hb hown (hts (.constantLong RX1 177 31) (by decide +kernel)) dX1_digest_110 ?_
    refine lv_lmul hx hb dX1_digest_113 ?_
    refine lv_aload_n hx hb dX1_digest_114 rfl (lv_at hl 0 rfl) ?_
    refine va_get (D := (dC, dI)) (ci := 1) (v := .int swd) (C := RX1) (T := TX1) (N := 13) hx hb hts hinX1 hown hK hP 0 rfl rfl 9 (by decide) (hts (.fieldLink RX1 36 "TileHand" "seatWind" "I") (by decide +kernel)) (fun _ h9 => h9) rfl dX1_digest_115 ?_
    refine lv_i2l (v := swd.toInt64) hx hb dX1_digest_118 rfl ?_
    refine lv_ladd hx hb dX1_digest_119 ?_
    refine lv_topl (fun t4 et4 => ?_)
    have hw := hw t4 et4
    refine lv_lstore_n (lv' := [(1, .long t4), (0, .ref x)]) hx hb dX1_digest_120 rfl hl (by decide) rfl (fun ls hl => ?_)
    refine lv_lload_n hx hb dX1_digest_121 rfl (lv_at hl 0 rfl) ?_
    refine lv_ldc2 (v := 31) hx hb hown (hts (.constantLong RX1 177 31) (by decide +kernel)) dX1_digest_122 ?_
    refine lv_lmul hx hb dX1_digest_125 ?_
    refine lv_aload_n hx hb dX1_digest_126 rfl (lv_at hl 1 rfl) ?_
    refine va_get (D := (dC, dI)) (ci := 1) (v := .int rwd) (C := RX1) (T := TX1) (N := 13) hx hb hts hinX1 hown hK hP 0 rfl rfl 10 (by decide) (hts (.fieldLink RX1 40 "TileHand" "roundWind" "I") (by decide +kernel)) (fun _ h9 => h9) rfl dX1_digest_127 ?_
    refine lv_i2l (v := rwd.toInt64) hx hb dX1_digest_130 rfl ?_
    refine lv_ladd hx hb dX1_digest_131 ?_
    refine lv_topl (fun t5 et5 => ?_)
    have hw := hw t5 et5
    refine lv_lstore_n (lv' := [(1, .long t5), (0, .ref x)]) hx hb dX1_digest_132 rfl hl (by decide) rfl (fun ls hl => ?_)
    refine lv_lload_n hx hb dX1_digest_133 rfl (lv_at hl 0 rfl) ?_
    refine lv_ldc2 (v := 31) hx hb hown (hts (.constantLong RX1 177 31) (by decide +kernel)) dX1_digest_134 ?_
    refine lv_lmul hx hb dX1_digest_137 ?_
    refine lv_aload_n hx hb dX1_digest_138 rfl (lv_at hl 1 rfl) ?_
    refine va_get (D := (dC, dI)) (ci := 1) (v := .int bpt) (C := RX1) (T := TX1) (N := 13) hx hb hts hinX1 hown hK hP 0 rfl rfl 11 (by decide) (hts (.fieldLink RX1 43 "TileHand" "basePoints" "I") (by decide +kernel)) (fun _ h9 => h9) rfl dX1_digest_139 ?_
    refine lv_i2l (v := bpt.toInt64) hx hb dX1_digest_142 rfl ?_
    refine lv_ladd hx hb dX1_digest_143 ?_
    refine lv_topl (fun t6 et6 => ?_)
    have hw := hw t6 et6
    refine lv_lstore_n (lv' := [(1, .long t6), (0, .ref x)]) hx hb dX1_digest_144 rfl hl (by decide) rfl (fun ls hl => ?_)
    refine lv_lload_n hx hb dX1_digest_145 rfl (lv_at hl 0 rfl) ?_
    refine lv_ldc2 (v := 31) hx hb hown (hts (.constantLong RX1 177 31) (by decide +kernel)) dX1_digest_146 ?_
    refine lv_lmul hx hb dX1_digest_149 ?_
    refine lv_aload_n hx hb dX1_digest_150 rfl (lv_at hl 1 rfl) ?_
    refine va_get (D := (dC, dI)) (ci := 1) (v := .int flm) (C := RX1) (T := TX1) (N := 13) hx hb hts hinX1 hown hK hP 0 rfl rfl 12 (by decide) (hts (.fieldLink RX1 46 "TileHand" "fanLimit" "I") (by decide +kernel)) (fun _ h9 => h9) rfl dX1_digest_151 ?_
    refine lv_i2l (v := flm.toInt64) hx hb dX1_digest_154 rfl ?_
    refine lv_ladd hx hb dX1_digest_155 ?_
    refine lv_topl (fun t7 et7 => ?_)
    have hw := hw t7 et7
    refine lv_lstore_n (lv' := [(1, .long t7), (0, .ref x)]) hx hb dX1_digest_156 rfl hl (by decide) rfl (fun ls hl => ?_)
    refine lv_lload_n hx hb dX1_digest_157 rfl (lv_at hl 0 rfl) ?_
    refine lv_ldc2 (v := 31) hx hb hown (hts (.constantLong RX1 177 31) (by decide +kernel)) dX1_digest_158 ?_
    refine lv_lmul hx hb dX1_digest_161 ?_
    refine lv_aload_n hx hb dX1_digest_162 rfl (lv_at hl 1 rfl) ?_
    have hPc := hP.sub (ws' := [(x, .inr (1, [.ref aH, .ref aL, .ref aS, .ref aO, .ref aK, .ref aZ, .ref cv, .int tcn, .int mcn, .int swd, .int rwd, .int bpt, .int flm])), (aH, .inl (cI, 34, .inl hd)), (aL, .inl (cI, 34, .inl la)), (aO, .inl (cI, 4, .inl so)), (aK, .inl (cI, 4, .inl ki))]) [0, 1, 2, 4, 5] rfl
    have hDc := hD.sub (ws' := [(x, .inr (1, [.ref aH, .ref aL, .ref aS, .ref aO, .ref aK, .ref aZ, .ref cv, .int tcn, .int mcn, .int swd, .int rwd, .int bpt, .int flm])), (aH, .inl (cI, 34, .inl hd)), (aL, .inl (cI, 34, .inl la)), (aO, .inl (cI, 4, .inl so)), (aK, .inl (cI, 4, .inl ki))]) [0, 1, 2, 4, 5] (by decide) rfl
    have hFc := va_free (wc := [(x, .inr (1, [.ref aH, .ref aL, .ref aS, .ref aO, .ref aK, .ref aZ, .ref cv, .int tcn, .int mcn, .int swd, .int rwd, .int bpt, .int flm])), (aH, .inl (cI, 34, .inl hd)), (aL, .inl (cI, 34, .inl la)), (aO, .inl (cI, 4, .inl so)), (aK, .inl (cI, 4, .inl ki))]) hD hS hA [0, 1, 2, 4, 5] rfl
    refine va_calll (va_runV (As := []) (rest := [.long (t7 * (31 : Int64))]) ⟨hx, hb, hml, hown, hts⟩ (c_X1_waits l dC dI cI cZ x aH aL aS aO aK aZ cv H.size tcn mcn swd rwd bpt flm hd la so ki _ hw) (cwV 0 hts gX1_digest_X1_waits rfl rfl rfl (by decide +kernel) ⟨Nat.le_of_ble_eq_true rfl, Nat.le_of_ble_eq_true rfl⟩) ⟨fun a U g mk q => by obtain ⟨q0, q1, qP, qK, qD⟩ := q; exact ⟨q0, q1, qP, va_K.moved (u := U) (U := U.calling g mk a) (Vm.Alike.refl U.vm) qK, qD⟩, va_recv hK hPc (ci := 1) (q0 := 0) rfl rfl, fun U hU hW => ⟨rfl, by rw [hU], by rw [hU]; exact hPc, va_K.moved hW.alike hK, hDc.weaken (fun _ _ _ _ => trivial)⟩⟩ rfl rfl hl.1 rfl (lv_room (Nat.le_of_ble_eq_true rfl)) dX1_digest_163 ⟨Nat.le_of_ble_eq_true rfl, Nat.le_of_ble_eq_true rfl⟩) hS (fun q _ h => hFc q h) hFc (fun r8 u t H1 locs ht hvm hw hB hz1 hk1 hS => ?_)
    obtain ⟨tcn_9, hd_10, so_11, ki_12⟩ := u
    obtain ⟨hP1, -, hD1⟩ := hB
    have hw := And.intro hw trivial
    try dsimp only at hw
    have hw := hw.1
    rw [ht] at hP1
    obtain ⟨hP, hD⟩ := va_join (wr := [(aS, .inl (cI, 34, .inl se)), (aZ, .inl (cZ, 4, .inl op)), (cv, .inr (0, [.ref aN, .ref aX, .int glm, .int rom, .int hel])), (aN, .inl (cI, 90, .inl nw)), (aX, .inl (cI, 90, .inl nx))]) (w1 := [(x, .inr (1, [.ref aH, .ref aL, .ref aS, .ref aO, .ref aK, .ref aZ, .ref cv, .int tcn_9, .int mcn, .int swd, .int rwd, .int bpt, .int flm])), (aH, .inl (cI, 34, .inl hd_10)), (aL, .inl (cI, 34, .inl la)), (aO, .inl (cI, 4, .inl so_11)), (aK, .inl (cI, 4, .inl ki_12))]) hP hD [0, 1, 2, 4, 5] [3, 6, 7, 8, 9] rfl rfl (by decide) (by decide) hk1 hFc hP1 hD1
    generalize H1 = H at hP hS ⊢
    have hP : va_P (dC, dI) vwCl [(aS, .inl (cI, 34, .inl se)), (aZ, .inl (cZ, 4, .inl op)), (cv, .inr (0, [.ref aN, .ref aX, .int glm, .int rom, .int hel])), (aN, .inl (cI, 90, .inl nw)), (aX, .inl (cI, 90, .inl nx)), (x, .inr (1, [.ref aH, .ref aL, .ref aS, .ref aO, .ref aK, .ref aZ, .ref cv, .int tcn_9, .int mcn, .int swd, .int rwd, .int bpt, .int flm])), (aH, .inl (cI, 34, .inl hd_10)), (aL, .inl (cI, 34, .inl la)), (aO, .inl (cI, 4, .inl so_11)), (aK, .inl (cI, 4, .inl ki_12))] H := hP
    have hD : va_D A [(aS, .inl (cI, 34, .inl se)), (aZ, .inl (cZ, 4, .inl op)), (cv, .inr (0, [.ref aN, .ref aX, .int glm, .int rom, .int hel])), (aN, .inl (cI, 90, .inl nw)), (aX, .inl (cI, 90, .inl nx)), (x, .inr (1, [.ref aH, .ref aL, .ref aS, .ref aO, .ref aK, .ref aZ, .ref cv, .int tcn_9, .int mcn, .int swd, .int rwd, .int bpt, .int flm])), (aH, .inl (cI, 34, .inl hd_10)), (aL, .inl (cI, 34, .inl la)), (aO, .inl (cI, 4, .inl so_11)), (aK, .inl (cI, 4, .inl ki_12))] := hD
    refine lv_ladd hx hb dX1_digest_166 ?_
    refine lv_lstore_n (lv' := [(1, .long ((t7 * (31 : Int64)) + r8)), (0, .ref x)]) hx hb dX1_digest_167 rfl hl (by decide) rfl (fun ls hl => ?_)
    refine lv_lload_n hx hb dX1_digest_168 rfl (lv_at hl 0 rfl) ?_
    refine lv_ldc2 (v := 31) hx hb hown (hts (.constantLong RX1 177 31) (by decide +kernel)) dX1_digest_169 ?_
    refine lv_lmul hx hb dX1_digest_172 ?_
    refine lv_aload_n hx hb dX1_digest_173 rfl (lv_at hl 1 rfl) ?_
    have hPc := hP.sub (ws' := [(x, .inr (1, [.ref aH, .ref aL, .ref aS, .ref aO, .ref aK, .ref aZ, .ref cv, .int tcn_9, .int mcn, .int swd, .int rwd, .int bpt, .int flm])), (aH, .inl (cI, 34, .inl hd_10)), (aL, .inl (cI, 34, .inl la)), (cv, .inr (0, [.ref aN, .ref aX, .int glm, .int rom, .int hel])), (aN, .inl (cI, 90, .inl nw)), (aX, .inl (cI, 90, .inl nx))]) [5, 6, 7, 2, 3, 4] rfl
    have hDc := hD.sub (ws' := [(x, .inr (1, [.ref aH, .ref aL, .ref aS, .ref aO, .ref aK, .ref aZ, .ref cv, .int tcn_9, .int mcn, .int swd, .int rwd, .int bpt, .int flm])), (aH, .inl (cI, 34, .inl hd_10)), (aL, .inl (cI, 34, .inl la)), (cv, .inr (0, [.ref aN, .ref aX, .int glm, .int rom, .int hel])), (aN, .inl (cI, 90, .inl nw)), (aX, .inl (cI, 90, .inl nx))]) [5, 6, 7, 2, 3, 4] (by decide) rfl
    have hFc := va_free (wc := [(x, .inr (1, [.ref aH, .ref aL, .ref aS, .ref aO, .ref aK, .ref aZ, .ref cv, .int tcn_9, .int mcn, .int swd, .int rwd, .int bpt, .int flm])), (aH, .inl (cI, 34, .inl hd_10)), (aL, .inl (cI, 34, .inl la)), (cv, .inr (0, [.ref aN, .ref aX, .int glm, .int rom, .int hel])), (aN, .inl (cI, 90, .inl nw)), (aX, .inl (cI, 90, .inl nx))]) hD hS hA [5, 6, 7, 2, 3, 4] rfl
    refine va_calli (va_runV (As := []) (rest := [.long (((t7 * (31 : Int64)) + r8) * (31 : Int64))]) ⟨hx, hb, hml, hown, hts⟩ (c_X1_missing l dC dI cI cZ x aH aL aS aO aK aZ cv aN aX H.size tcn_9 mcn swd rwd bpt flm hd_10 la glm rom hel nw nx _ hw) (cwV 0 hts gX1_digest_X1_missing rfl rfl rfl (by decide +kernel) ⟨Nat.le_of_ble_eq_true rfl, Nat.le_of_ble_eq_true rfl⟩) ⟨fun a U g mk q => by obtain ⟨q0, q1, qP, qK, qD, qN⟩ := q; exact ⟨q0, q1, qP, va_K.moved (u := U) (U := U.calling g mk a) (Vm.Alike.refl U.vm) qK, qD, va_Nw.same rfl rfl qN⟩, va_recv hK hPc (ci := 1) (q0 := 0) rfl rfl, fun U hU hW => ⟨rfl, by rw [hU], by rw [hU]; exact hPc, va_K.moved hW.alike hK, hDc.weaken (fun _ _ _ _ => trivial), va_Nw.warmM hW hnk⟩⟩ rfl rfl hl.1 rfl (lv_room (Nat.le_of_ble_eq_true rfl)) dX1_digest_174 ⟨Nat.le_of_ble_eq_true rfl, Nat.le_of_ble_eq_true rfl⟩) hS (fun q _ h => hFc q h) hFc (fun r13 u t H1 locs ht hvm hw hB hz1 hk1 hS => ?_)
    obtain ⟨glm_14, rom_15, hel_16, nw_17, nx_18⟩ := u
    obtain ⟨q19, q20, hP1, -, hD1⟩ := hB
    have hw := And.intro hw trivial
    try dsimp only at hw
    have hw := hw.1
    rw [ht] at hP1
    obtain ⟨hP, hD⟩ := va_join (wr := [(aS, .inl (cI, 34, .inl se)), (aZ, .inl (cZ, 4, .inl op)), (aO, .inl (cI, 4, .inl so_11)), (aK, .inl (cI, 4, .inl ki_12))]) (w1 := [(x, .inr (1, [.ref aH, .ref aL, .ref aS, .ref aO, .ref aK, .ref aZ, .ref cv, .int tcn_9, .int mcn, .int swd, .int rwd, .int bpt, .int flm])), (aH, .inl (cI, 34, .inl hd_10)), (aL, .inl (cI, 34, .inl la)), (cv, .inr (0, [.ref q19, .ref q20, .int glm_14, .int rom_15, .int hel_16])), (q19, .inl (cI, 90, .inl nw_17)), (q20, .inl (cI, 90, .inl nx_18))]) hP hD [5, 6, 7, 2, 3, 4] [0, 1, 8, 9] rfl rfl (by decide) (by decide) hk1 hFc hP1 hD1
    generalize H1 = H at hP hS ⊢
    have hP : va_P (dC, dI) vwCl [(aS, .inl (cI, 34, .inl se)), (aZ, .inl (cZ, 4, .inl op)), (aO, .inl (cI, 4, .inl so_11)), (aK, .inl (cI, 4, .inl ki_12)), (x, .inr (1, [.ref aH, .ref aL, .ref aS, .ref aO, .ref aK, .ref aZ, .ref cv, .int tcn_9, .int mcn, .int swd, .int rwd, .int bpt, .int flm])), (aH, .inl (cI, 34, .inl hd_10)), (aL, .inl (cI, 34, .inl la)), (cv, .inr (0, [.ref q19, .ref q20, .int glm_14, .int rom_15, .int hel_16])), (q19, .inl (cI, 90, .inl nw_17)), (q20, .inl (cI, 90, .inl nx_18))] H := hP
    have hD : va_D A [(aS, .inl (cI, 34, .inl se)), (aZ, .inl (cZ, 4, .inl op)), (aO, .inl (cI, 4, .inl so_11)), (aK, .inl (cI, 4, .inl ki_12)), (x, .inr (1, [.ref aH, .ref aL, .ref aS, .ref aO, .ref aK, .ref aZ, .ref cv, .int tcn_9, .int mcn, .int swd, .int rwd, .int bpt, .int flm])), (aH, .inl (cI, 34, .inl hd_10)), (aL, .inl (cI, 34, .inl la)), (cv, .inr (0, [.ref q19, .ref q20, .int glm_14, .int rom_15, .int hel_16])), (q19, .inl (cI, 90, .inl nw_17)), (q20, .inl (cI, 90, .inl nx_18))] := hD
    refine lv_i2l (v := r13.toInt64) hx hb dX1_digest_177 rfl ?_
    refine lv_ladd hx hb dX1_digest_178 ?_
    have hP9 := hP.sub (ws' := [(x, .inr (1, [.ref aH, .ref aL, .ref aS, .ref aO, .ref aK, .ref aZ, .ref cv, .int tcn_9, .int mcn, .int swd, .int rwd, .int bpt, .int flm])), (aH, .inl (cI, 34, .inl hd_10)), (aL, .inl (cI, 34, .inl la)), (aS, .inl (cI, 34, .inl se)), (aO, .inl (cI, 4, .inl so_11)), (aK, .inl (cI, 4, .inl ki_12)), (aZ, .inl (cZ, 4, .inl op)), (cv, .inr (0, [.ref q19, .ref q20, .int glm_14, .int rom_15, .int hel_16])), (q19, .inl (cI, 90, .inl nw_17)), (q20, .inl (cI, 90, .inl nx_18))]) [4, 5, 6, 0, 2, 3, 1, 7, 8, 9] rfl
    have hD9 := hD.sub (ws' := [(x, .inr (1, [.ref aH, .ref aL, .ref aS, .ref aO, .ref aK, .ref aZ, .ref cv, .int tcn_9, .int mcn, .int swd, .int rwd, .int bpt, .int flm])), (aH, .inl (cI, 34, .inl hd_10)), (aL, .inl (cI, 34, .inl la)), (aS, .inl (cI, 34, .inl se)), (aO, .inl (cI, 4, .inl so_11)), (aK, .inl (cI, 4, .inl ki_12)), (aZ, .inl (cZ, 4, .inl op)), (cv, .inr (0, [.ref q19, .ref q20, .int glm_14, .int rom_15, .int hel_16])), (q19, .inl (cI, 90, .inl nw_17)), (q20, .inl (cI, 90, .inl nx_18))]) [4, 5, 6, 0, 2, 3, 1, 7, 8, 9] (by decide) rfl
    rw [← hQ9]
    exact W.lret (v := (((t7 * (31 : Int64)) + r8) * (31 : Int64)) + r13.toInt64) hx hb hr (fun t ht hW => ⟨⟨(((t7 * (31 : Int64)) + r8) * (31 : Int64)) + r13.toInt64, (tcn_9, hd_10, so_11, ki_12, glm_14, rom_15, hel_16, nw_17, nx_18), rfl, hw, q19, q20, by rw [ht]; exact hP9, va_K.moved hW.alike hK, hD9⟩, hS.F ht⟩) hS.2.2 dX1_digest_179
  have L103 : ∀ (K60 : Int64 → Int32 → Int32 → (Nat → Int32) → (Nat → Int32) → (Nat → Int32) → Int32 → Int32 → Int32 → (Nat → Int32) → (Nat → Int32) → Prop) (hK60 : ∀ (v1 : Int64) (v3 : Int32) (tcn : Int32) (hd : (Nat → Int32)) (so : (Nat → Int32)) (ki : (Nat → Int32)) (glm : Int32) (rom : Int32) (hel : Int32) (nw : (Nat → Int32)) (nx : (Nat → Int32)) (aN aX : Nat) (H : Heap) (locs : List Loc) (ls : Array Slot), K60 v1 v3 tcn hd so ki glm rom hel nw nx → va_P (dC, dI) vwCl [(x, .inr (1, [.ref aH, .ref aL, .ref aS, .ref aO, .ref aK, .ref aZ, .ref cv, .int tcn, .int mcn, .int swd, .int rwd, .int bpt, .int flm])), (aH, .inl (cI, 34, .inl hd)), (aL, .inl (cI, 34, .inl la)), (aS, .inl (cI, 34, .inl se)), (aO, .inl (cI, 4, .inl so)), (aK, .inl (cI, 4, .inl ki)), (aZ, .inl (cZ, 4, .inl op)), (cv, .inr (0, [.ref aN, .ref aX, .int glm, .int rom, .int hel])), (aN, .inl (cI, 90, .inl nw)), (aX, .inl (cI, 90, .inl nx))] H → va_D A [(x, .inr (1, [.ref aH, .ref aL, .ref aS, .ref aO, .ref aK, .ref aZ, .ref cv, .int tcn, .int mcn, .int swd, .int rwd, .int bpt, .int flm])), (aH, .inl (cI, 34, .inl hd)), (aL, .inl (cI, 34, .inl la)), (aS, .inl (cI, 34, .inl se)), (aO, .inl (cI, 4, .inl so)), (aK, .inl (cI, 4, .inl ki)), (aZ, .inl (cZ, 4, .inl op)), (cv, .inr (0, [.ref aN, .ref aX, .int glm, .int rom, .int hel])), (aN, .inl (cI, 90, .inl nw)), (aX, .inl (cI, 90, .inl nx))] → va_S A s.heap H locs → lv_has ls 5 [(0, .ref x), (1, .long v1), (3, .int v3)] → W p l e ({ frames := 19, cells := 0, slots := 0, locals := 442 } : Room) s m ([.ref x] : List Value).toArray below meth c H locs 0 0 Q9 (F0 m 60 ls [])), ∀ (v1 : Int64) (v3 : Int32) (tcn : Int32) (hd : (Nat → Int32)) (so : (Nat → Int32)) (ki : (Nat → Int32)) (glm : Int32) (rom : Int32) (hel : Int32) (nw : (Nat → Int32)) (nx : (Nat → Int32)) (aN aX : Nat) (H : Heap) (locs : List Loc) (ls : Array Slot), w_X1_digest_b103 post mcn swd rwd bpt flm la se op K60 v1 v3 tcn hd so ki glm rom hel nw nx → va_P (dC, dI) vwCl [(x, .inr (1, [.ref aH, .ref aL, .ref aS, .ref aO, .ref aK, .ref aZ, .ref cv, .int tcn, .int mcn, .int swd, .int rwd, .int bpt, .int flm])), (aH, .inl (cI, 34, .inl hd)), (aL, .inl (cI, 34, .inl la)), (aS, .inl (cI, 34, .inl se)), (aO, .inl (cI, 4, .inl so)), (aK, .inl (cI, 4, .inl ki)), (aZ, .inl (cZ, 4, .inl op)), (cv, .inr (0, [.ref aN, .ref aX, .int glm, .int rom, .int hel])), (aN, .inl (cI, 90, .inl nw)), (aX, .inl (cI, 90, .inl nx))] H → va_D A [(x, .inr (1, [.ref aH, .ref aL, .ref aS, .ref aO, .ref aK, .ref aZ, .ref cv, .int tcn, .int mcn, .int swd, .int rwd, .int bpt, .int flm])), (aH, .inl (cI, 34, .inl hd)), (aL, .inl (cI, 34, .inl la)), (aS, .inl (cI, 34, .inl se)), (aO, .inl (cI, 4, .inl so)), (aK, .inl (cI, 4, .inl ki)), (aZ, .inl (cZ, 4, .inl op)), (cv, .inr (0, [.ref aN, .ref aX, .int glm, .int rom, .int hel])), (aN, .inl (cI, 90, .inl nw)), (aX, .inl (cI, 90, .inl nx))] → va_S A s.heap H locs → lv_has ls 5 [(0, .ref x), (1, .long v1), (3, .int v3)] → W p l e ({ frames := 19, cells := 0, slots := 0, locals := 442 } : Room) s m ([.ref x] : List Value).toArray below meth c H locs 0 0 Q9 (F0 m 103 ls []) := by
    intro K60 hK60 v1 v3 tcn hd so ki glm rom hel nw nx aN aX H locs ls hw hP hD hS hl
    refine lv_iinc (v := v3 + 1) (lv' := [(3, .int (v3 + 1)), (0, .ref x), (1, .long v1)]) hx hb dX1_digest_103 hl (k := 2) rfl rfl (by decide) rfl (fun ls hl => ?_)
    refine lv_goto (tgt := 60) hx hb dX1_digest_106 (by decide) ?_
    exact hK60 v1 (v3 + 1) tcn hd so ki glm rom hel nw nx aN aX _ _ _ hw hP hD hS (lv_sub hl [1, 2, 0] rfl)
  have L76 : ∀ (K60 : Int64 → Int32 → Int32 → (Nat → Int32) → (Nat → Int32) → (Nat → Int32) → Int32 → Int32 → Int32 → (Nat → Int32) → (Nat → Int32) → Prop) (hK60 : ∀ (v1 : Int64) (v3 : Int32) (tcn : Int32) (hd : (Nat → Int32)) (so : (Nat → Int32)) (ki : (Nat → Int32)) (glm : Int32) (rom : Int32) (hel : Int32) (nw : (Nat → Int32)) (nx : (Nat → Int32)) (aN aX : Nat) (H : Heap) (locs : List Loc) (ls : Array Slot), K60 v1 v3 tcn hd so ki glm rom hel nw nx → va_P (dC, dI) vwCl [(x, .inr (1, [.ref aH, .ref aL, .ref aS, .ref aO, .ref aK, .ref aZ, .ref cv, .int tcn, .int mcn, .int swd, .int rwd, .int bpt, .int flm])), (aH, .inl (cI, 34, .inl hd)), (aL, .inl (cI, 34, .inl la)), (aS, .inl (cI, 34, .inl se)), (aO, .inl (cI, 4, .inl so)), (aK, .inl (cI, 4, .inl ki)), (aZ, .inl (cZ, 4, .inl op)), (cv, .inr (0, [.ref aN, .ref aX, .int glm, .int rom, .int hel])), (aN, .inl (cI, 90, .inl nw)), (aX, .inl (cI, 90, .inl nx))] H → va_D A [(x, .inr (1, [.ref aH, .ref aL, .ref aS, .ref aO, .ref aK, .ref aZ, .ref cv, .int tcn, .int mcn, .int swd, .int rwd, .int bpt, .int flm])), (aH, .inl (cI, 34, .inl hd)), (aL, .inl (cI, 34, .inl la)), (aS, .inl (cI, 34, .inl se)), (aO, .inl (cI, 4, .inl so)), (aK, .inl (cI, 4, .inl ki)), (aZ, .inl (cZ, 4, .inl op)), (cv, .inr (0, [.ref aN, .ref aX, .int glm, .int rom, .int hel])), (aN, .inl (cI, 90, .inl nw)), (aX, .inl (cI, 90, .inl nx))] → va_S A s.heap H locs → lv_has ls 5 [(0, .ref x), (1, .long v1), (3, .int v3)] → W p l e ({ frames := 19, cells := 0, slots := 0, locals := 442 } : Room) s m ([.ref x] : List Value).toArray below meth c H locs 0 0 Q9 (F0 m 60 ls [])), ∀ (n : Nat), ∀ (v1 : Int64) (v3 : Int32) (v4 : Int32) (tcn : Int32) (hd : (Nat → Int32)) (so : (Nat → Int32)) (ki : (Nat → Int32)) (glm : Int32) (rom : Int32) (hel : Int32) (nw : (Nat → Int32)) (nx : (Nat → Int32)) (aN aX : Nat) (H : Heap) (locs : List Loc) (ls : Array Slot), w_X1_digest_b76 post mcn swd rwd bpt flm la se op K60 n v1 v3 v4 tcn hd so ki glm rom hel nw nx → va_P (dC, dI) vwCl [(x, .inr (1, [.ref aH, .ref aL, .ref aS, .ref aO, .ref aK, .ref aZ, .ref cv, .int tcn, .int mcn, .int swd, .int rwd, .int bpt, .int flm])), (aH, .inl (cI, 34, .inl hd)), (aL, .inl (cI, 34, .inl la)), (aS, .inl (cI, 34, .inl se)), (aO, .inl (cI, 4, .inl so)), (aK, .inl (cI, 4, .inl ki)), (aZ, .inl (cZ, 4, .inl op)), (cv, .inr (0, [.ref aN, .ref aX, .int glm, .int rom, .int hel])), (aN, .inl (cI, 90, .inl nw)), (aX, .inl (cI, 90, .inl nx))] H → va_D A [(x, .inr (1, [.ref aH, .ref aL, .ref aS, .ref aO, .ref aK, .ref aZ, .ref cv, .int tcn, .int mcn, .int swd, .int rwd, .int bpt, .int flm])), (aH, .inl (cI, 34, .inl hd)), (aL, .inl (cI, 34, .inl la)), (aS, .inl (cI, 34, .inl se)), (aO, .inl (cI, 4, .inl so)), (aK, .inl (cI, 4, .inl ki)), (aZ, .inl (cZ, 4, .inl op)), (cv, .inr (0, [.ref aN, .ref aX, .int glm, .int rom, .int hel])), (aN, .inl (cI, 90, .inl nw)), (aX, .inl (cI, 90, .inl nx))] → va_S A s.heap H locs → lv_has ls 5 [(0, .ref x), (1, .long v1), (3, .int v3), (4, .int v4)] → W p l e ({ frames := 19, cells := 0, slots := 0, locals := 442 } : Room) s m ([.ref x] : List Value).toArray below meth c H locs 0 0 Q9 (F0 m 76 ls []) := by
    intro K60 hK60 n
    induction n with
    | zero => intro v1 v3 v4 tcn hd so ki glm rom hel nw nx aN aX H locs ls hw _ _ _ _; exact False.elim hw
    | succ n ih =>
      intro v1 v3 v4 tcn hd so ki glm rom hel nw nx aN aX H locs ls hw hP hD hS hl
      refine lv_iload hx hb dX1_digest_76 (lv_at hl 3 rfl) ?_
      refine lv_iconst (v := 2) hx hb dX1_digest_78 (by decide) ?_
      refine lv_icmp_gt (tgt := 103) hx hb dX1_digest_79 (by decide) (fun c22 => ?_) (fun c22 => ?_)
      · have hw := hw.1 c22
        exact L103 K60 hK60 v1 v3 tcn hd so ki glm rom hel nw nx aN aX _ _ _ hw hP hD hS (lv_sub hl [0, 1, 2] rfl)
      · have hw := hw.2 c22
        refine lv_lload_n hx hb dX1_digest_82 rfl (lv_at hl 1 rfl) ?_
        refine lv_ldc2 (v := 31) hx hb hown (hts (.constantLong RX1 177 31) (by decide +kernel)) dX1_digest_83 ?_
        refine lv_lmul hx hb dX1_digest_86 ?_
        refine lv_aload_n hx hb dX1_digest_87 rfl (lv_at hl 0 rfl) ?_
        refine lv_iload_n hx hb dX1_digest_88 rfl (lv_at hl 2 rfl) ?_
        refine lv_iload hx hb dX1_digest_89 (lv_at hl 3 rfl) ?_
        have hPc := hP.sub (ws' := [(x, .inr (1, [.ref aH, .ref aL, .ref aS, .ref aO, .ref aK, .ref aZ, .ref cv, .int tcn, .int mcn, .int swd, .int rwd, .int bpt, .int flm])), (aO, .inl (cI, 4, .inl so)), (aK, .inl (cI, 4, .inl ki)), (aZ, .inl (cZ, 4, .inl op))]) [0, 4, 5, 6] rfl
        have hDc := hD.sub (ws' := [(x, .inr (1, [.ref aH, .ref aL, .ref aS, .ref aO, .ref aK, .ref aZ, .ref cv, .int tcn, .int mcn, .int swd, .int rwd, .int bpt, .int flm])), (aO, .inl (cI, 4, .inl so)), (aK, .inl (cI, 4, .inl ki)), (aZ, .inl (cZ, 4, .inl op))]) [0, 4, 5, 6] (by decide) rfl
        have hFc := va_free (wc := [(x, .inr (1, [.ref aH, .ref aL, .ref aS, .ref aO, .ref aK, .ref aZ, .ref cv, .int tcn, .int mcn, .int swd, .int rwd, .int bpt, .int flm])), (aO, .inl (cI, 4, .inl so)), (aK, .inl (cI, 4, .inl ki)), (aZ, .inl (cZ, 4, .inl op))]) hD hS hA [0, 4, 5, 6] rfl
        refine va_calli (va_runV (As := [.int v3, .int v4]) (rest := [.long (v1 * (31 : Int64))]) ⟨hx, hb, hml, hown, hts⟩ (c_X1_tellMeld l dC dI cI cZ x aH aL aS aO aK aZ cv H.size tcn mcn swd rwd bpt flm so ki op v3 v4 _ hw) (cwV 2 hts gX1_digest_X1_tellMeld rfl rfl rfl (by decide +kernel) ⟨Nat.le_of_ble_eq_true rfl, Nat.le_of_ble_eq_true rfl⟩) ⟨fun a U g mk q => by obtain ⟨q0, q1, qP, qK, qD⟩ := q; exact ⟨q0, q1, qP, va_K.moved (u := U) (U := U.calling g mk a) (Vm.Alike.refl U.vm) qK, qD⟩, va_recv hK hPc (ci := 1) (q0 := 0) rfl rfl, fun U hU hW => ⟨rfl, by rw [hU], by rw [hU]; exact hPc, va_K.moved hW.alike hK, hDc.weaken (fun _ _ _ _ => trivial)⟩⟩ rfl rfl hl.1 rfl (lv_room (Nat.le_of_ble_eq_true rfl)) dX1_digest_91 ⟨Nat.le_of_ble_eq_true rfl, Nat.le_of_ble_eq_true rfl⟩) hS (fun q _ h => hFc q h) hFc (fun r23 u t H1 locs ht hvm hw hB hz1 hk1 hS => ?_)
        obtain ⟨hP1, -, hD1⟩ := hB
        have hw := And.intro hw trivial
        try dsimp only at hw
        have hw := hw.1
        rw [ht] at hP1
        obtain ⟨hP, hD⟩ := va_join (wr := [(aH, .inl (cI, 34, .inl hd)), (aL, .inl (cI, 34, .inl la)), (aS, .inl (cI, 34, .inl se)), (cv, .inr (0, [.ref aN, .ref aX, .int glm, .int rom, .int hel])), (aN, .inl (cI, 90, .inl nw)), (aX, .inl (cI, 90, .inl nx))]) (w1 := [(x, .inr (1, [.ref aH, .ref aL, .ref aS, .ref aO, .ref aK, .ref aZ, .ref cv, .int tcn, .int mcn, .int swd, .int rwd, .int bpt, .int flm])), (aO, .inl (cI, 4, .inl so)), (aK, .inl (cI, 4, .inl ki)), (aZ, .inl (cZ, 4, .inl op))]) hP hD [0, 4, 5, 6] [1, 2, 3, 7, 8, 9] rfl rfl (by decide) (by decide) hk1 hFc hP1 hD1
        generalize H1 = H at hP hS ⊢
        have hP : va_P (dC, dI) vwCl [(aH, .inl (cI, 34, .inl hd)), (aL, .inl (cI, 34, .inl la)), (aS, .inl (cI, 34, .inl se)), (cv, .inr (0, [.ref aN, .ref aX, .int glm, .int rom, .int hel])), (aN, .inl (cI, 90, .inl nw)), (aX, .inl (cI, 90, .inl nx)), (x, .inr (1, [.ref aH, .ref aL, .ref aS, .ref aO, .ref aK, .ref aZ, .ref cv, .int tcn, .int mcn, .int swd, .int rwd, .int bpt, .int flm])), (aO, .inl (cI, 4, .inl so)), (aK, .inl (cI, 4, .inl ki)), (aZ, .inl (cZ, 4, .inl op))] H := hP
        have hD : va_D A [(aH, .inl (cI, 34, .inl hd)), (aL, .inl (cI, 34, .inl la)), (aS, .inl (cI, 34, .inl se)), (cv, .inr (0, [.ref aN, .ref aX, .int glm, .int rom, .int hel])), (aN, .inl (cI, 90, .inl nw)), (aX, .inl (cI, 90, .inl nx)), (x, .inr (1, [.ref aH, .ref aL, .ref aS, .ref aO, .ref aK, .ref aZ, .ref cv, .int tcn, .int mcn, .int swd, .int rwd, .int bpt, .int flm])), (aO, .inl (cI, 4, .inl so)), (aK, .inl (cI, 4, .inl ki)), (aZ, .inl (cZ, 4, .inl op))] := hD
        refine lv_i2l (v := r23.toInt64) hx hb dX1_digest_94 rfl ?_
        refine lv_ladd hx hb dX1_digest_95 ?_
        refine lv_topl (fun t24 et24 => ?_)
        have hw := hw t24 et24
        refine lv_lstore_n (lv' := [(1, .long t24), (0, .ref x), (3, .int v3), (4, .int v4)]) hx hb dX1_digest_96 rfl hl (by decide) rfl (fun ls hl => ?_)
        refine lv_iinc (v := v4 + 1) (lv' := [(4, .int (v4 + 1)), (1, .long t24), (0, .ref x), (3, .int v3)]) hx hb dX1_digest_97 hl (k := 3) rfl rfl (by decide) rfl (fun ls hl => ?_)
        refine lv_goto (tgt := 76) hx hb dX1_digest_100 (by decide) ?_
        have hP9 := hP.sub (ws' := [(x, .inr (1, [.ref aH, .ref aL, .ref aS, .ref aO, .ref aK, .ref aZ, .ref cv, .int tcn, .int mcn, .int swd, .int rwd, .int bpt, .int flm])), (aH, .inl (cI, 34, .inl hd)), (aL, .inl (cI, 34, .inl la)), (aS, .inl (cI, 34, .inl se)), (aO, .inl (cI, 4, .inl so)), (aK, .inl (cI, 4, .inl ki)), (aZ, .inl (cZ, 4, .inl op)), (cv, .inr (0, [.ref aN, .ref aX, .int glm, .int rom, .int hel])), (aN, .inl (cI, 90, .inl nw)), (aX, .inl (cI, 90, .inl nx))]) [6, 0, 1, 2, 7, 8, 9, 3, 4, 5] rfl
        have hD9 := hD.sub (ws' := [(x, .inr (1, [.ref aH, .ref aL, .ref aS, .ref aO, .ref aK, .ref aZ, .ref cv, .int tcn, .int mcn, .int swd, .int rwd, .int bpt, .int flm])), (aH, .inl (cI, 34, .inl hd)), (aL, .inl (cI, 34, .inl la)), (aS, .inl (cI, 34, .inl se)), (aO, .inl (cI, 4, .inl so)), (aK, .inl (cI, 4, .inl ki)), (aZ, .inl (cZ, 4, .inl op)), (cv, .inr (0, [.ref aN, .ref aX, .int glm, .int rom, .int hel])), (aN, .inl (cI, 90, .inl nw)), (aX, .inl (cI, 90, .inl nx))]) [6, 0, 1, 2, 7, 8, 9, 3, 4, 5] (by decide) rfl
        exact ih t24 v3 (v4 + 1) tcn hd so ki glm rom hel nw nx aN aX _ _ _ hw hP9 hD9 hS (lv_sub hl [2, 1, 3, 0] rfl)
  have L60 : ∀ (n : Nat), ∀ (v1 : Int64) (v3 : Int32) (tcn : Int32) (hd : (Nat → Int32)) (so : (Nat → Int32)) (ki : (Nat → Int32)) (glm : Int32) (rom : Int32) (hel : Int32) (nw : (Nat → Int32)) (nx : (Nat → Int32)) (aN aX : Nat) (H : Heap) (locs : List Loc) (ls : Array Slot), w_X1_digest_b60 post mcn swd rwd bpt flm la se op n v1 v3 tcn hd so ki glm rom hel nw nx → va_P (dC, dI) vwCl [(x, .inr (1, [.ref aH, .ref aL, .ref aS, .ref aO, .ref aK, .ref aZ, .ref cv, .int tcn, .int mcn, .int swd, .int rwd, .int bpt, .int flm])), (aH, .inl (cI, 34, .inl hd)), (aL, .inl (cI, 34, .inl la)), (aS, .inl (cI, 34, .inl se)), (aO, .inl (cI, 4, .inl so)), (aK, .inl (cI, 4, .inl ki)), (aZ, .inl (cZ, 4, .inl op)), (cv, .inr (0, [.ref aN, .ref aX, .int glm, .int rom, .int hel])), (aN, .inl (cI, 90, .inl nw)), (aX, .inl (cI, 90, .inl nx))] H → va_D A [(x, .inr (1, [.ref aH, .ref aL, .ref aS, .ref aO, .ref aK, .ref aZ, .ref cv, .int tcn, .int mcn, .int swd, .int rwd, .int bpt, .int flm])), (aH, .inl (cI, 34, .inl hd)), (aL, .inl (cI, 34, .inl la)), (aS, .inl (cI, 34, .inl se)), (aO, .inl (cI, 4, .inl so)), (aK, .inl (cI, 4, .inl ki)), (aZ, .inl (cZ, 4, .inl op)), (cv, .inr (0, [.ref aN, .ref aX, .int glm, .int rom, .int hel])), (aN, .inl (cI, 90, .inl nw)), (aX, .inl (cI, 90, .inl nx))] → va_S A s.heap H locs → lv_has ls 5 [(0, .ref x), (1, .long v1), (3, .int v3)] → W p l e ({ frames := 19, cells := 0, slots := 0, locals := 442 } : Room) s m ([.ref x] : List Value).toArray below meth c H locs 0 0 Q9 (F0 m 60 ls []) := by
    intro n
    induction n with
    | zero => intro v1 v3 tcn hd so ki glm rom hel nw nx aN aX H locs ls hw _ _ _ _; exact False.elim hw
    | succ n ih =>
      intro v1 v3 tcn hd so ki glm rom hel nw nx aN aX H locs ls hw hP hD hS hl
      refine lv_iload_n hx hb dX1_digest_60 rfl (lv_at hl 2 rfl) ?_
      refine lv_aload_n hx hb dX1_digest_61 rfl (lv_at hl 0 rfl) ?_
      refine va_get (D := (dC, dI)) (ci := 1) (v := .int mcn) (C := RX1) (T := TX1) (N := 13) hx hb hts hinX1 hown hK hP 0 rfl rfl 8 (by decide) (hts (.fieldLink RX1 89 "TileHand" "meldCount" "I") (by decide +kernel)) (fun _ h9 => h9) rfl dX1_digest_62 ?_
      refine lv_icmp_ge (tgt := 109) hx hb dX1_digest_65 (by decide) (fun c3 => ?_) (fun c3 => ?_)
      · have hw := hw.1 c3
        exact L109 v1 tcn hd so ki glm rom hel nw nx aN aX _ _ _ hw hP hD hS (lv_sub hl [0, 1] rfl)
      · have hw := hw.2 c3
        refine lv_iload_n hx hb dX1_digest_68 rfl (lv_at hl 2 rfl) ?_
        refine lv_iconst (v := 4) hx hb dX1_digest_69 (by decide) ?_
        refine lv_icmp_ge (tgt := 109) hx hb dX1_digest_70 (by decide) (fun c21 => ?_) (fun c21 => ?_)
        · have hw := hw.1 c21
          exact L109 v1 tcn hd so ki glm rom hel nw nx aN aX _ _ _ hw hP hD hS (lv_sub hl [0, 1] rfl)
        · have hw := hw.2 c21
          refine lv_iconst (v := 0) hx hb dX1_digest_73 (by decide) ?_
          refine lv_istore (lv' := [(4, .int (0 : Int32)), (0, .ref x), (1, .long v1), (3, .int v3)]) hx hb dX1_digest_74 hl (by decide) rfl (fun ls hl => ?_)
          obtain ⟨n9, hw⟩ := hw
          exact L76 (w_X1_digest_b60 post mcn swd rwd bpt flm la se op n) ih n9 v1 v3 (0 : Int32) tcn hd so ki glm rom hel nw nx aN aX _ _ _ hw hP hD hS (lv_sub hl [1, 2, 3, 0] rfl)
  have L46 : ∀ (v1 : Int64) (tcn : Int32) (hd : (Nat → Int32)) (so : (Nat → Int32)) (ki : (Nat → Int32)) (glm : Int32) (rom : Int32) (hel : Int32) (nw : (Nat → Int32)) (nx : (Nat → Int32)) (aN aX : Nat) (H : Heap) (locs : List Loc) (ls : Array Slot), w_X1_digest_b46 post mcn swd rwd bpt flm la se op v1 tcn hd so ki glm rom hel nw nx → va_P (dC, dI) vwCl [(x, .inr (1, [.ref aH, .ref aL, .ref aS, .ref aO, .ref aK, .ref aZ, .ref cv, .int tcn, .int mcn, .int swd, .int rwd, .int bpt, .int flm])), (aH, .inl (cI, 34, .inl hd)), (aL, .inl (cI, 34, .inl la)), (aS, .inl (cI, 34, .inl se)), (aO, .inl (cI, 4, .inl so)), (aK, .inl (cI, 4, .inl ki)), (aZ, .inl (cZ, 4, .inl op)), (cv, .inr (0, [.ref aN, .ref aX, .int glm, .int rom, .int hel])), (aN, .inl (cI, 90, .inl nw)), (aX, .inl (cI, 90, .inl nx))] H → va_D A [(x, .inr (1, [.ref aH, .ref aL, .ref aS, .ref aO, .ref aK, .ref aZ, .ref cv, .int tcn, .int mcn, .int swd, .int rwd, .int bpt, .int flm])), (aH, .inl (cI, 34, .inl hd)), (aL, .inl (cI, 34, .inl la)), (aS, .inl (cI, 34, .inl se)), (aO, .inl (cI, 4, .inl so)), (aK, .inl (cI, 4, .inl ki)), (aZ, .inl (cZ, 4, .inl op)), (cv, .inr (0, [.ref aN, .ref aX, .int glm, .int rom, .int hel])), (aN, .inl (cI, 90, .inl nw)), (aX, .inl (cI, 90, .inl nx))] → va_S A s.heap H locs → lv_has ls 5 [(0, .ref x), (1, .long v1)] → W p l e ({ frames := 19, cells := 0, slots := 0, locals := 442 } : Room) s m ([.ref x] : List Value).toArray below meth c H locs 0 0 Q9 (F0 m 46 ls []) := by
    intro v1 tcn hd so ki glm rom hel nw nx aN aX H locs ls hw hP hD hS hl
    refine lv_lload_n hx hb dX1_digest_46 rfl (lv_at hl 1 rfl) ?_
    refine lv_ldc2 (v := 31) hx hb hown (hts (.constantLong RX1 177 31) (by decide +kernel)) dX1_digest_47 ?_
    refine lv_lmul hx hb dX1_digest_50 ?_
    refine lv_aload_n hx hb dX1_digest_51 rfl (lv_at hl 0 rfl) ?_
    refine va_get (D := (dC, dI)) (ci := 1) (v := .int mcn) (C := RX1) (T := TX1) (N := 13) hx hb hts hinX1 hown hK hP 0 rfl rfl 8 (by decide) (hts (.fieldLink RX1 89 "TileHand" "meldCount" "I") (by decide +kernel)) (fun _ h9 => h9) rfl dX1_digest_52 ?_
    refine lv_i2l (v := mcn.toInt64) hx hb dX1_digest_55 rfl ?_
    refine lv_ladd hx hb dX1_digest_56 ?_
    refine lv_topl (fun t2 et2 => ?_)
    have hw := hw t2 et2
    refine lv_lstore_n (lv' := [(1, .long t2), (0, .ref x)]) hx hb dX1_digest_57 rfl hl (by decide) rfl (fun ls hl => ?_)
    refine lv_iconst (v := 0) hx hb dX1_digest_58 (by decide) ?_
    refine lv_istore_n (lv' := [(3, .int (0 : Int32)), (1, .long t2), (0, .ref x)]) hx hb dX1_digest_59 rfl hl (by decide) rfl (fun ls hl => ?_)
    obtain ⟨n9, hw⟩ := hw
    exact L60 n9 t2 (0 : Int32) tcn hd so ki glm rom hel nw nx aN aX _ _ _ hw hP hD hS (lv_sub hl [2, 1, 0] rfl)
  have L6 : ∀ (n : Nat), ∀ (v1 : Int64) (v3 : Int32) (tcn : Int32) (hd : (Nat → Int32)) (so : (Nat → Int32)) (ki : (Nat → Int32)) (glm : Int32) (rom : Int32) (hel : Int32) (nw : (Nat → Int32)) (nx : (Nat → Int32)) (aN aX : Nat) (H : Heap) (locs : List Loc) (ls : Array Slot), w_X1_digest_b6 post mcn swd rwd bpt flm la se op n v1 v3 tcn hd so ki glm rom hel nw nx → va_P (dC, dI) vwCl [(x, .inr (1, [.ref aH, .ref aL, .ref aS, .ref aO, .ref aK, .ref aZ, .ref cv, .int tcn, .int mcn, .int swd, .int rwd, .int bpt, .int flm])), (aH, .inl (cI, 34, .inl hd)), (aL, .inl (cI, 34, .inl la)), (aS, .inl (cI, 34, .inl se)), (aO, .inl (cI, 4, .inl so)), (aK, .inl (cI, 4, .inl ki)), (aZ, .inl (cZ, 4, .inl op)), (cv, .inr (0, [.ref aN, .ref aX, .int glm, .int rom, .int hel])), (aN, .inl (cI, 90, .inl nw)), (aX, .inl (cI, 90, .inl nx))] H → va_D A [(x, .inr (1, [.ref aH, .ref aL, .ref aS, .ref aO, .ref aK, .ref aZ, .ref cv, .int tcn, .int mcn, .int swd, .int rwd, .int bpt, .int flm])), (aH, .inl (cI, 34, .inl hd)), (aL, .inl (cI, 34, .inl la)), (aS, .inl (cI, 34, .inl se)), (aO, .inl (cI, 4, .inl so)), (aK, .inl (cI, 4, .inl ki)), (aZ, .inl (cZ, 4, .inl op)), (cv, .inr (0, [.ref aN, .ref aX, .int glm, .int rom, .int hel])), (aN, .inl (cI, 90, .inl nw)), (aX, .inl (cI, 90, .inl nx))] → va_S A s.heap H locs → lv_has ls 5 [(0, .ref x), (1, .long v1), (3, .int v3)] → W p l e ({ frames := 19, cells := 0, slots := 0, locals := 442 } : Room) s m ([.ref x] : List Value).toArray below meth c H locs 0 0 Q9 (F0 m 6 ls []) := by
    intro n
    induction n with
    | zero => intro v1 v3 tcn hd so ki glm rom hel nw nx aN aX H locs ls hw _ _ _ _; exact False.elim hw
    | succ n ih =>
      intro v1 v3 tcn hd so ki glm rom hel nw nx aN aX H locs ls hw hP hD hS hl
      refine lv_iload_n hx hb dX1_digest_6 rfl (lv_at hl 2 rfl) ?_
      refine lv_bipush (v := 34) hx hb dX1_digest_7 (by decide) ?_
      refine lv_icmp_ge (tgt := 46) hx hb dX1_digest_9 (by decide) (fun c1 => ?_) (fun c1 => ?_)
      · have hw := hw.1 c1
        exact L46 v1 tcn hd so ki glm rom hel nw nx aN aX _ _ _ hw hP hD hS (lv_sub hl [0, 1] rfl)
      · have hw := hw.2 c1
        refine lv_lload_n hx hb dX1_digest_12 rfl (lv_at hl 1 rfl) ?_
        refine lv_ldc2 (v := 31) hx hb hown (hts (.constantLong RX1 177 31) (by decide +kernel)) dX1_digest_13 ?_
        refine lv_lmul hx hb dX1_digest_16 ?_
        refine lv_aload_n hx hb dX1_digest_17 rfl (lv_at hl 0 rfl) ?_
        refine va_get (D := (dC, dI)) (ci := 1) (v := .ref aH) (C := RX1) (T := TX1) (N := 13) hx hb hts hinX1 hown hK hP 0 rfl rfl 0 (by decide) (hts (.fieldLink RX1 9 "TileHand" "hand" "[I") (by decide +kernel)) (fun _ h9 => h9) rfl dX1_digest_18 ?_
        refine lv_iload_n hx hb dX1_digest_21 rfl (lv_at hl 2 rfl) ?_
        obtain ⟨h25, hw⟩ := hw
        refine va_iald hx hb hK hP 1 0 rfl rfl h25 dX1_digest_22 ?_
        refine lv_i2l (v := (hd v3.toNatClampNeg).toInt64) hx hb dX1_digest_23 rfl ?_
        refine lv_ladd hx hb dX1_digest_24 ?_
        refine lv_topl (fun t26 et26 => ?_)
        have hw := hw t26 et26
        refine lv_lstore_n (lv' := [(1, .long t26), (0, .ref x), (3, .int v3)]) hx hb dX1_digest_25 rfl hl (by decide) rfl (fun ls hl => ?_)
        refine lv_lload_n hx hb dX1_digest_26 rfl (lv_at hl 0 rfl) ?_
        refine lv_ldc2 (v := 31) hx hb hown (hts (.constantLong RX1 177 31) (by decide +kernel)) dX1_digest_27 ?_
        refine lv_lmul hx hb dX1_digest_30 ?_
        refine lv_aload_n hx hb dX1_digest_31 rfl (lv_at hl 1 rfl) ?_
        refine va_get (D := (dC, dI)) (ci := 1) (v := .ref aS) (C := RX1) (T := TX1) (N := 13) hx hb hts hinX1 hown hK hP 0 rfl rfl 2 (by decide) (hts (.fieldLink RX1 16 "TileHand" "seen" "[I") (by decide +kernel)) (fun _ h9 => h9) rfl dX1_digest_32 ?_
        refine lv_iload_n hx hb dX1_digest_35 rfl (lv_at hl 2 rfl) ?_
        obtain ⟨h27, hw⟩ := hw
        refine va_iald hx hb hK hP 3 0 rfl rfl h27 dX1_digest_36 ?_
        refine lv_i2l (v := (se v3.toNatClampNeg).toInt64) hx hb dX1_digest_37 rfl ?_
        refine lv_ladd hx hb dX1_digest_38 ?_
        refine lv_topl (fun t28 et28 => ?_)
        have hw := hw t28 et28
        refine lv_lstore_n (lv' := [(1, .long t28), (0, .ref x), (3, .int v3)]) hx hb dX1_digest_39 rfl hl (by decide) rfl (fun ls hl => ?_)
        refine lv_iinc (v := v3 + 1) (lv' := [(3, .int (v3 + 1)), (1, .long t28), (0, .ref x)]) hx hb dX1_digest_40 hl (k := 2) rfl rfl (by decide) rfl (fun ls hl => ?_)
        refine lv_goto (tgt := 6) hx hb dX1_digest_43 (by decide) ?_
        exact ih t28 (v3 + 1) tcn hd so ki glm rom hel nw nx aN aX _ _ _ hw hP hD hS (lv_sub hl [2, 1, 0] rfl)
  refine lv_ldc2 (v := 271) hx hb hown (hts (.constantLong RX1 175 271) (by decide +kernel)) dX1_digest_0 ?_
  refine lv_lstore_n (lv' := [(1, .long (271 : Int64)), (0, .ref x)]) hx hb dX1_digest_3 rfl hl (by decide) rfl (fun ls hl => ?_)
  refine lv_iconst (v := 0) hx hb dX1_digest_4 (by decide) ?_
  refine lv_istore_n (lv' := [(3, .int (0 : Int32)), (1, .long (271 : Int64)), (0, .ref x)]) hx hb dX1_digest_5 rfl hl (by decide) rfl (fun ls hl => ?_)
  obtain ⟨n9, hw⟩ := hw
  exact L6 n9 (271 : Int64) (0 : Int32) tcn hd so ki glm rom hel nw nx aN aX _ _ _ hw hP hD hS (lv_sub hl [2, 1, 0] rfl)

def w_X2_thrown (thr : Int32) (post : Int32 → Prop) : Prop := post thr

set_option maxHeartbeats 4000000 in
set_option maxRecDepth 100000 in
theorem c_X2_thrown (l : Launch) (dC : Nat → ClassId) (dI : Nat → Nat → Nat) (cI cZ : ClassId) (y : Nat) (bH : Nat) (bS : Nat) (bL : Nat) (bO : Nat) (bK : Nat) (bZ : Nat) (bR : Nat) (bG : Nat) (bB : Nat) (bX : Nat) (sz : Nat) (thr : Int32) (mel : Int32) (sea : Int32) (rnd : Int32) (bas : Int32) (lim : Int32) (post : Int32 → Prop) (hw : w_X2_thrown thr post) : Met l yX2_thrown wsX2_thrown ({ frames := 0, cells := 0, slots := 0, locals := 0 } : Room) (va_Pc [.ref y] (fun U => U.heap.size = sz ∧ va_P (dC, dI) vwCl [(y, .inr (2, [.int thr, .ref bH, .ref bS, .ref bL, .int mel, .ref bO, .ref bK, .ref bZ, .int sea, .int rnd, .int bas, .int lim, .ref bR, .ref bG, .ref bB, .ref bX]))] U.heap ∧ va_K (dC, dI) vwCl [(cI, .int), (cZ, .boolean)] U ∧ va_D (fun _ => True) [(y, .inr (2, [.int thr, .ref bH, .ref bS, .ref bL, .int mel, .ref bO, .ref bK, .ref bZ, .int sea, .int rnd, .int bas, .int lim, .ref bR, .ref bG, .ref bB, .ref bX]))])) (va_Qi (fun (r9 : Int32) (u9 : Unit) => post r9) (fun (u9 : Unit) (t9 : State) => va_P (dC, dI) vwCl [(y, .inr (2, [.int thr, .ref bH, .ref bS, .ref bL, .int mel, .ref bO, .ref bK, .ref bZ, .int sea, .int rnd, .int bas, .int lim, .ref bR, .ref bG, .ref bB, .ref bX]))] t9.heap ∧ va_K (dC, dI) vwCl [(cI, .int), (cZ, .boolean)] t9 ∧ va_D (va_A [(y, .inr (2, [.int thr, .ref bH, .ref bS, .ref bL, .int mel, .ref bO, .ref bK, .ref bZ, .int sea, .int rnd, .int bas, .int lim, .ref bR, .ref bG, .ref bB, .ref bX]))] sz) [(y, .inr (2, [.int thr, .ref bH, .ref bS, .ref bL, .int mel, .ref bO, .ref bK, .ref bZ, .int sea, .int rnd, .int bas, .int lim, .ref bR, .ref bG, .ref bB, .ref bX]))]) (va_A [(y, .inr (2, [.int thr, .ref bH, .ref bS, .ref bL, .int mel, .ref bO, .ref bK, .ref bZ, .int sea, .int rnd, .int bas, .int lim, .ref bR, .ref bG, .ref bB, .ref bX]))] sz)) 0 0 (va_A [(y, .inr (2, [.int thr, .ref bH, .ref bS, .ref bL, .int mel, .ref bO, .ref bK, .ref bZ, .int sea, .int rnd, .int bas, .int lim, .ref bR, .ref bG, .ref bB, .ref bX]))] sz) := by
  refine Met.ofW (cc := cX2_thrown) (maxL := 1) (ret := (some .int)) (by decide) rfl ?_
  intro p e s m args below meth c s₁ B hml hv
  obtain ⟨rfl, hsz, hP, hK, hD0⟩ := hv
  have hx := B.exec
  have hb := B.bytes
  have hr := B.returns
  have hts := atoms_spec (ws := wsX2_thrown) B.pre
  have hown : s.vm.findClass RX2 = some m.cls := findClass_of_methodNamed B.named
  have hlocks := B.notSynchronized
  have hinX2 : ∀ w ∈ u_ws RX2 TX2 16, w ∈ wsX2_thrown := by decide +kernel
  subst hsz
  have hD := hD0.self (sz := s.heap.size)
  generalize hAe : va_A [(y, .inr (2, [.int thr, .ref bH, .ref bS, .ref bL, .int mel, .ref bO, .ref bK, .ref bZ, .int sea, .int rnd, .int bas, .int lim, .ref bR, .ref bG, .ref bB, .ref bX]))] s.heap.size = A at hD ⊢
  have hA : ∀ q : Nat, s.heap.size ≤ q → A q := fun q h => by rw [← hAe]; exact Or.inr h
  have hS : va_S A s.heap s.heap [] := va_S.rf
  have hl := lv_entry ([.ref y]) (n := 1) (Nat.le_of_ble_eq_true rfl)
  rw [lg_entry_eq]
  generalize (lg_sl ([.ref y]) ++ List.replicate (1 - (lg_sl ([.ref y])).length) Slot.unset).toArray = ls at hl ⊢
  have hl : lv_has ls 1 [(0, .ref y)] := hl
  refine (?_ : ∀ Q9 : State → Prop, MQ below _ _ s _ _ _ = Q9 → W p l e ({ frames := 0, cells := 0, slots := 0, locals := 0 } : Room) s m _ below meth c s.heap [] 0 0 Q9 (F0 m 0 ls [])) _ rfl
  intro Q9 hQ9
  have hw : post thr := hw
  refine lv_aload_n hx hb dX2_thrown_0 rfl (lv_at hl 0 rfl) ?_
  refine va_get (D := (dC, dI)) (ci := 2) (v := .int thr) (C := RX2) (T := TX2) (N := 16) hx hb hts hinX2 hown hK hP 0 rfl rfl 0 (by decide) (hts (.fieldLink RX2 54 "TileHandModel" "thrown" "I") (by decide +kernel)) (fun _ h9 => h9) rfl dX2_thrown_1 ?_
  rw [← hQ9]
  exact W.iret (v := thr) hx hb hr (fun t ht hW => ⟨⟨thr, (), rfl, hw, by rw [ht]; exact hP, va_K.moved hW.alike hK, hD⟩, hS.F ht⟩) hS.2.2 dX2_thrown_4

def w_X2_fail (thr : Int32) (p0 : Int32) (post : Int32 → Int32 → Prop) : Prop := post (0 : Int32) p0

set_option maxHeartbeats 4000000 in
set_option maxRecDepth 100000 in
theorem c_X2_fail (l : Launch) (dC : Nat → ClassId) (dI : Nat → Nat → Nat) (cI cZ : ClassId) (y : Nat) (bH : Nat) (bS : Nat) (bL : Nat) (bO : Nat) (bK : Nat) (bZ : Nat) (bR : Nat) (bG : Nat) (bB : Nat) (bX : Nat) (sz : Nat) (thr : Int32) (mel : Int32) (sea : Int32) (rnd : Int32) (bas : Int32) (lim : Int32) (p0 : Int32) (post : Int32 → Int32 → Prop) (hw : w_X2_fail thr p0 post) : Met l yX2_fail wsX2_fail ({ frames := 0, cells := 0, slots := 0, locals := 0 } : Room) (va_Pc [.ref y, .int p0] (fun U => U.heap.size = sz ∧ va_P (dC, dI) vwCl [(y, .inr (2, [.int thr, .ref bH, .ref bS, .ref bL, .int mel, .ref bO, .ref bK, .ref bZ, .int sea, .int rnd, .int bas, .int lim, .ref bR, .ref bG, .ref bB, .ref bX]))] U.heap ∧ va_K (dC, dI) vwCl [(cI, .int), (cZ, .boolean)] U ∧ va_D (fun _ => True) [(y, .inr (2, [.int thr, .ref bH, .ref bS, .ref bL, .int mel, .ref bO, .ref bK, .ref bZ, .int sea, .int rnd, .int bas, .int lim, .ref bR, .ref bG, .ref bB, .ref bX]))])) (va_Qi (fun (r9 : Int32) (u9 : Int32) => post r9 u9) (fun (u9 : Int32) (t9 : State) => va_P (dC, dI) vwCl [(y, .inr (2, [.int u9, .ref bH, .ref bS, .ref bL, .int mel, .ref bO, .ref bK, .ref bZ, .int sea, .int rnd, .int bas, .int lim, .ref bR, .ref bG, .ref bB, .ref bX]))] t9.heap ∧ va_K (dC, dI) vwCl [(cI, .int), (cZ, .boolean)] t9 ∧ va_D (va_A [(y, .inr (2, [.int thr, .ref bH, .ref bS, .ref bL, .int mel, .ref bO, .ref bK, .ref bZ, .int sea, .int rnd, .int bas, .int lim, .ref bR, .ref bG, .ref bB, .ref bX]))] sz) [(y, .inr (2, [.int u9, .ref bH, .ref bS, .ref bL, .int mel, .ref bO, .ref bK, .ref bZ, .int sea, .int rnd, .int bas, .int lim, .ref bR, .ref bG, .ref bB, .ref bX]))]) (va_A [(y, .inr (2, [.int thr, .ref bH, .ref bS, .ref bL, .int mel, .ref bO, .ref bK, .ref bZ, .int sea, .int rnd, .int bas, .int lim, .ref bR, .ref bG, .ref bB, .ref bX]))] sz)) 0 0 (va_A [(y, .inr (2, [.int thr, .ref bH, .ref bS, .ref bL, .int mel, .ref bO, .ref bK, .ref bZ, .int sea, .int rnd, .int bas, .int lim, .ref bR, .ref bG, .ref bB, .ref bX]))] sz) := by
  refine Met.ofW (cc := cX2_fail) (maxL := 2) (ret := (some .int)) (by decide) rfl ?_
  intro p e s m args below meth c s₁ B hml hv
  obtain ⟨rfl, hsz, hP, hK, hD0⟩ := hv
  have hx := B.exec
  have hb := B.bytes
  have hr := B.returns
  have hts := atoms_spec (ws := wsX2_fail) B.pre
  have hown : s.vm.findClass RX2 = some m.cls := findClass_of_methodNamed B.named
  have hlocks := B.notSynchronized
  have hinX2 : ∀ w ∈ u_ws RX2 TX2 16, w ∈ wsX2_fail := by decide +kernel
  subst hsz
  have hD := hD0.self (sz := s.heap.size)
  generalize hAe : va_A [(y, .inr (2, [.int thr, .ref bH, .ref bS, .ref bL, .int mel, .ref bO, .ref bK, .ref bZ, .int sea, .int rnd, .int bas, .int lim, .ref bR, .ref bG, .ref bB, .ref bX]))] s.heap.size = A at hD ⊢
  have hA : ∀ q : Nat, s.heap.size ≤ q → A q := fun q h => by rw [← hAe]; exact Or.inr h
  have hS : va_S A s.heap s.heap [] := va_S.rf
  have hl := lv_entry ([.ref y, .int p0]) (n := 2) (Nat.le_of_ble_eq_true rfl)
  rw [lg_entry_eq]
  generalize (lg_sl ([.ref y, .int p0]) ++ List.replicate (2 - (lg_sl ([.ref y, .int p0])).length) Slot.unset).toArray = ls at hl ⊢
  have hl : lv_has ls 2 [(0, .ref y), (1, .int p0)] := hl
  refine (?_ : ∀ Q9 : State → Prop, MQ below _ _ s _ _ _ = Q9 → W p l e ({ frames := 0, cells := 0, slots := 0, locals := 0 } : Room) s m _ below meth c s.heap [] 0 0 Q9 (F0 m 0 ls [])) _ rfl
  intro Q9 hQ9
  have hw : post (0 : Int32) p0 := hw
  refine lv_aload_n hx hb dX2_fail_0 rfl (lv_at hl 0 rfl) ?_
  refine lv_iload_n hx hb dX2_fail_1 rfl (lv_at hl 1 rfl) ?_
  refine va_put (D := (dC, dI)) (ci := 2) (v := .int p0) (ty := .int) (C := RX2) (T := TX2) (N := 16) hx hb hts hinX2 tyX2 tyX2_ok nmX2 hown hK hP hD hS 0 rfl rfl 0 (by decide) (hts (.fieldLink RX2 54 "TileHandModel" "thrown" "I") (by decide +kernel)) (fun _ h9 => h9) rfl (by decide +kernel) rfl rfl (Nat.le_of_ble_eq_true rfl) dX2_fail_2 (fun H locs hP hD hS => ?_)
  have hP : va_P (dC, dI) vwCl [(y, .inr (2, [.int p0, .ref bH, .ref bS, .ref bL, .int mel, .ref bO, .ref bK, .ref bZ, .int sea, .int rnd, .int bas, .int lim, .ref bR, .ref bG, .ref bB, .ref bX]))] H := hP
  have hD : va_D A [(y, .inr (2, [.int p0, .ref bH, .ref bS, .ref bL, .int mel, .ref bO, .ref bK, .ref bZ, .int sea, .int rnd, .int bas, .int lim, .ref bR, .ref bG, .ref bB, .ref bX]))] := hD
  refine lv_iconst (v := 0) hx hb dX2_fail_5 (by decide) ?_
  rw [← hQ9]
  exact W.iret (v := (0 : Int32)) hx hb hr (fun t ht hW => ⟨⟨(0 : Int32), (p0), rfl, hw, by rw [ht]; exact hP, va_K.moved hW.alike hK, hD⟩, hS.F ht⟩) hS.2.2 dX2_fail_6

def w_X2_isIn (p0 : Int32) (p1 : Int32) (p2 : Int32) (post : Int32 → Prop) : Prop := ((p0 < p1 → (post (0 : Int32))) ∧ (¬ p0 < p1 → (((p2 < p0 → (post (0 : Int32))) ∧ (¬ p2 < p0 → (post (1 : Int32)))))))

set_option maxHeartbeats 4000000 in
set_option maxRecDepth 100000 in
theorem c_X2_isIn (l : Launch) (dC : Nat → ClassId) (dI : Nat → Nat → Nat) (cI cZ : ClassId) (sz : Nat) (p0 : Int32) (p1 : Int32) (p2 : Int32) (post : Int32 → Prop) (hw : w_X2_isIn p0 p1 p2 post) : Met l yX2_isIn wsX2_isIn ({ frames := 0, cells := 0, slots := 0, locals := 0 } : Room) (va_Pc [.int p0, .int p1, .int p2] (fun U => U.heap.size = sz ∧ va_P (dC, dI) vwCl [] U.heap ∧ va_K (dC, dI) vwCl [(cI, .int), (cZ, .boolean)] U ∧ va_D (fun _ => True) [])) (va_Qi (fun (r9 : Int32) (u9 : Unit) => post r9) (fun (u9 : Unit) (t9 : State) => va_P (dC, dI) vwCl [] t9.heap ∧ va_K (dC, dI) vwCl [(cI, .int), (cZ, .boolean)] t9 ∧ va_D (va_A [] sz) []) (va_A [] sz)) 0 0 (va_A [] sz) := by
  refine Met.ofW (cc := cX2_isIn) (maxL := 3) (ret := (some .boolean)) (by decide) rfl ?_
  intro p e s m args below meth c s₁ B hml hv
  obtain ⟨rfl, hsz, hP, hK, hD0⟩ := hv
  have hx := B.exec
  have hb := B.bytes
  have hr := B.returns
  have hts := atoms_spec (ws := wsX2_isIn) B.pre
  have hown : s.vm.findClass RX2 = some m.cls := findClass_of_methodNamed B.named
  have hlocks := B.notSynchronized
  subst hsz
  have hD := hD0.self (sz := s.heap.size)
  generalize hAe : va_A [] s.heap.size = A at hD ⊢
  have hA : ∀ q : Nat, s.heap.size ≤ q → A q := fun q h => by rw [← hAe]; exact Or.inr h
  have hS : va_S A s.heap s.heap [] := va_S.rf
  have hl := lv_entry ([.int p0, .int p1, .int p2]) (n := 3) (Nat.le_of_ble_eq_true rfl)
  rw [lg_entry_eq]
  generalize (lg_sl ([.int p0, .int p1, .int p2]) ++ List.replicate (3 - (lg_sl ([.int p0, .int p1, .int p2])).length) Slot.unset).toArray = ls at hl ⊢
  have hl : lv_has ls 3 [(0, .int p0), (1, .int p1), (2, .int p2)] := hl
  refine (?_ : ∀ Q9 : State → Prop, MQ below _ _ s _ _ _ = Q9 → W p l e ({ frames := 0, cells := 0, slots := 0, locals := 0 } : Room) s m _ below meth c s.heap [] 0 0 Q9 (F0 m 0 ls [])) _ rfl
  intro Q9 hQ9
  have hw : ((p0 < p1 → (post (0 : Int32))) ∧ (¬ p0 < p1 → (((p2 < p0 → (post (0 : Int32))) ∧ (¬ p2 < p0 → (post (1 : Int32))))))) := hw
  refine lv_iload_n hx hb dX2_isIn_0 rfl (lv_at hl 0 rfl) ?_
  refine lv_iload_n hx hb dX2_isIn_1 rfl (lv_at hl 1 rfl) ?_
  refine lv_icmp_lt (tgt := 14) hx hb dX2_isIn_2 (by decide) (fun c1 => ?_) (fun c1 => ?_)
  · have hw := hw.1 c1
    refine lv_iconst (v := 0) hx hb dX2_isIn_14 (by decide) ?_
    rw [← hQ9]
    exact W.zret (v := (0 : Int32)) hx hb hr rfl (fun t ht hW => ⟨⟨(0 : Int32), (), rfl, hw, by rw [ht]; exact hP, va_K.moved hW.alike hK, hD⟩, hS.F ht⟩) hS.2.2 dX2_isIn_15
  · have hw := hw.2 c1
    refine lv_iload_n hx hb dX2_isIn_5 rfl (lv_at hl 0 rfl) ?_
    refine lv_iload_n hx hb dX2_isIn_6 rfl (lv_at hl 2 rfl) ?_
    refine lv_icmp_gt (tgt := 14) hx hb dX2_isIn_7 (by decide) (fun c2 => ?_) (fun c2 => ?_)
    · have hw := hw.1 c2
      refine lv_iconst (v := 0) hx hb dX2_isIn_14 (by decide) ?_
      rw [← hQ9]
      exact W.zret (v := (0 : Int32)) hx hb hr rfl (fun t ht hW => ⟨⟨(0 : Int32), (), rfl, hw, by rw [ht]; exact hP, va_K.moved hW.alike hK, hD⟩, hS.F ht⟩) hS.2.2 dX2_isIn_15
    · have hw := hw.2 c2
      refine lv_iconst (v := 1) hx hb dX2_isIn_10 (by decide) ?_
      refine lv_goto (tgt := 15) hx hb dX2_isIn_11 (by decide) ?_
      rw [← hQ9]
      exact W.zret (v := (1 : Int32)) hx hb hr rfl (fun t ht hW => ⟨⟨(1 : Int32), (), rfl, hw, by rw [ht]; exact hP, va_K.moved hW.alike hK, hD⟩, hS.F ht⟩) hS.2.2 dX2_isIn_15

def w_X2_isKind (p0 : Int32) (post : Int32 → Prop) : Prop := w_X2_isIn p0 (0 : Int32) (33 : Int32) (fun r1 => (narrow .boolean (.int r1) = .int r1 ∧ post r1))

set_option maxHeartbeats 4000000 in
set_option maxRecDepth 100000 in
theorem c_X2_isKind (l : Launch) (dC : Nat → ClassId) (dI : Nat → Nat → Nat) (cI cZ : ClassId) (sz : Nat) (p0 : Int32) (post : Int32 → Prop) (hw : w_X2_isKind p0 post) : Met l yX2_isKind wsX2_isKind ({ frames := 2, cells := 0, slots := 0, locals := 40 } : Room) (va_Pc [.int p0] (fun U => U.heap.size = sz ∧ va_P (dC, dI) vwCl [] U.heap ∧ va_K (dC, dI) vwCl [(cI, .int), (cZ, .boolean)] U ∧ va_D (fun _ => True) [])) (va_Qi (fun (r9 : Int32) (u9 : Unit) => post r9) (fun (u9 : Unit) (t9 : State) => va_P (dC, dI) vwCl [] t9.heap ∧ va_K (dC, dI) vwCl [(cI, .int), (cZ, .boolean)] t9 ∧ va_D (va_A [] sz) []) (va_A [] sz)) 0 0 (va_A [] sz) := by
  refine Met.ofW (cc := cX2_isKind) (maxL := 1) (ret := (some .boolean)) (by decide) rfl ?_
  intro p e s m args below meth c s₁ B hml hv
  obtain ⟨rfl, hsz, hP, hK, hD0⟩ := hv
  have hx := B.exec
  have hb := B.bytes
  have hr := B.returns
  have hts := atoms_spec (ws := wsX2_isKind) B.pre
  have hown : s.vm.findClass RX2 = some m.cls := findClass_of_methodNamed B.named
  have hlocks := B.notSynchronized
  subst hsz
  have hD := hD0.self (sz := s.heap.size)
  generalize hAe : va_A [] s.heap.size = A at hD ⊢
  have hA : ∀ q : Nat, s.heap.size ≤ q → A q := fun q h => by rw [← hAe]; exact Or.inr h
  have hS : va_S A s.heap s.heap [] := va_S.rf
  have hl := lv_entry ([.int p0]) (n := 1) (Nat.le_of_ble_eq_true rfl)
  rw [lg_entry_eq]
  generalize (lg_sl ([.int p0]) ++ List.replicate (1 - (lg_sl ([.int p0])).length) Slot.unset).toArray = ls at hl ⊢
  have hl : lv_has ls 1 [(0, .int p0)] := hl
  refine (?_ : ∀ Q9 : State → Prop, MQ below _ _ s _ _ _ = Q9 → W p l e ({ frames := 2, cells := 0, slots := 0, locals := 40 } : Room) s m _ below meth c s.heap [] 0 0 Q9 (F0 m 0 ls [])) _ rfl
  intro Q9 hQ9
  have hw : w_X2_isIn p0 (0 : Int32) (33 : Int32) (fun r1 => (narrow .boolean (.int r1) = .int r1 ∧ post r1)) := hw
  refine lv_iload_n hx hb dX2_isKind_0 rfl (lv_at hl 0 rfl) ?_
  refine lv_iconst (v := 0) hx hb dX2_isKind_1 (by decide) ?_
  refine lv_bipush (v := 33) hx hb dX2_isKind_2 (by decide) ?_
  have hPc := hP.sub (ws' := []) [] rfl
  have hDc := hD.sub (ws' := []) [] (by decide) rfl
  have hFc := va_free (wc := []) hD hS hA [] rfl
  refine va_calli (va_runS (As := [.int p0, .int (0 : Int32), .int (33 : Int32)]) (rest := []) ⟨hx, hb, hml, hown, hts⟩ (c_X2_isIn l dC dI cI cZ s.heap.size p0 (0 : Int32) (33 : Int32) _ hw) (va_cwS 3 hts gX2_isKind_X2_isIn rfl rfl rfl (by decide +kernel) ⟨Nat.le_of_ble_eq_true rfl, Nat.le_of_ble_eq_true rfl⟩) ⟨fun a U g mk q => by obtain ⟨q0, q1, qP, qK, qD⟩ := q; exact ⟨q0, q1, qP, va_K.moved (u := U) (U := U.calling g mk a) (Vm.Alike.refl U.vm) qK, qD⟩, fun U hU hW => ⟨rfl, by rw [hU], by rw [hU]; exact hPc, va_K.moved hW.alike hK, hDc.weaken (fun _ _ _ _ => trivial)⟩⟩ rfl rfl hl.1 rfl (lv_room (Nat.le_of_ble_eq_true rfl)) dX2_isKind_4 ⟨Nat.le_of_ble_eq_true rfl, Nat.le_of_ble_eq_true rfl⟩) hS (fun q _ h => hFc q h) hFc (fun r1 u t H1 locs ht hvm hw hB hz1 hk1 hS => ?_)
  obtain ⟨hP1, -, hD1⟩ := hB
  have hw := And.intro hw trivial
  try dsimp only at hw
  have hw := hw.1
  rw [ht] at hP1
  obtain ⟨hP, hD⟩ := va_join (wr := []) (w1 := []) hP hD [] [] rfl rfl (by decide) (by decide) hk1 hFc hP1 hD1
  generalize H1 = H at hP hS ⊢
  have hP : va_P (dC, dI) vwCl [] H := hP
  have hD : va_D A [] := hD
  obtain ⟨h2, hw⟩ := hw
  rw [← hQ9]
  exact W.zret (v := r1) hx hb hr h2 (fun t ht hW => ⟨⟨r1, (), rfl, hw, by rw [ht]; exact hP, va_K.moved hW.alike hK, hD⟩, hS.F ht⟩) hS.2.2 dX2_isKind_7

def w_X2_isEnd_b22 (post : Int32 → Prop) (p0 : Int32) : Prop := post (1 : Int32)

def w_X2_isEnd (p0 : Int32) (post : Int32 → Prop) : Prop := (((27 : Int32) ≤ p0 → (post (0 : Int32))) ∧ (¬ (27 : Int32) ≤ p0 → ((((p0 - p0 / (9 : Int32) * (9 : Int32)) = 0 → (w_X2_isEnd_b22 post p0)) ∧ (¬ (p0 - p0 / (9 : Int32) * (9 : Int32)) = 0 → ((((p0 - p0 / (9 : Int32) * (9 : Int32)) = (8 : Int32) → (w_X2_isEnd_b22 post p0)) ∧ (¬ (p0 - p0 / (9 : Int32) * (9 : Int32)) = (8 : Int32) → (post (0 : Int32))))))))))

set_option maxHeartbeats 4000000 in
set_option maxRecDepth 100000 in
theorem c_X2_isEnd (l : Launch) (dC : Nat → ClassId) (dI : Nat → Nat → Nat) (cI cZ : ClassId) (sz : Nat) (p0 : Int32) (post : Int32 → Prop) (hw : w_X2_isEnd p0 post) : Met l yX2_isEnd wsX2_isEnd ({ frames := 0, cells := 0, slots := 0, locals := 0 } : Room) (va_Pc [.int p0] (fun U => U.heap.size = sz ∧ va_P (dC, dI) vwCl [] U.heap ∧ va_K (dC, dI) vwCl [(cI, .int), (cZ, .boolean)] U ∧ va_D (fun _ => True) [])) (va_Qi (fun (r9 : Int32) (u9 : Unit) => post r9) (fun (u9 : Unit) (t9 : State) => va_P (dC, dI) vwCl [] t9.heap ∧ va_K (dC, dI) vwCl [(cI, .int), (cZ, .boolean)] t9 ∧ va_D (va_A [] sz) []) (va_A [] sz)) 0 0 (va_A [] sz) := by
  refine Met.ofW (cc := cX2_isEnd) (maxL := 1) (ret := (some .boolean)) (by decide) rfl ?_
  intro p e s m args below meth c s₁ B hml hv
  obtain ⟨rfl, hsz, hP, hK, hD0⟩ := hv
  have hx := B.exec
  have hb := B.bytes
  have hr := B.returns
  have hts := atoms_spec (ws := wsX2_isEnd) B.pre
  have hown : s.vm.findClass RX2 = some m.cls := findClass_of_methodNamed B.named
  have hlocks := B.notSynchronized
  subst hsz
  have hD := hD0.self (sz := s.heap.size)
  generalize hAe : va_A [] s.heap.size = A at hD ⊢
  have hA : ∀ q : Nat, s.heap.size ≤ q → A q := fun q h => by rw [← hAe]; exact Or.inr h
  have hS : va_S A s.heap s.heap [] := va_S.rf
  have hl := lv_entry ([.int p0]) (n := 1) (Nat.le_of_ble_eq_true rfl)
  rw [lg_entry_eq]
  generalize (lg_sl ([.int p0]) ++ List.replicate (1 - (lg_sl ([.int p0])).length) Slot.unset).toArray = ls at hl ⊢
  have hl : lv_has ls 1 [(0, .int p0)] := hl
  refine (?_ : ∀ Q9 : State → Prop, MQ below _ _ s _ _ _ = Q9 → W p l e ({ frames := 0, cells := 0, slots := 0, locals := 0 } : Room) s m _ below meth c s.heap [] 0 0 Q9 (F0 m 0 ls [])) _ rfl
  intro Q9 hQ9
  have hw : (((27 : Int32) ≤ p0 → (post (0 : Int32))) ∧ (¬ (27 : Int32) ≤ p0 → ((((p0 - p0 / (9 : Int32) * (9 : Int32)) = 0 → (w_X2_isEnd_b22 post p0)) ∧ (¬ (p0 - p0 / (9 : Int32) * (9 : Int32)) = 0 → ((((p0 - p0 / (9 : Int32) * (9 : Int32)) = (8 : Int32) → (w_X2_isEnd_b22 post p0)) ∧ (¬ (p0 - p0 / (9 : Int32) * (9 : Int32)) = (8 : Int32) → (post (0 : Int32)))))))))) := hw
  have L22 : ∀ (H : Heap) (locs : List Loc) (ls : Array Slot), w_X2_isEnd_b22 post p0 → va_P (dC, dI) vwCl [] H → va_D A [] → va_S A s.heap H locs → lv_has ls 1 [] → W p l e ({ frames := 0, cells := 0, slots := 0, locals := 0 } : Room) s m ([.int p0] : List Value).toArray below meth c H locs 0 0 Q9 (F0 m 22 ls []) := by
    intro H locs ls hw hP hD hS hl
    refine lv_iconst (v := 1) hx hb dX2_isEnd_22 (by decide) ?_
    refine lv_goto (tgt := 27) hx hb dX2_isEnd_23 (by decide) ?_
    rw [← hQ9]
    exact W.zret (v := (1 : Int32)) hx hb hr rfl (fun t ht hW => ⟨⟨(1 : Int32), (), rfl, hw, by rw [ht]; exact hP, va_K.moved hW.alike hK, hD⟩, hS.F ht⟩) hS.2.2 dX2_isEnd_27
  refine lv_iload_n hx hb dX2_isEnd_0 rfl (lv_at hl 0 rfl) ?_
  refine lv_bipush (v := 27) hx hb dX2_isEnd_1 (by decide) ?_
  refine lv_icmp_ge (tgt := 26) hx hb dX2_isEnd_3 (by decide) (fun c1 => ?_) (fun c1 => ?_)
  · have hw := hw.1 c1
    refine lv_iconst (v := 0) hx hb dX2_isEnd_26 (by decide) ?_
    rw [← hQ9]
    exact W.zret (v := (0 : Int32)) hx hb hr rfl (fun t ht hW => ⟨⟨(0 : Int32), (), rfl, hw, by rw [ht]; exact hP, va_K.moved hW.alike hK, hD⟩, hS.F ht⟩) hS.2.2 dX2_isEnd_27
  · have hw := hw.2 c1
    refine lv_iload_n hx hb dX2_isEnd_6 rfl (lv_at hl 0 rfl) ?_
    refine lv_bipush (v := 9) hx hb dX2_isEnd_7 (by decide) ?_
    refine lv_irem hx hb dX2_isEnd_9 (by decide) ?_
    refine lv_if_eq (tgt := 22) hx hb dX2_isEnd_10 (by decide) (fun c2 => ?_) (fun c2 => ?_)
    · have hw := hw.1 c2
      exact L22 _ _ _ hw hP hD hS (lv_sub hl [] rfl)
    · have hw := hw.2 c2
      refine lv_iload_n hx hb dX2_isEnd_13 rfl (lv_at hl 0 rfl) ?_
      refine lv_bipush (v := 9) hx hb dX2_isEnd_14 (by decide) ?_
      refine lv_irem hx hb dX2_isEnd_16 (by decide) ?_
      refine lv_bipush (v := 8) hx hb dX2_isEnd_17 (by decide) ?_
      refine lv_icmp_ne (tgt := 26) hx hb dX2_isEnd_19 (by decide) (fun c3 => ?_) (fun c3 => ?_)
      · have hw := hw.2 c3
        refine lv_iconst (v := 0) hx hb dX2_isEnd_26 (by decide) ?_
        rw [← hQ9]
        exact W.zret (v := (0 : Int32)) hx hb hr rfl (fun t ht hW => ⟨⟨(0 : Int32), (), rfl, hw, by rw [ht]; exact hP, va_K.moved hW.alike hK, hD⟩, hS.F ht⟩) hS.2.2 dX2_isEnd_27
      · have hw := hw.1 c3
        exact L22 _ _ _ hw hP hD hS (lv_sub hl [] rfl)

def w_X2_isOuter_b13 (post : Int32 → Prop) (p0 : Int32) : Prop := post (1 : Int32)

def w_X2_isOuter (p0 : Int32) (post : Int32 → Prop) : Prop := (((27 : Int32) ≤ p0 → (w_X2_isOuter_b13 post p0)) ∧ (¬ (27 : Int32) ≤ p0 → (w_X2_isEnd p0 (fun r2 => (((r2 = 0 → (post (0 : Int32))) ∧ (¬ r2 = 0 → (w_X2_isOuter_b13 post p0))))))))

set_option maxHeartbeats 4000000 in
set_option maxRecDepth 100000 in
theorem c_X2_isOuter (l : Launch) (dC : Nat → ClassId) (dI : Nat → Nat → Nat) (cI cZ : ClassId) (sz : Nat) (p0 : Int32) (post : Int32 → Prop) (hw : w_X2_isOuter p0 post) : Met l yX2_isOuter wsX2_isOuter ({ frames := 2, cells := 0, slots := 0, locals := 40 } : Room) (va_Pc [.int p0] (fun U => U.heap.size = sz ∧ va_P (dC, dI) vwCl [] U.heap ∧ va_K (dC, dI) vwCl [(cI, .int), (cZ, .boolean)] U ∧ va_D (fun _ => True) [])) (va_Qi (fun (r9 : Int32) (u9 : Unit) => post r9) (fun (u9 : Unit) (t9 : State) => va_P (dC, dI) vwCl [] t9.heap ∧ va_K (dC, dI) vwCl [(cI, .int), (cZ, .boolean)] t9 ∧ va_D (va_A [] sz) []) (va_A [] sz)) 0 0 (va_A [] sz) := by
  refine Met.ofW (cc := cX2_isOuter) (maxL := 1) (ret := (some .boolean)) (by decide) rfl ?_
  intro p e s m args below meth c s₁ B hml hv
  obtain ⟨rfl, hsz, hP, hK, hD0⟩ := hv
  have hx := B.exec
  have hb := B.bytes
  have hr := B.returns
  have hts := atoms_spec (ws := wsX2_isOuter) B.pre
  have hown : s.vm.findClass RX2 = some m.cls := findClass_of_methodNamed B.named
  have hlocks := B.notSynchronized
  subst hsz
  have hD := hD0.self (sz := s.heap.size)
  generalize hAe : va_A [] s.heap.size = A at hD ⊢
  have hA : ∀ q : Nat, s.heap.size ≤ q → A q := fun q h => by rw [← hAe]; exact Or.inr h
  have hS : va_S A s.heap s.heap [] := va_S.rf
  have hl := lv_entry ([.int p0]) (n := 1) (Nat.le_of_ble_eq_true rfl)
  rw [lg_entry_eq]
  generalize (lg_sl ([.int p0]) ++ List.replicate (1 - (lg_sl ([.int p0])).length) Slot.unset).toArray = ls at hl ⊢
  have hl : lv_has ls 1 [(0, .int p0)] := hl
  refine (?_ : ∀ Q9 : State → Prop, MQ below _ _ s _ _ _ = Q9 → W p l e ({ frames := 2, cells := 0, slots := 0, locals := 40 } : Room) s m _ below meth c s.heap [] 0 0 Q9 (F0 m 0 ls [])) _ rfl
  intro Q9 hQ9
  have hw : (((27 : Int32) ≤ p0 → (w_X2_isOuter_b13 post p0)) ∧ (¬ (27 : Int32) ≤ p0 → (w_X2_isEnd p0 (fun r2 => (((r2 = 0 → (post (0 : Int32))) ∧ (¬ r2 = 0 → (w_X2_isOuter_b13 post p0)))))))) := hw
  have L13 : ∀ (H : Heap) (locs : List Loc) (ls : Array Slot), w_X2_isOuter_b13 post p0 → va_P (dC, dI) vwCl [] H → va_D A [] → va_S A s.heap H locs → lv_has ls 1 [] → W p l e ({ frames := 2, cells := 0, slots := 0, locals := 40 } : Room) s m ([.int p0] : List Value).toArray below meth c H locs 0 0 Q9 (F0 m 13 ls []) := by
    intro H locs ls hw hP hD hS hl
    refine lv_iconst (v := 1) hx hb dX2_isOuter_13 (by decide) ?_
    refine lv_goto (tgt := 18) hx hb dX2_isOuter_14 (by decide) ?_
    rw [← hQ9]
    exact W.zret (v := (1 : Int32)) hx hb hr rfl (fun t ht hW => ⟨⟨(1 : Int32), (), rfl, hw, by rw [ht]; exact hP, va_K.moved hW.alike hK, hD⟩, hS.F ht⟩) hS.2.2 dX2_isOuter_18
  refine lv_iload_n hx hb dX2_isOuter_0 rfl (lv_at hl 0 rfl) ?_
  refine lv_bipush (v := 27) hx hb dX2_isOuter_1 (by decide) ?_
  refine lv_icmp_ge (tgt := 13) hx hb dX2_isOuter_3 (by decide) (fun c1 => ?_) (fun c1 => ?_)
  · have hw := hw.1 c1
    exact L13 _ _ _ hw hP hD hS (lv_sub hl [] rfl)
  · have hw := hw.2 c1
    refine lv_iload_n hx hb dX2_isOuter_6 rfl (lv_at hl 0 rfl) ?_
    have hPc := hP.sub (ws' := []) [] rfl
    have hDc := hD.sub (ws' := []) [] (by decide) rfl
    have hFc := va_free (wc := []) hD hS hA [] rfl
    refine va_calli (va_runS (As := [.int p0]) (rest := []) ⟨hx, hb, hml, hown, hts⟩ (c_X2_isEnd l dC dI cI cZ s.heap.size p0 _ hw) (va_cwS 1 hts gX2_isOuter_X2_isEnd rfl rfl rfl (by decide +kernel) ⟨Nat.le_of_ble_eq_true rfl, Nat.le_of_ble_eq_true rfl⟩) ⟨fun a U g mk q => by obtain ⟨q0, q1, qP, qK, qD⟩ := q; exact ⟨q0, q1, qP, va_K.moved (u := U) (U := U.calling g mk a) (Vm.Alike.refl U.vm) qK, qD⟩, fun U hU hW => ⟨rfl, by rw [hU], by rw [hU]; exact hPc, va_K.moved hW.alike hK, hDc.weaken (fun _ _ _ _ => trivial)⟩⟩ rfl rfl hl.1 rfl (lv_room (Nat.le_of_ble_eq_true rfl)) dX2_isOuter_7 ⟨Nat.le_of_ble_eq_true rfl, Nat.le_of_ble_eq_true rfl⟩) hS (fun q _ h => hFc q h) hFc (fun r2 u t H1 locs ht hvm hw hB hz1 hk1 hS => ?_)
    obtain ⟨hP1, -, hD1⟩ := hB
    have hw := And.intro hw trivial
    try dsimp only at hw
    have hw := hw.1
    rw [ht] at hP1
    obtain ⟨hP, hD⟩ := va_join (wr := []) (w1 := []) hP hD [] [] rfl rfl (by decide) (by decide) hk1 hFc hP1 hD1
    generalize H1 = H at hP hS ⊢
    have hP : va_P (dC, dI) vwCl [] H := hP
    have hD : va_D A [] := hD
    refine lv_if_eq (tgt := 17) hx hb dX2_isOuter_10 (by decide) (fun c3 => ?_) (fun c3 => ?_)
    · have hw := hw.1 c3
      refine lv_iconst (v := 0) hx hb dX2_isOuter_17 (by decide) ?_
      rw [← hQ9]
      exact W.zret (v := (0 : Int32)) hx hb hr rfl (fun t ht hW => ⟨⟨(0 : Int32), (), rfl, hw, by rw [ht]; exact hP, va_K.moved hW.alike hK, hD⟩, hS.F ht⟩) hS.2.2 dX2_isOuter_18
    · have hw := hw.2 c3
      exact L13 _ _ _ hw hP hD hS (lv_sub hl [] rfl)

def w_X2_beginsRow (p0 : Int32) (post : Int32 → Prop) : Prop := (((27 : Int32) ≤ p0 → (post (0 : Int32))) ∧ (¬ (27 : Int32) ≤ p0 → ((((7 : Int32) ≤ (p0 - p0 / (9 : Int32) * (9 : Int32)) → (post (0 : Int32))) ∧ (¬ (7 : Int32) ≤ (p0 - p0 / (9 : Int32) * (9 : Int32)) → (post (1 : Int32)))))))

set_option maxHeartbeats 4000000 in
set_option maxRecDepth 100000 in
theorem c_X2_beginsRow (l : Launch) (dC : Nat → ClassId) (dI : Nat → Nat → Nat) (cI cZ : ClassId) (sz : Nat) (p0 : Int32) (post : Int32 → Prop) (hw : w_X2_beginsRow p0 post) : Met l yX2_beginsRow wsX2_beginsRow ({ frames := 0, cells := 0, slots := 0, locals := 0 } : Room) (va_Pc [.int p0] (fun U => U.heap.size = sz ∧ va_P (dC, dI) vwCl [] U.heap ∧ va_K (dC, dI) vwCl [(cI, .int), (cZ, .boolean)] U ∧ va_D (fun _ => True) [])) (va_Qi (fun (r9 : Int32) (u9 : Unit) => post r9) (fun (u9 : Unit) (t9 : State) => va_P (dC, dI) vwCl [] t9.heap ∧ va_K (dC, dI) vwCl [(cI, .int), (cZ, .boolean)] t9 ∧ va_D (va_A [] sz) []) (va_A [] sz)) 0 0 (va_A [] sz) := by
  refine Met.ofW (cc := cX2_beginsRow) (maxL := 1) (ret := (some .boolean)) (by decide) rfl ?_
  intro p e s m args below meth c s₁ B hml hv
  obtain ⟨rfl, hsz, hP, hK, hD0⟩ := hv
  have hx := B.exec
  have hb := B.bytes
  have hr := B.returns
  have hts := atoms_spec (ws := wsX2_beginsRow) B.pre
  have hown : s.vm.findClass RX2 = some m.cls := findClass_of_methodNamed B.named
  have hlocks := B.notSynchronized
  subst hsz
  have hD := hD0.self (sz := s.heap.size)
  generalize hAe : va_A [] s.heap.size = A at hD ⊢
  have hA : ∀ q : Nat, s.heap.size ≤ q → A q := fun q h => by rw [← hAe]; exact Or.inr h
  have hS : va_S A s.heap s.heap [] := va_S.rf
  have hl := lv_entry ([.int p0]) (n := 1) (Nat.le_of_ble_eq_true rfl)
  rw [lg_entry_eq]
  generalize (lg_sl ([.int p0]) ++ List.replicate (1 - (lg_sl ([.int p0])).length) Slot.unset).toArray = ls at hl ⊢
  have hl : lv_has ls 1 [(0, .int p0)] := hl
  refine (?_ : ∀ Q9 : State → Prop, MQ below _ _ s _ _ _ = Q9 → W p l e ({ frames := 0, cells := 0, slots := 0, locals := 0 } : Room) s m _ below meth c s.heap [] 0 0 Q9 (F0 m 0 ls [])) _ rfl
  intro Q9 hQ9
  have hw : (((27 : Int32) ≤ p0 → (post (0 : Int32))) ∧ (¬ (27 : Int32) ≤ p0 → ((((7 : Int32) ≤ (p0 - p0 / (9 : Int32) * (9 : Int32)) → (post (0 : Int32))) ∧ (¬ (7 : Int32) ≤ (p0 - p0 / (9 : Int32) * (9 : Int32)) → (post (1 : Int32))))))) := hw
  refine lv_iload_n hx hb dX2_beginsRow_0 rfl (lv_at hl 0 rfl) ?_
  refine lv_bipush (v := 27) hx hb dX2_beginsRow_1 (by decide) ?_
  refine lv_icmp_ge (tgt := 19) hx hb dX2_beginsRow_3 (by decide) (fun c1 => ?_) (fun c1 => ?_)
  · have hw := hw.1 c1
    refine lv_iconst (v := 0) hx hb dX2_beginsRow_19 (by decide) ?_
    rw [← hQ9]
    exact W.zret (v := (0 : Int32)) hx hb hr rfl (fun t ht hW => ⟨⟨(0 : Int32), (), rfl, hw, by rw [ht]; exact hP, va_K.moved hW.alike hK, hD⟩, hS.F ht⟩) hS.2.2 dX2_beginsRow_20
  · have hw := hw.2 c1
    refine lv_iload_n hx hb dX2_beginsRow_6 rfl (lv_at hl 0 rfl) ?_
    refine lv_bipush (v := 9) hx hb dX2_beginsRow_7 (by decide) ?_
    refine lv_irem hx hb dX2_beginsRow_9 (by decide) ?_
    refine lv_bipush (v := 7) hx hb dX2_beginsRow_10 (by decide) ?_
    refine lv_icmp_ge (tgt := 19) hx hb dX2_beginsRow_12 (by decide) (fun c2 => ?_) (fun c2 => ?_)
    · have hw := hw.1 c2
      refine lv_iconst (v := 0) hx hb dX2_beginsRow_19 (by decide) ?_
      rw [← hQ9]
      exact W.zret (v := (0 : Int32)) hx hb hr rfl (fun t ht hW => ⟨⟨(0 : Int32), (), rfl, hw, by rw [ht]; exact hP, va_K.moved hW.alike hK, hD⟩, hS.F ht⟩) hS.2.2 dX2_beginsRow_20
    · have hw := hw.2 c2
      refine lv_iconst (v := 1) hx hb dX2_beginsRow_15 (by decide) ?_
      refine lv_goto (tgt := 20) hx hb dX2_beginsRow_16 (by decide) ?_
      rw [← hQ9]
      exact W.zret (v := (1 : Int32)) hx hb hr rfl (fun t ht hW => ⟨⟨(1 : Int32), (), rfl, hw, by rw [ht]; exact hP, va_K.moved hW.alike hK, hD⟩, hS.F ht⟩) hS.2.2 dX2_beginsRow_20

def w_X2_tiles_b13 (post : Int32 → Prop) (hM : (Nat → Int32)) : Nat → Int32 → Int32 → Int32 → Prop
  | 0, _, _, _ => False
  | n + 1, v1, v3, v4 => ((v3 ≤ v4 → (post v1)) ∧ (¬ v3 ≤ v4 → (vp_in v4 34 ∧ (∀ t3 : Int32, t3 = v1 + (hM v4.toNatClampNeg) → (w_X2_tiles_b13 post hM n t3 v3 (v4 + 1))))))

def w_X2_tiles (hM : (Nat → Int32)) (post : Int32 → Prop) : Prop := ∃ n9, w_X2_tiles_b13 post hM n9 (0 : Int32) (34 : Int32) (0 : Int32)

set_option maxHeartbeats 4000000 in
set_option maxRecDepth 100000 in
theorem c_X2_tiles (l : Launch) (dC : Nat → ClassId) (dI : Nat → Nat → Nat) (cI cZ : ClassId) (y : Nat) (bH : Nat) (bS : Nat) (bL : Nat) (bO : Nat) (bK : Nat) (bZ : Nat) (bR : Nat) (bG : Nat) (bB : Nat) (bX : Nat) (sz : Nat) (thr : Int32) (mel : Int32) (sea : Int32) (rnd : Int32) (bas : Int32) (lim : Int32) (hM : (Nat → Int32)) (post : Int32 → Prop) (hw : w_X2_tiles hM post) : Met l yX2_tiles wsX2_tiles ({ frames := 0, cells := 0, slots := 0, locals := 0 } : Room) (va_Pc [.ref y] (fun U => U.heap.size = sz ∧ va_P (dC, dI) vwCl [(y, .inr (2, [.int thr, .ref bH, .ref bS, .ref bL, .int mel, .ref bO, .ref bK, .ref bZ, .int sea, .int rnd, .int bas, .int lim, .ref bR, .ref bG, .ref bB, .ref bX])), (bH, .inl (cI, 34, .inl hM))] U.heap ∧ va_K (dC, dI) vwCl [(cI, .int), (cZ, .boolean)] U ∧ va_D (fun _ => True) [(y, .inr (2, [.int thr, .ref bH, .ref bS, .ref bL, .int mel, .ref bO, .ref bK, .ref bZ, .int sea, .int rnd, .int bas, .int lim, .ref bR, .ref bG, .ref bB, .ref bX])), (bH, .inl (cI, 34, .inl hM))])) (va_Qi (fun (r9 : Int32) (u9 : Unit) => post r9) (fun (u9 : Unit) (t9 : State) => va_P (dC, dI) vwCl [(y, .inr (2, [.int thr, .ref bH, .ref bS, .ref bL, .int mel, .ref bO, .ref bK, .ref bZ, .int sea, .int rnd, .int bas, .int lim, .ref bR, .ref bG, .ref bB, .ref bX])), (bH, .inl (cI, 34, .inl hM))] t9.heap ∧ va_K (dC, dI) vwCl [(cI, .int), (cZ, .boolean)] t9 ∧ va_D (va_A [(y, .inr (2, [.int thr, .ref bH, .ref bS, .ref bL, .int mel, .ref bO, .ref bK, .ref bZ, .int sea, .int rnd, .int bas, .int lim, .ref bR, .ref bG, .ref bB, .ref bX])), (bH, .inl (cI, 34, .inl hM))] sz) [(y, .inr (2, [.int thr, .ref bH, .ref bS, .ref bL, .int mel, .ref bO, .ref bK, .ref bZ, .int sea, .int rnd, .int bas, .int lim, .ref bR, .ref bG, .ref bB, .ref bX])), (bH, .inl (cI, 34, .inl hM))]) (va_A [(y, .inr (2, [.int thr, .ref bH, .ref bS, .ref bL, .int mel, .ref bO, .ref bK, .ref bZ, .int sea, .int rnd, .int bas, .int lim, .ref bR, .ref bG, .ref bB, .ref bX])), (bH, .inl (cI, 34, .inl hM))] sz)) 0 0 (va_A [(y, .inr (2, [.int thr, .ref bH, .ref bS, .ref bL, .int mel, .ref bO, .ref bK, .ref bZ, .int sea, .int rnd, .int bas, .int lim, .ref bR, .ref bG, .ref bB, .ref bX])), (bH, .inl (cI, 34, .inl hM))] sz) := by
  refine Met.ofW (cc := cX2_tiles) (maxL := 6) (ret := (some .int)) (by decide) rfl ?_
  intro p e s m args below meth c s₁ B hml hv
  obtain ⟨rfl, hsz, hP, hK, hD0⟩ := hv
  have hx := B.exec
  have hb := B.bytes
  have hr := B.returns
  have hts := atoms_spec (ws := wsX2_tiles) B.pre
  have hown : s.vm.findClass RX2 = some m.cls := findClass_of_methodNamed B.named
  have hlocks := B.notSynchronized
  have hinX2 : ∀ w ∈ u_ws RX2 TX2 16, w ∈ wsX2_tiles := by decide +kernel
  subst hsz
  have hD := hD0.self (sz := s.heap.size)
  generalize hAe : va_A [(y, .inr (2, [.int thr, .ref bH, .ref bS, .ref bL, .int mel, .ref bO, .ref bK, .ref bZ, .int sea, .int rnd, .int bas, .int lim, .ref bR, .ref bG, .ref bB, .ref bX])), (bH, .inl (cI, 34, .inl hM))] s.heap.size = A at hD ⊢
  have hA : ∀ q : Nat, s.heap.size ≤ q → A q := fun q h => by rw [← hAe]; exact Or.inr h
  have hS : va_S A s.heap s.heap [] := va_S.rf
  have hl := lv_entry ([.ref y]) (n := 6) (Nat.le_of_ble_eq_true rfl)
  rw [lg_entry_eq]
  generalize (lg_sl ([.ref y]) ++ List.replicate (6 - (lg_sl ([.ref y])).length) Slot.unset).toArray = ls at hl ⊢
  have hl : lv_has ls 6 [(0, .ref y)] := hl
  refine (?_ : ∀ Q9 : State → Prop, MQ below _ _ s _ _ _ = Q9 → W p l e ({ frames := 0, cells := 0, slots := 0, locals := 0 } : Room) s m _ below meth c s.heap [] 0 0 Q9 (F0 m 0 ls [])) _ rfl
  intro Q9 hQ9
  have hw : ∃ n9, w_X2_tiles_b13 post hM n9 (0 : Int32) (34 : Int32) (0 : Int32) := hw
  have L13 : ∀ (n : Nat), ∀ (v1 : Int32) (v3 : Int32) (v4 : Int32) (H : Heap) (locs : List Loc) (ls : Array Slot), w_X2_tiles_b13 post hM n v1 v3 v4 → va_P (dC, dI) vwCl [(y, .inr (2, [.int thr, .ref bH, .ref bS, .ref bL, .int mel, .ref bO, .ref bK, .ref bZ, .int sea, .int rnd, .int bas, .int lim, .ref bR, .ref bG, .ref bB, .ref bX])), (bH, .inl (cI, 34, .inl hM))] H → va_D A [(y, .inr (2, [.int thr, .ref bH, .ref bS, .ref bL, .int mel, .ref bO, .ref bK, .ref bZ, .int sea, .int rnd, .int bas, .int lim, .ref bR, .ref bG, .ref bB, .ref bX])), (bH, .inl (cI, 34, .inl hM))] → va_S A s.heap H locs → lv_has ls 6 [(0, .ref y), (1, .int v1), (2, .ref bH), (3, .int v3), (4, .int v4)] → W p l e ({ frames := 0, cells := 0, slots := 0, locals := 0 } : Room) s m ([.ref y] : List Value).toArray below meth c H locs 0 0 Q9 (F0 m 13 ls []) := by
    intro n
    induction n with
    | zero => intro v1 v3 v4 H locs ls hw _ _ _ _; exact False.elim hw
    | succ n ih =>
      intro v1 v3 v4 H locs ls hw hP hD hS hl
      refine lv_iload hx hb dX2_tiles_13 (lv_at hl 4 rfl) ?_
      refine lv_iload_n hx hb dX2_tiles_15 rfl (lv_at hl 3 rfl) ?_
      refine lv_icmp_ge (tgt := 36) hx hb dX2_tiles_16 (by decide) (fun c1 => ?_) (fun c1 => ?_)
      · have hw := hw.1 c1
        refine lv_iload_n hx hb dX2_tiles_36 rfl (lv_at hl 1 rfl) ?_
        rw [← hQ9]
        exact W.iret (v := v1) hx hb hr (fun t ht hW => ⟨⟨v1, (), rfl, hw, by rw [ht]; exact hP, va_K.moved hW.alike hK, hD⟩, hS.F ht⟩) hS.2.2 dX2_tiles_37
      · have hw := hw.2 c1
        refine lv_aload_n hx hb dX2_tiles_19 rfl (lv_at hl 2 rfl) ?_
        refine lv_iload hx hb dX2_tiles_20 (lv_at hl 4 rfl) ?_
        obtain ⟨h2, hw⟩ := hw
        refine va_iald hx hb hK hP 1 0 rfl rfl h2 dX2_tiles_22 ?_
        refine lv_istore (lv' := [(5, .int (hM v4.toNatClampNeg)), (0, .ref y), (1, .int v1), (2, .ref bH), (3, .int v3), (4, .int v4)]) hx hb dX2_tiles_23 hl (by decide) rfl (fun ls hl => ?_)
        refine lv_iload_n hx hb dX2_tiles_25 rfl (lv_at hl 2 rfl) ?_
        refine lv_iload hx hb dX2_tiles_26 (lv_at hl 0 rfl) ?_
        refine lv_iadd hx hb dX2_tiles_28 ?_
        refine lv_topi (fun t3 et3 => ?_)
        have hw := hw t3 et3
        refine lv_istore_n (lv' := [(1, .int t3), (5, .int (hM v4.toNatClampNeg)), (0, .ref y), (2, .ref bH), (3, .int v3), (4, .int v4)]) hx hb dX2_tiles_29 rfl hl (by decide) rfl (fun ls hl => ?_)
        refine lv_iinc (v := v4 + 1) (lv' := [(4, .int (v4 + 1)), (1, .int t3), (5, .int (hM v4.toNatClampNeg)), (0, .ref y), (2, .ref bH), (3, .int v3)]) hx hb dX2_tiles_30 hl (k := 5) rfl rfl (by decide) rfl (fun ls hl => ?_)
        refine lv_goto (tgt := 13) hx hb dX2_tiles_33 (by decide) ?_
        exact ih t3 v3 (v4 + 1) _ _ _ hw hP hD hS (lv_sub hl [3, 1, 4, 5, 0] rfl)
  refine lv_iconst (v := 0) hx hb dX2_tiles_0 (by decide) ?_
  refine lv_istore_n (lv' := [(1, .int (0 : Int32)), (0, .ref y)]) hx hb dX2_tiles_1 rfl hl (by decide) rfl (fun ls hl => ?_)
  refine lv_aload_n hx hb dX2_tiles_2 rfl (lv_at hl 1 rfl) ?_
  refine va_get (D := (dC, dI)) (ci := 2) (v := .ref bH) (C := RX2) (T := TX2) (N := 16) hx hb hts hinX2 hown hK hP 0 rfl rfl 1 (by decide) (hts (.fieldLink RX2 9 "TileHandModel" "hand" "[I") (by decide +kernel)) (fun _ h9 => h9) rfl dX2_tiles_3 ?_
  refine lv_astore_n (lv' := [(2, .ref bH), (1, .int (0 : Int32)), (0, .ref y)]) hx hb dX2_tiles_6 rfl hl (by decide) rfl (fun ls hl => ?_)
  refine lv_aload_n hx hb dX2_tiles_7 rfl (lv_at hl 0 rfl) ?_
  refine va_alen (v := (34 : Int32)) hx hb hK hP 1 0 rfl rfl rfl dX2_tiles_8 ?_
  refine lv_istore_n (lv' := [(3, .int (34 : Int32)), (2, .ref bH), (1, .int (0 : Int32)), (0, .ref y)]) hx hb dX2_tiles_9 rfl hl (by decide) rfl (fun ls hl => ?_)
  refine lv_iconst (v := 0) hx hb dX2_tiles_10 (by decide) ?_
  refine lv_istore (lv' := [(4, .int (0 : Int32)), (3, .int (34 : Int32)), (2, .ref bH), (1, .int (0 : Int32)), (0, .ref y)]) hx hb dX2_tiles_11 hl (by decide) rfl (fun ls hl => ?_)
  obtain ⟨n9, hw⟩ := hw
  exact L13 n9 (0 : Int32) (34 : Int32) (0 : Int32) _ _ _ hw hP hD hS (lv_sub hl [4, 3, 2, 1, 0] rfl)

def w_X2_sizeOf (mel : Int32) (hM : (Nat → Int32)) (post : Int32 → Prop) : Prop := w_X2_tiles hM (fun r1 => (post (r1 + ((3 : Int32) * mel))))

set_option maxHeartbeats 4000000 in
set_option maxRecDepth 100000 in
theorem c_X2_sizeOf (l : Launch) (dC : Nat → ClassId) (dI : Nat → Nat → Nat) (cI cZ : ClassId) (y : Nat) (bH : Nat) (bS : Nat) (bL : Nat) (bO : Nat) (bK : Nat) (bZ : Nat) (bR : Nat) (bG : Nat) (bB : Nat) (bX : Nat) (sz : Nat) (thr : Int32) (mel : Int32) (sea : Int32) (rnd : Int32) (bas : Int32) (lim : Int32) (hM : (Nat → Int32)) (post : Int32 → Prop) (hw : w_X2_sizeOf mel hM post) : Met l yX2_sizeOf wsX2_sizeOf ({ frames := 2, cells := 0, slots := 0, locals := 40 } : Room) (va_Pc [.ref y] (fun U => U.heap.size = sz ∧ va_P (dC, dI) vwCl [(y, .inr (2, [.int thr, .ref bH, .ref bS, .ref bL, .int mel, .ref bO, .ref bK, .ref bZ, .int sea, .int rnd, .int bas, .int lim, .ref bR, .ref bG, .ref bB, .ref bX])), (bH, .inl (cI, 34, .inl hM))] U.heap ∧ va_K (dC, dI) vwCl [(cI, .int), (cZ, .boolean)] U ∧ va_D (fun _ => True) [(y, .inr (2, [.int thr, .ref bH, .ref bS, .ref bL, .int mel, .ref bO, .ref bK, .ref bZ, .int sea, .int rnd, .int bas, .int lim, .ref bR, .ref bG, .ref bB, .ref bX])), (bH, .inl (cI, 34, .inl hM))])) (va_Qi (fun (r9 : Int32) (u9 : Unit) => post r9) (fun (u9 : Unit) (t9 : State) => va_P (dC, dI) vwCl [(y, .inr (2, [.int thr, .ref bH, .ref bS, .ref bL, .int mel, .ref bO, .ref bK, .ref bZ, .int sea, .int rnd, .int bas, .int lim, .ref bR, .ref bG, .ref bB, .ref bX])), (bH, .inl (cI, 34, .inl hM))] t9.heap ∧ va_K (dC, dI) vwCl [(cI, .int), (cZ, .boolean)] t9 ∧ va_D (va_A [(y, .inr (2, [.int thr, .ref bH, .ref bS, .ref bL, .int mel, .ref bO, .ref bK, .ref bZ, .int sea, .int rnd, .int bas, .int lim, .ref bR, .ref bG, .ref bB, .ref bX])), (bH, .inl (cI, 34, .inl hM))] sz) [(y, .inr (2, [.int thr, .ref bH, .ref bS, .ref bL, .int mel, .ref bO, .ref bK, .ref bZ, .int sea, .int rnd, .int bas, .int lim, .ref bR, .ref bG, .ref bB, .ref bX])), (bH, .inl (cI, 34, .inl hM))]) (va_A [(y, .inr (2, [.int thr, .ref bH, .ref bS, .ref bL, .int mel, .ref bO, .ref bK, .ref bZ, .int sea, .int rnd, .int bas, .int lim, .ref bR, .ref bG, .ref bB, .ref bX])), (bH, .inl (cI, 34, .inl hM))] sz)) 0 0 (va_A [(y, .inr (2, [.int thr, .ref bH, .ref bS, .ref bL, .int mel, .ref bO, .ref bK, .ref bZ, .int sea, .int rnd, .int bas, .int lim, .ref bR, .ref bG, .ref bB, .ref bX])), (bH, .inl (cI, 34, .inl hM))] sz) := by
  refine Met.ofW (cc := cX2_sizeOf) (maxL := 1) (ret := (some .int)) (by decide) rfl ?_
  intro p e s m args below meth c s₁ B hml hv
  obtain ⟨rfl, hsz, hP, hK, hD0⟩ := hv
  have hx := B.exec
  have hb := B.bytes
  have hr := B.returns
  have hts := atoms_spec (ws := wsX2_sizeOf) B.pre
  have hown : s.vm.findClass RX2 = some m.cls := findClass_of_methodNamed B.named
  have hlocks := B.notSynchronized
  have hinX2 : ∀ w ∈ u_ws RX2 TX2 16, w ∈ wsX2_sizeOf := by decide +kernel
  subst hsz
  have hD := hD0.self (sz := s.heap.size)
  generalize hAe : va_A [(y, .inr (2, [.int thr, .ref bH, .ref bS, .ref bL, .int mel, .ref bO, .ref bK, .ref bZ, .int sea, .int rnd, .int bas, .int lim, .ref bR, .ref bG, .ref bB, .ref bX])), (bH, .inl (cI, 34, .inl hM))] s.heap.size = A at hD ⊢
  have hA : ∀ q : Nat, s.heap.size ≤ q → A q := fun q h => by rw [← hAe]; exact Or.inr h
  have hS : va_S A s.heap s.heap [] := va_S.rf
  have hl := lv_entry ([.ref y]) (n := 1) (Nat.le_of_ble_eq_true rfl)
  rw [lg_entry_eq]
  generalize (lg_sl ([.ref y]) ++ List.replicate (1 - (lg_sl ([.ref y])).length) Slot.unset).toArray = ls at hl ⊢
  have hl : lv_has ls 1 [(0, .ref y)] := hl
  refine (?_ : ∀ Q9 : State → Prop, MQ below _ _ s _ _ _ = Q9 → W p l e ({ frames := 2, cells := 0, slots := 0, locals := 40 } : Room) s m _ below meth c s.heap [] 0 0 Q9 (F0 m 0 ls [])) _ rfl
  intro Q9 hQ9
  have hw : w_X2_tiles hM (fun r1 => (post (r1 + ((3 : Int32) * mel)))) := hw
  refine lv_aload_n hx hb dX2_sizeOf_0 rfl (lv_at hl 0 rfl) ?_
  have hPc := hP.sub (ws' := [(y, .inr (2, [.int thr, .ref bH, .ref bS, .ref bL, .int mel, .ref bO, .ref bK, .ref bZ, .int sea, .int rnd, .int bas, .int lim, .ref bR, .ref bG, .ref bB, .ref bX])), (bH, .inl (cI, 34, .inl hM))]) [0, 1] rfl
  have hDc := hD.sub (ws' := [(y, .inr (2, [.int thr, .ref bH, .ref bS, .ref bL, .int mel, .ref bO, .ref bK, .ref bZ, .int sea, .int rnd, .int bas, .int lim, .ref bR, .ref bG, .ref bB, .ref bX])), (bH, .inl (cI, 34, .inl hM))]) [0, 1] (by decide) rfl
  have hFc := va_free (wc := [(y, .inr (2, [.int thr, .ref bH, .ref bS, .ref bL, .int mel, .ref bO, .ref bK, .ref bZ, .int sea, .int rnd, .int bas, .int lim, .ref bR, .ref bG, .ref bB, .ref bX])), (bH, .inl (cI, 34, .inl hM))]) hD hS hA [0, 1] rfl
  refine va_calli (va_runV (As := []) (rest := []) ⟨hx, hb, hml, hown, hts⟩ (c_X2_tiles l dC dI cI cZ y bH bS bL bO bK bZ bR bG bB bX s.heap.size thr mel sea rnd bas lim hM _ hw) (cwV 0 hts gX2_sizeOf_X2_tiles rfl rfl rfl (by decide +kernel) ⟨Nat.le_of_ble_eq_true rfl, Nat.le_of_ble_eq_true rfl⟩) ⟨fun a U g mk q => by obtain ⟨q0, q1, qP, qK, qD⟩ := q; exact ⟨q0, q1, qP, va_K.moved (u := U) (U := U.calling g mk a) (Vm.Alike.refl U.vm) qK, qD⟩, va_recv hK hPc (ci := 2) (q0 := 0) rfl rfl, fun U hU hW => ⟨rfl, by rw [hU], by rw [hU]; exact hPc, va_K.moved hW.alike hK, hDc.weaken (fun _ _ _ _ => trivial)⟩⟩ rfl rfl hl.1 rfl (lv_room (Nat.le_of_ble_eq_true rfl)) dX2_sizeOf_1 ⟨Nat.le_of_ble_eq_true rfl, Nat.le_of_ble_eq_true rfl⟩) hS (fun q _ h => hFc q h) hFc (fun r1 u t H1 locs ht hvm hw hB hz1 hk1 hS => ?_)
  obtain ⟨hP1, -, hD1⟩ := hB
  have hw := And.intro hw trivial
  try dsimp only at hw
  have hw := hw.1
  rw [ht] at hP1
  obtain ⟨hP, hD⟩ := va_join (wr := []) (w1 := [(y, .inr (2, [.int thr, .ref bH, .ref bS, .ref bL, .int mel, .ref bO, .ref bK, .ref bZ, .int sea, .int rnd, .int bas, .int lim, .ref bR, .ref bG, .ref bB, .ref bX])), (bH, .inl (cI, 34, .inl hM))]) hP hD [0, 1] [] rfl rfl (by decide) (by decide) hk1 hFc hP1 hD1
  generalize H1 = H at hP hS ⊢
  have hP : va_P (dC, dI) vwCl [(y, .inr (2, [.int thr, .ref bH, .ref bS, .ref bL, .int mel, .ref bO, .ref bK, .ref bZ, .int sea, .int rnd, .int bas, .int lim, .ref bR, .ref bG, .ref bB, .ref bX])), (bH, .inl (cI, 34, .inl hM))] H := hP
  have hD : va_D A [(y, .inr (2, [.int thr, .ref bH, .ref bS, .ref bL, .int mel, .ref bO, .ref bK, .ref bZ, .int sea, .int rnd, .int bas, .int lim, .ref bR, .ref bG, .ref bB, .ref bX])), (bH, .inl (cI, 34, .inl hM))] := hD
  refine lv_iconst (v := 3) hx hb dX2_sizeOf_4 (by decide) ?_
  refine lv_aload_n hx hb dX2_sizeOf_5 rfl (lv_at hl 0 rfl) ?_
  refine va_get (D := (dC, dI)) (ci := 2) (v := .int mel) (C := RX2) (T := TX2) (N := 16) hx hb hts hinX2 hown hK hP 0 rfl rfl 4 (by decide) (hts (.fieldLink RX2 69 "TileHandModel" "melds" "I") (by decide +kernel)) (fun _ h9 => h9) rfl dX2_sizeOf_6 ?_
  refine lv_imul hx hb dX2_sizeOf_9 ?_
  refine lv_iadd hx hb dX2_sizeOf_10 ?_
  rw [← hQ9]
  exact W.iret (v := r1 + ((3 : Int32) * mel)) hx hb hr (fun t ht hW => ⟨⟨r1 + ((3 : Int32) * mel), (), rfl, hw, by rw [ht]; exact hP, va_K.moved hW.alike hK, hD⟩, hS.F ht⟩) hS.2.2 dX2_sizeOf_11

def w_X2_left (hM : (Nat → Int32)) (sM : (Nat → Int32)) (lM : (Nat → Int32)) (p0 : Int32) (post : Int32 → Prop) : Prop := vp_in p0 34 ∧ (vp_in p0 34 ∧ (vp_in p0 34 ∧ (post ((((4 : Int32) - (hM p0.toNatClampNeg)) - (lM p0.toNatClampNeg)) - (sM p0.toNatClampNeg)))))

set_option maxHeartbeats 4000000 in
set_option maxRecDepth 100000 in
theorem c_X2_left (l : Launch) (dC : Nat → ClassId) (dI : Nat → Nat → Nat) (cI cZ : ClassId) (y : Nat) (bH : Nat) (bS : Nat) (bL : Nat) (bO : Nat) (bK : Nat) (bZ : Nat) (bR : Nat) (bG : Nat) (bB : Nat) (bX : Nat) (sz : Nat) (thr : Int32) (mel : Int32) (sea : Int32) (rnd : Int32) (bas : Int32) (lim : Int32) (hM : (Nat → Int32)) (sM : (Nat → Int32)) (lM : (Nat → Int32)) (p0 : Int32) (post : Int32 → Prop) (hw : w_X2_left hM sM lM p0 post) : Met l yX2_left wsX2_left ({ frames := 0, cells := 0, slots := 0, locals := 0 } : Room) (va_Pc [.ref y, .int p0] (fun U => U.heap.size = sz ∧ va_P (dC, dI) vwCl [(y, .inr (2, [.int thr, .ref bH, .ref bS, .ref bL, .int mel, .ref bO, .ref bK, .ref bZ, .int sea, .int rnd, .int bas, .int lim, .ref bR, .ref bG, .ref bB, .ref bX])), (bH, .inl (cI, 34, .inl hM)), (bS, .inl (cI, 34, .inl sM)), (bL, .inl (cI, 34, .inl lM))] U.heap ∧ va_K (dC, dI) vwCl [(cI, .int), (cZ, .boolean)] U ∧ va_D (fun _ => True) [(y, .inr (2, [.int thr, .ref bH, .ref bS, .ref bL, .int mel, .ref bO, .ref bK, .ref bZ, .int sea, .int rnd, .int bas, .int lim, .ref bR, .ref bG, .ref bB, .ref bX])), (bH, .inl (cI, 34, .inl hM)), (bS, .inl (cI, 34, .inl sM)), (bL, .inl (cI, 34, .inl lM))])) (va_Qi (fun (r9 : Int32) (u9 : Unit) => post r9) (fun (u9 : Unit) (t9 : State) => va_P (dC, dI) vwCl [(y, .inr (2, [.int thr, .ref bH, .ref bS, .ref bL, .int mel, .ref bO, .ref bK, .ref bZ, .int sea, .int rnd, .int bas, .int lim, .ref bR, .ref bG, .ref bB, .ref bX])), (bH, .inl (cI, 34, .inl hM)), (bS, .inl (cI, 34, .inl sM)), (bL, .inl (cI, 34, .inl lM))] t9.heap ∧ va_K (dC, dI) vwCl [(cI, .int), (cZ, .boolean)] t9 ∧ va_D (va_A [(y, .inr (2, [.int thr, .ref bH, .ref bS, .ref bL, .int mel, .ref bO, .ref bK, .ref bZ, .int sea, .int rnd, .int bas, .int lim, .ref bR, .ref bG, .ref bB, .ref bX])), (bH, .inl (cI, 34, .inl hM)), (bS, .inl (cI, 34, .inl sM)), (bL, .inl (cI, 34, .inl lM))] sz) [(y, .inr (2, [.int thr, .ref bH, .ref bS, .ref bL, .int mel, .ref bO, .ref bK, .ref bZ, .int sea, .int rnd, .int bas, .int lim, .ref bR, .ref bG, .ref bB, .ref bX])), (bH, .inl (cI, 34, .inl hM)), (bS, .inl (cI, 34, .inl sM)), (bL, .inl (cI, 34, .inl lM))]) (va_A [(y, .inr (2, [.int thr, .ref bH, .ref bS, .ref bL, .int mel, .ref bO, .ref bK, .ref bZ, .int sea, .int rnd, .int bas, .int lim, .ref bR, .ref bG, .ref bB, .ref bX])), (bH, .inl (cI, 34, .inl hM)), (bS, .inl (cI, 34, .inl sM)), (bL, .inl (cI, 34, .inl lM))] sz)) 0 0 (va_A [(y, .inr (2, [.int thr, .ref bH, .ref bS, .ref bL, .int mel, .ref bO, .ref bK, .ref bZ, .int sea, .int rnd, .int bas, .int lim, .ref bR, .ref bG, .ref bB, .ref bX])), (bH, .inl (cI, 34, .inl hM)), (bS, .inl (cI, 34, .inl sM)), (bL, .inl (cI, 34, .inl lM))] sz) := by
  refine Met.ofW (cc := cX2_left) (maxL := 2) (ret := (some .int)) (by decide) rfl ?_
  intro p e s m args below meth c s₁ B hml hv
  obtain ⟨rfl, hsz, hP, hK, hD0⟩ := hv
  have hx := B.exec
  have hb := B.bytes
  have hr := B.returns
  have hts := atoms_spec (ws := wsX2_left) B.pre
  have hown : s.vm.findClass RX2 = some m.cls := findClass_of_methodNamed B.named
  have hlocks := B.notSynchronized
  have hinX2 : ∀ w ∈ u_ws RX2 TX2 16, w ∈ wsX2_left := by decide +kernel
  subst hsz
  have hD := hD0.self (sz := s.heap.size)
  generalize hAe : va_A [(y, .inr (2, [.int thr, .ref bH, .ref bS, .ref bL, .int mel, .ref bO, .ref bK, .ref bZ, .int sea, .int rnd, .int bas, .int lim, .ref bR, .ref bG, .ref bB, .ref bX])), (bH, .inl (cI, 34, .inl hM)), (bS, .inl (cI, 34, .inl sM)), (bL, .inl (cI, 34, .inl lM))] s.heap.size = A at hD ⊢
  have hA : ∀ q : Nat, s.heap.size ≤ q → A q := fun q h => by rw [← hAe]; exact Or.inr h
  have hS : va_S A s.heap s.heap [] := va_S.rf
  have hl := lv_entry ([.ref y, .int p0]) (n := 2) (Nat.le_of_ble_eq_true rfl)
  rw [lg_entry_eq]
  generalize (lg_sl ([.ref y, .int p0]) ++ List.replicate (2 - (lg_sl ([.ref y, .int p0])).length) Slot.unset).toArray = ls at hl ⊢
  have hl : lv_has ls 2 [(0, .ref y), (1, .int p0)] := hl
  refine (?_ : ∀ Q9 : State → Prop, MQ below _ _ s _ _ _ = Q9 → W p l e ({ frames := 0, cells := 0, slots := 0, locals := 0 } : Room) s m _ below meth c s.heap [] 0 0 Q9 (F0 m 0 ls [])) _ rfl
  intro Q9 hQ9
  have hw : vp_in p0 34 ∧ (vp_in p0 34 ∧ (vp_in p0 34 ∧ (post ((((4 : Int32) - (hM p0.toNatClampNeg)) - (lM p0.toNatClampNeg)) - (sM p0.toNatClampNeg))))) := hw
  refine lv_iconst (v := 4) hx hb dX2_left_0 (by decide) ?_
  refine lv_aload_n hx hb dX2_left_1 rfl (lv_at hl 0 rfl) ?_
  refine va_get (D := (dC, dI)) (ci := 2) (v := .ref bH) (C := RX2) (T := TX2) (N := 16) hx hb hts hinX2 hown hK hP 0 rfl rfl 1 (by decide) (hts (.fieldLink RX2 9 "TileHandModel" "hand" "[I") (by decide +kernel)) (fun _ h9 => h9) rfl dX2_left_2 ?_
  refine lv_iload_n hx hb dX2_left_5 rfl (lv_at hl 1 rfl) ?_
  obtain ⟨h1, hw⟩ := hw
  refine va_iald hx hb hK hP 1 0 rfl rfl h1 dX2_left_6 ?_
  refine lv_isub hx hb dX2_left_7 ?_
  refine lv_aload_n hx hb dX2_left_8 rfl (lv_at hl 0 rfl) ?_
  refine va_get (D := (dC, dI)) (ci := 2) (v := .ref bL) (C := RX2) (T := TX2) (N := 16) hx hb hts hinX2 hown hK hP 0 rfl rfl 3 (by decide) (hts (.fieldLink RX2 16 "TileHandModel" "laid" "[I") (by decide +kernel)) (fun _ h9 => h9) rfl dX2_left_9 ?_
  refine lv_iload_n hx hb dX2_left_12 rfl (lv_at hl 1 rfl) ?_
  obtain ⟨h2, hw⟩ := hw
  refine va_iald hx hb hK hP 3 0 rfl rfl h2 dX2_left_13 ?_
  refine lv_isub hx hb dX2_left_14 ?_
  refine lv_aload_n hx hb dX2_left_15 rfl (lv_at hl 0 rfl) ?_
  refine va_get (D := (dC, dI)) (ci := 2) (v := .ref bS) (C := RX2) (T := TX2) (N := 16) hx hb hts hinX2 hown hK hP 0 rfl rfl 2 (by decide) (hts (.fieldLink RX2 13 "TileHandModel" "seen" "[I") (by decide +kernel)) (fun _ h9 => h9) rfl dX2_left_16 ?_
  refine lv_iload_n hx hb dX2_left_19 rfl (lv_at hl 1 rfl) ?_
  obtain ⟨h3, hw⟩ := hw
  refine va_iald hx hb hK hP 2 0 rfl rfl h3 dX2_left_20 ?_
  refine lv_isub hx hb dX2_left_21 ?_
  rw [← hQ9]
  exact W.iret (v := (((4 : Int32) - (hM p0.toNatClampNeg)) - (lM p0.toNatClampNeg)) - (sM p0.toNatClampNeg)) hx hb hr (fun t ht hW => ⟨⟨(((4 : Int32) - (hM p0.toNatClampNeg)) - (lM p0.toNatClampNeg)) - (sM p0.toNatClampNeg), (), rfl, hw, by rw [ht]; exact hP, va_K.moved hW.alike hK, hD⟩, hS.F ht⟩) hS.2.2 dX2_left_22

def w_X2_draw_b35 (post : Int32 → Int32 → (Nat → Int32) → Prop) (mel : Int32) (sM : (Nat → Int32)) (lM : (Nat → Int32)) (p0 : Int32) (thr : Int32) (hM : (Nat → Int32)) : Prop := w_X2_fail thr (2 : Int32) (fun r5 thr_6 => (post r5 thr_6 hM))

def w_X2_draw (thr : Int32) (mel : Int32) (hM : (Nat → Int32)) (sM : (Nat → Int32)) (lM : (Nat → Int32)) (p0 : Int32) (post : Int32 → Int32 → (Nat → Int32) → Prop) : Prop := w_X2_isKind p0 (fun r1 => (((r1 = 0 → (w_X2_fail (0 : Int32) (1 : Int32) (fun r12 thr_13 => (post r12 thr_13 hM)))) ∧ (¬ r1 = 0 → (w_X2_sizeOf mel hM (fun r3 => (((r3 = (14 : Int32) → (w_X2_draw_b35 post mel sM lM p0 (0 : Int32) hM)) ∧ (¬ r3 = (14 : Int32) → (w_X2_left hM sM lM p0 (fun r7 => (((r7 = 0 → (w_X2_draw_b35 post mel sM lM p0 (0 : Int32) hM)) ∧ (¬ r7 = 0 → (vp_in p0 34 ∧ (vp_in p0 34 ∧ (w_X2_sizeOf mel (upd hM p0.toNatClampNeg ((hM p0.toNatClampNeg) + (1 : Int32))) (fun r11 => (post r11 (0 : Int32) (upd hM p0.toNatClampNeg ((hM p0.toNatClampNeg) + (1 : Int32))))))))))))))))))))))

set_option maxHeartbeats 4000000 in
set_option maxRecDepth 100000 in
theorem c_X2_draw (l : Launch) (dC : Nat → ClassId) (dI : Nat → Nat → Nat) (cI cZ : ClassId) (y : Nat) (bH : Nat) (bS : Nat) (bL : Nat) (bO : Nat) (bK : Nat) (bZ : Nat) (bR : Nat) (bG : Nat) (bB : Nat) (bX : Nat) (sz : Nat) (thr : Int32) (mel : Int32) (sea : Int32) (rnd : Int32) (bas : Int32) (lim : Int32) (hM : (Nat → Int32)) (sM : (Nat → Int32)) (lM : (Nat → Int32)) (p0 : Int32) (post : Int32 → Int32 → (Nat → Int32) → Prop) (hw : w_X2_draw thr mel hM sM lM p0 post) : Met l yX2_draw wsX2_draw ({ frames := 3, cells := 0, slots := 0, locals := 60 } : Room) (va_Pc [.ref y, .int p0] (fun U => U.heap.size = sz ∧ va_P (dC, dI) vwCl [(y, .inr (2, [.int thr, .ref bH, .ref bS, .ref bL, .int mel, .ref bO, .ref bK, .ref bZ, .int sea, .int rnd, .int bas, .int lim, .ref bR, .ref bG, .ref bB, .ref bX])), (bH, .inl (cI, 34, .inl hM)), (bS, .inl (cI, 34, .inl sM)), (bL, .inl (cI, 34, .inl lM))] U.heap ∧ va_K (dC, dI) vwCl [(cI, .int), (cZ, .boolean)] U ∧ va_D (fun _ => True) [(y, .inr (2, [.int thr, .ref bH, .ref bS, .ref bL, .int mel, .ref bO, .ref bK, .ref bZ, .int sea, .int rnd, .int bas, .int lim, .ref bR, .ref bG, .ref bB, .ref bX])), (bH, .inl (cI, 34, .inl hM)), (bS, .inl (cI, 34, .inl sM)), (bL, .inl (cI, 34, .inl lM))])) (va_Qi (fun (r9 : Int32) (u9 : Int32 × (Nat → Int32)) => post r9 u9.1 u9.2) (fun (u9 : Int32 × (Nat → Int32)) (t9 : State) => va_P (dC, dI) vwCl [(y, .inr (2, [.int u9.1, .ref bH, .ref bS, .ref bL, .int mel, .ref bO, .ref bK, .ref bZ, .int sea, .int rnd, .int bas, .int lim, .ref bR, .ref bG, .ref bB, .ref bX])), (bH, .inl (cI, 34, .inl u9.2)), (bS, .inl (cI, 34, .inl sM)), (bL, .inl (cI, 34, .inl lM))] t9.heap ∧ va_K (dC, dI) vwCl [(cI, .int), (cZ, .boolean)] t9 ∧ va_D (va_A [(y, .inr (2, [.int thr, .ref bH, .ref bS, .ref bL, .int mel, .ref bO, .ref bK, .ref bZ, .int sea, .int rnd, .int bas, .int lim, .ref bR, .ref bG, .ref bB, .ref bX])), (bH, .inl (cI, 34, .inl hM)), (bS, .inl (cI, 34, .inl sM)), (bL, .inl (cI, 34, .inl lM))] sz) [(y, .inr (2, [.int u9.1, .ref bH, .ref bS, .ref bL, .int mel, .ref bO, .ref bK, .ref bZ, .int sea, .int rnd, .int bas, .int lim, .ref bR, .ref bG, .ref bB, .ref bX])), (bH, .inl (cI, 34, .inl u9.2)), (bS, .inl (cI, 34, .inl sM)), (bL, .inl (cI, 34, .inl lM))]) (va_A [(y, .inr (2, [.int thr, .ref bH, .ref bS, .ref bL, .int mel, .ref bO, .ref bK, .ref bZ, .int sea, .int rnd, .int bas, .int lim, .ref bR, .ref bG, .ref bB, .ref bX])), (bH, .inl (cI, 34, .inl hM)), (bS, .inl (cI, 34, .inl sM)), (bL, .inl (cI, 34, .inl lM))] sz)) 0 0 (va_A [(y, .inr (2, [.int thr, .ref bH, .ref bS, .ref bL, .int mel, .ref bO, .ref bK, .ref bZ, .int sea, .int rnd, .int bas, .int lim, .ref bR, .ref bG, .ref bB, .ref bX])), (bH, .inl (cI, 34, .inl hM)), (bS, .inl (cI, 34, .inl sM)), (bL, .inl (cI, 34, .inl lM))] sz) := by
  refine Met.ofW (cc := cX2_draw) (maxL := 2) (ret := (some .int)) (by decide) rfl ?_
  intro p e s m args below meth c s₁ B hml hv
  obtain ⟨rfl, hsz, hP, hK, hD0⟩ := hv
  have hx := B.exec
  have hb := B.bytes
  have hr := B.returns
  have hts := atoms_spec (ws := wsX2_draw) B.pre
  have hown : s.vm.findClass RX2 = some m.cls := findClass_of_methodNamed B.named
  have hlocks := B.notSynchronized
  have hinX2 : ∀ w ∈ u_ws RX2 TX2 16, w ∈ wsX2_draw := by decide +kernel
  subst hsz
  have hD := hD0.self (sz := s.heap.size)
  generalize hAe : va_A [(y, .inr (2, [.int thr, .ref bH, .ref bS, .ref bL, .int mel, .ref bO, .ref bK, .ref bZ, .int sea, .int rnd, .int bas, .int lim, .ref bR, .ref bG, .ref bB, .ref bX])), (bH, .inl (cI, 34, .inl hM)), (bS, .inl (cI, 34, .inl sM)), (bL, .inl (cI, 34, .inl lM))] s.heap.size = A at hD ⊢
  have hA : ∀ q : Nat, s.heap.size ≤ q → A q := fun q h => by rw [← hAe]; exact Or.inr h
  have hS : va_S A s.heap s.heap [] := va_S.rf
  have hl := lv_entry ([.ref y, .int p0]) (n := 2) (Nat.le_of_ble_eq_true rfl)
  rw [lg_entry_eq]
  generalize (lg_sl ([.ref y, .int p0]) ++ List.replicate (2 - (lg_sl ([.ref y, .int p0])).length) Slot.unset).toArray = ls at hl ⊢
  have hl : lv_has ls 2 [(0, .ref y), (1, .int p0)] := hl
  refine (?_ : ∀ Q9 : State → Prop, MQ below _ _ s _ _ _ = Q9 → W p l e ({ frames := 3, cells := 0, slots := 0, locals := 60 } : Room) s m _ below meth c s.heap [] 0 0 Q9 (F0 m 0 ls [])) _ rfl
  intro Q9 hQ9
  have hw : w_X2_isKind p0 (fun r1 => (((r1 = 0 → (w_X2_fail (0 : Int32) (1 : Int32) (fun r12 thr_13 => (post r12 thr_13 hM)))) ∧ (¬ r1 = 0 → (w_X2_sizeOf mel hM (fun r3 => (((r3 = (14 : Int32) → (w_X2_draw_b35 post mel sM lM p0 (0 : Int32) hM)) ∧ (¬ r3 = (14 : Int32) → (w_X2_left hM sM lM p0 (fun r7 => (((r7 = 0 → (w_X2_draw_b35 post mel sM lM p0 (0 : Int32) hM)) ∧ (¬ r7 = 0 → (vp_in p0 34 ∧ (vp_in p0 34 ∧ (w_X2_sizeOf mel (upd hM p0.toNatClampNeg ((hM p0.toNatClampNeg) + (1 : Int32))) (fun r11 => (post r11 (0 : Int32) (upd hM p0.toNatClampNeg ((hM p0.toNatClampNeg) + (1 : Int32)))))))))))))))))))))) := hw
  have L35 : ∀ (thr : Int32) (hM : (Nat → Int32)) (H : Heap) (locs : List Loc) (ls : Array Slot), w_X2_draw_b35 post mel sM lM p0 thr hM → va_P (dC, dI) vwCl [(y, .inr (2, [.int thr, .ref bH, .ref bS, .ref bL, .int mel, .ref bO, .ref bK, .ref bZ, .int sea, .int rnd, .int bas, .int lim, .ref bR, .ref bG, .ref bB, .ref bX])), (bH, .inl (cI, 34, .inl hM)), (bS, .inl (cI, 34, .inl sM)), (bL, .inl (cI, 34, .inl lM))] H → va_D A [(y, .inr (2, [.int thr, .ref bH, .ref bS, .ref bL, .int mel, .ref bO, .ref bK, .ref bZ, .int sea, .int rnd, .int bas, .int lim, .ref bR, .ref bG, .ref bB, .ref bX])), (bH, .inl (cI, 34, .inl hM)), (bS, .inl (cI, 34, .inl sM)), (bL, .inl (cI, 34, .inl lM))] → va_S A s.heap H locs → lv_has ls 2 [(0, .ref y)] → W p l e ({ frames := 3, cells := 0, slots := 0, locals := 60 } : Room) s m ([.ref y, .int p0] : List Value).toArray below meth c H locs 0 0 Q9 (F0 m 35 ls []) := by
    intro thr hM H locs ls hw hP hD hS hl
    refine lv_aload_n hx hb dX2_draw_35 rfl (lv_at hl 0 rfl) ?_
    refine lv_iconst (v := 2) hx hb dX2_draw_36 (by decide) ?_
    have hPc := hP.sub (ws' := [(y, .inr (2, [.int thr, .ref bH, .ref bS, .ref bL, .int mel, .ref bO, .ref bK, .ref bZ, .int sea, .int rnd, .int bas, .int lim, .ref bR, .ref bG, .ref bB, .ref bX]))]) [0] rfl
    have hDc := hD.sub (ws' := [(y, .inr (2, [.int thr, .ref bH, .ref bS, .ref bL, .int mel, .ref bO, .ref bK, .ref bZ, .int sea, .int rnd, .int bas, .int lim, .ref bR, .ref bG, .ref bB, .ref bX]))]) [0] (by decide) rfl
    have hFc := va_free (wc := [(y, .inr (2, [.int thr, .ref bH, .ref bS, .ref bL, .int mel, .ref bO, .ref bK, .ref bZ, .int sea, .int rnd, .int bas, .int lim, .ref bR, .ref bG, .ref bB, .ref bX]))]) hD hS hA [0] rfl
    refine va_calli (va_runV (As := [.int (2 : Int32)]) (rest := []) ⟨hx, hb, hml, hown, hts⟩ (c_X2_fail l dC dI cI cZ y bH bS bL bO bK bZ bR bG bB bX H.size thr mel sea rnd bas lim (2 : Int32) _ hw) (cwV 1 hts gX2_draw_X2_fail rfl rfl rfl (by decide +kernel) ⟨Nat.le_of_ble_eq_true rfl, Nat.le_of_ble_eq_true rfl⟩) ⟨fun a U g mk q => by obtain ⟨q0, q1, qP, qK, qD⟩ := q; exact ⟨q0, q1, qP, va_K.moved (u := U) (U := U.calling g mk a) (Vm.Alike.refl U.vm) qK, qD⟩, va_recv hK hPc (ci := 2) (q0 := 0) rfl rfl, fun U hU hW => ⟨rfl, by rw [hU], by rw [hU]; exact hPc, va_K.moved hW.alike hK, hDc.weaken (fun _ _ _ _ => trivial)⟩⟩ rfl rfl hl.1 rfl (lv_room (Nat.le_of_ble_eq_true rfl)) dX2_draw_37 ⟨Nat.le_of_ble_eq_true rfl, Nat.le_of_ble_eq_true rfl⟩) hS (fun q _ h => hFc q h) hFc (fun r5 u t H1 locs ht hvm hw hB hz1 hk1 hS => ?_)
    obtain ⟨thr_6, rfl⟩ : ∃ z, z = u := ⟨_, rfl⟩
    obtain ⟨hP1, -, hD1⟩ := hB
    have hw := And.intro hw trivial
    try dsimp only at hw
    have hw := hw.1
    rw [ht] at hP1
    obtain ⟨hP, hD⟩ := va_join (wr := [(bH, .inl (cI, 34, .inl hM)), (bS, .inl (cI, 34, .inl sM)), (bL, .inl (cI, 34, .inl lM))]) (w1 := [(y, .inr (2, [.int thr_6, .ref bH, .ref bS, .ref bL, .int mel, .ref bO, .ref bK, .ref bZ, .int sea, .int rnd, .int bas, .int lim, .ref bR, .ref bG, .ref bB, .ref bX]))]) hP hD [0] [1, 2, 3] rfl rfl (by decide) (by decide) hk1 hFc hP1 hD1
    generalize H1 = H at hP hS ⊢
    have hP : va_P (dC, dI) vwCl [(bH, .inl (cI, 34, .inl hM)), (bS, .inl (cI, 34, .inl sM)), (bL, .inl (cI, 34, .inl lM)), (y, .inr (2, [.int thr_6, .ref bH, .ref bS, .ref bL, .int mel, .ref bO, .ref bK, .ref bZ, .int sea, .int rnd, .int bas, .int lim, .ref bR, .ref bG, .ref bB, .ref bX]))] H := hP
    have hD : va_D A [(bH, .inl (cI, 34, .inl hM)), (bS, .inl (cI, 34, .inl sM)), (bL, .inl (cI, 34, .inl lM)), (y, .inr (2, [.int thr_6, .ref bH, .ref bS, .ref bL, .int mel, .ref bO, .ref bK, .ref bZ, .int sea, .int rnd, .int bas, .int lim, .ref bR, .ref bG, .ref bB, .ref bX]))] := hD
    have hP9 := hP.sub (ws' := [(y, .inr (2, [.int thr_6, .ref bH, .ref bS, .ref bL, .int mel, .ref bO, .ref bK, .ref bZ, .int sea, .int rnd, .int bas, .int lim, .ref bR, .ref bG, .ref bB, .ref bX])), (bH, .inl (cI, 34, .inl hM)), (bS, .inl (cI, 34, .inl sM)), (bL, .inl (cI, 34, .inl lM))]) [3, 0, 1, 2] rfl
    have hD9 := hD.sub (ws' := [(y, .inr (2, [.int thr_6, .ref bH, .ref bS, .ref bL, .int mel, .ref bO, .ref bK, .ref bZ, .int sea, .int rnd, .int bas, .int lim, .ref bR, .ref bG, .ref bB, .ref bX])), (bH, .inl (cI, 34, .inl hM)), (bS, .inl (cI, 34, .inl sM)), (bL, .inl (cI, 34, .inl lM))]) [3, 0, 1, 2] (by decide) rfl
    rw [← hQ9]
    exact W.iret (v := r5) hx hb hr (fun t ht hW => ⟨⟨r5, (thr_6, hM), rfl, hw, by rw [ht]; exact hP9, va_K.moved hW.alike hK, hD9⟩, hS.F ht⟩) hS.2.2 dX2_draw_40
  refine lv_aload_n hx hb dX2_draw_0 rfl (lv_at hl 0 rfl) ?_
  refine lv_iconst (v := 0) hx hb dX2_draw_1 (by decide) ?_
  refine va_put (D := (dC, dI)) (ci := 2) (v := .int (0 : Int32)) (ty := .int) (C := RX2) (T := TX2) (N := 16) hx hb hts hinX2 tyX2 tyX2_ok nmX2 hown hK hP hD hS 0 rfl rfl 0 (by decide) (hts (.fieldLink RX2 54 "TileHandModel" "thrown" "I") (by decide +kernel)) (fun _ h9 => h9) rfl (by decide +kernel) rfl rfl (Nat.le_of_ble_eq_true rfl) dX2_draw_2 (fun H locs hP hD hS => ?_)
  have hP : va_P (dC, dI) vwCl [(y, .inr (2, [.int (0 : Int32), .ref bH, .ref bS, .ref bL, .int mel, .ref bO, .ref bK, .ref bZ, .int sea, .int rnd, .int bas, .int lim, .ref bR, .ref bG, .ref bB, .ref bX])), (bH, .inl (cI, 34, .inl hM)), (bS, .inl (cI, 34, .inl sM)), (bL, .inl (cI, 34, .inl lM))] H := hP
  have hD : va_D A [(y, .inr (2, [.int (0 : Int32), .ref bH, .ref bS, .ref bL, .int mel, .ref bO, .ref bK, .ref bZ, .int sea, .int rnd, .int bas, .int lim, .ref bR, .ref bG, .ref bB, .ref bX])), (bH, .inl (cI, 34, .inl hM)), (bS, .inl (cI, 34, .inl sM)), (bL, .inl (cI, 34, .inl lM))] := hD
  refine lv_iload_n hx hb dX2_draw_5 rfl (lv_at hl 1 rfl) ?_
  have hPc := hP.sub (ws' := []) [] rfl
  have hDc := hD.sub (ws' := []) [] (by decide) rfl
  have hFc := va_free (wc := []) hD hS hA [] rfl
  refine va_calli (va_runS (As := [.int p0]) (rest := []) ⟨hx, hb, hml, hown, hts⟩ (c_X2_isKind l dC dI cI cZ H.size p0 _ hw) (va_cwS 1 hts gX2_draw_X2_isKind rfl rfl rfl (by decide +kernel) ⟨Nat.le_of_ble_eq_true rfl, Nat.le_of_ble_eq_true rfl⟩) ⟨fun a U g mk q => by obtain ⟨q0, q1, qP, qK, qD⟩ := q; exact ⟨q0, q1, qP, va_K.moved (u := U) (U := U.calling g mk a) (Vm.Alike.refl U.vm) qK, qD⟩, fun U hU hW => ⟨rfl, by rw [hU], by rw [hU]; exact hPc, va_K.moved hW.alike hK, hDc.weaken (fun _ _ _ _ => trivial)⟩⟩ rfl rfl hl.1 rfl (lv_room (Nat.le_of_ble_eq_true rfl)) dX2_draw_6 ⟨Nat.le_of_ble_eq_true rfl, Nat.le_of_ble_eq_true rfl⟩) hS (fun q _ h => hFc q h) hFc (fun r1 u t H1 locs ht hvm hw hB hz1 hk1 hS => ?_)
  obtain ⟨hP1, -, hD1⟩ := hB
  have hw := And.intro hw trivial
  try dsimp only at hw
  have hw := hw.1
  rw [ht] at hP1
  obtain ⟨hP, hD⟩ := va_join (wr := [(y, .inr (2, [.int (0 : Int32), .ref bH, .ref bS, .ref bL, .int mel, .ref bO, .ref bK, .ref bZ, .int sea, .int rnd, .int bas, .int lim, .ref bR, .ref bG, .ref bB, .ref bX])), (bH, .inl (cI, 34, .inl hM)), (bS, .inl (cI, 34, .inl sM)), (bL, .inl (cI, 34, .inl lM))]) (w1 := []) hP hD [] [0, 1, 2, 3] rfl rfl (by decide) (by decide) hk1 hFc hP1 hD1
  generalize H1 = H at hP hS ⊢
  have hP : va_P (dC, dI) vwCl [(y, .inr (2, [.int (0 : Int32), .ref bH, .ref bS, .ref bL, .int mel, .ref bO, .ref bK, .ref bZ, .int sea, .int rnd, .int bas, .int lim, .ref bR, .ref bG, .ref bB, .ref bX])), (bH, .inl (cI, 34, .inl hM)), (bS, .inl (cI, 34, .inl sM)), (bL, .inl (cI, 34, .inl lM))] H := hP
  have hD : va_D A [(y, .inr (2, [.int (0 : Int32), .ref bH, .ref bS, .ref bL, .int mel, .ref bO, .ref bK, .ref bZ, .int sea, .int rnd, .int bas, .int lim, .ref bR, .ref bG, .ref bB, .ref bX])), (bH, .inl (cI, 34, .inl hM)), (bS, .inl (cI, 34, .inl sM)), (bL, .inl (cI, 34, .inl lM))] := hD
  refine lv_if_ne (tgt := 18) hx hb dX2_draw_9 (by decide) (fun c2 => ?_) (fun c2 => ?_)
  · have hw := hw.2 c2
    refine lv_aload_n hx hb dX2_draw_18 rfl (lv_at hl 0 rfl) ?_
    have hPc := hP.sub (ws' := [(y, .inr (2, [.int (0 : Int32), .ref bH, .ref bS, .ref bL, .int mel, .ref bO, .ref bK, .ref bZ, .int sea, .int rnd, .int bas, .int lim, .ref bR, .ref bG, .ref bB, .ref bX])), (bH, .inl (cI, 34, .inl hM))]) [0, 1] rfl
    have hDc := hD.sub (ws' := [(y, .inr (2, [.int (0 : Int32), .ref bH, .ref bS, .ref bL, .int mel, .ref bO, .ref bK, .ref bZ, .int sea, .int rnd, .int bas, .int lim, .ref bR, .ref bG, .ref bB, .ref bX])), (bH, .inl (cI, 34, .inl hM))]) [0, 1] (by decide) rfl
    have hFc := va_free (wc := [(y, .inr (2, [.int (0 : Int32), .ref bH, .ref bS, .ref bL, .int mel, .ref bO, .ref bK, .ref bZ, .int sea, .int rnd, .int bas, .int lim, .ref bR, .ref bG, .ref bB, .ref bX])), (bH, .inl (cI, 34, .inl hM))]) hD hS hA [0, 1] rfl
    refine va_calli (va_runV (As := []) (rest := []) ⟨hx, hb, hml, hown, hts⟩ (c_X2_sizeOf l dC dI cI cZ y bH bS bL bO bK bZ bR bG bB bX H.size (0 : Int32) mel sea rnd bas lim hM _ hw) (cwV 0 hts gX2_draw_X2_sizeOf rfl rfl rfl (by decide +kernel) ⟨Nat.le_of_ble_eq_true rfl, Nat.le_of_ble_eq_true rfl⟩) ⟨fun a U g mk q => by obtain ⟨q0, q1, qP, qK, qD⟩ := q; exact ⟨q0, q1, qP, va_K.moved (u := U) (U := U.calling g mk a) (Vm.Alike.refl U.vm) qK, qD⟩, va_recv hK hPc (ci := 2) (q0 := 0) rfl rfl, fun U hU hW => ⟨rfl, by rw [hU], by rw [hU]; exact hPc, va_K.moved hW.alike hK, hDc.weaken (fun _ _ _ _ => trivial)⟩⟩ rfl rfl hl.1 rfl (lv_room (Nat.le_of_ble_eq_true rfl)) dX2_draw_19 ⟨Nat.le_of_ble_eq_true rfl, Nat.le_of_ble_eq_true rfl⟩) hS (fun q _ h => hFc q h) hFc (fun r3 u t H1 locs ht hvm hw hB hz1 hk1 hS => ?_)
    obtain ⟨hP1, -, hD1⟩ := hB
    have hw := And.intro hw trivial
    try dsimp only at hw
    have hw := hw.1
    rw [ht] at hP1
    obtain ⟨hP, hD⟩ := va_join (wr := [(bS, .inl (cI, 34, .inl sM)), (bL, .inl (cI, 34, .inl lM))]) (w1 := [(y, .inr (2, [.int (0 : Int32), .ref bH, .ref bS, .ref bL, .int mel, .ref bO, .ref bK, .ref bZ, .int sea, .int rnd, .int bas, .int lim, .ref bR, .ref bG, .ref bB, .ref bX])), (bH, .inl (cI, 34, .inl hM))]) hP hD [0, 1] [2, 3] rfl rfl (by decide) (by decide) hk1 hFc hP1 hD1
    generalize H1 = H at hP hS ⊢
    have hP : va_P (dC, dI) vwCl [(bS, .inl (cI, 34, .inl sM)), (bL, .inl (cI, 34, .inl lM)), (y, .inr (2, [.int (0 : Int32), .ref bH, .ref bS, .ref bL, .int mel, .ref bO, .ref bK, .ref bZ, .int sea, .int rnd, .int bas, .int lim, .ref bR, .ref bG, .ref bB, .ref bX])), (bH, .inl (cI, 34, .inl hM))] H := hP
    have hD : va_D A [(bS, .inl (cI, 34, .inl sM)), (bL, .inl (cI, 34, .inl lM)), (y, .inr (2, [.int (0 : Int32), .ref bH, .ref bS, .ref bL, .int mel, .ref bO, .ref bK, .ref bZ, .int sea, .int rnd, .int bas, .int lim, .ref bR, .ref bG, .ref bB, .ref bX])), (bH, .inl (cI, 34, .inl hM))] := hD
    refine lv_bipush (v := 14) hx hb dX2_draw_22 (by decide) ?_
    refine lv_icmp_eq (tgt := 35) hx hb dX2_draw_24 (by decide) (fun c4 => ?_) (fun c4 => ?_)
    · have hw := hw.1 c4
      have hP9 := hP.sub (ws' := [(y, .inr (2, [.int (0 : Int32), .ref bH, .ref bS, .ref bL, .int mel, .ref bO, .ref bK, .ref bZ, .int sea, .int rnd, .int bas, .int lim, .ref bR, .ref bG, .ref bB, .ref bX])), (bH, .inl (cI, 34, .inl hM)), (bS, .inl (cI, 34, .inl sM)), (bL, .inl (cI, 34, .inl lM))]) [2, 3, 0, 1] rfl
      have hD9 := hD.sub (ws' := [(y, .inr (2, [.int (0 : Int32), .ref bH, .ref bS, .ref bL, .int mel, .ref bO, .ref bK, .ref bZ, .int sea, .int rnd, .int bas, .int lim, .ref bR, .ref bG, .ref bB, .ref bX])), (bH, .inl (cI, 34, .inl hM)), (bS, .inl (cI, 34, .inl sM)), (bL, .inl (cI, 34, .inl lM))]) [2, 3, 0, 1] (by decide) rfl
      exact L35 (0 : Int32) hM _ _ _ hw hP9 hD9 hS (lv_sub hl [0] rfl)
    · have hw := hw.2 c4
      refine lv_aload_n hx hb dX2_draw_27 rfl (lv_at hl 0 rfl) ?_
      refine lv_iload_n hx hb dX2_draw_28 rfl (lv_at hl 1 rfl) ?_
      have hPc := hP.sub (ws' := [(y, .inr (2, [.int (0 : Int32), .ref bH, .ref bS, .ref bL, .int mel, .ref bO, .ref bK, .ref bZ, .int sea, .int rnd, .int bas, .int lim, .ref bR, .ref bG, .ref bB, .ref bX])), (bH, .inl (cI, 34, .inl hM)), (bS, .inl (cI, 34, .inl sM)), (bL, .inl (cI, 34, .inl lM))]) [2, 3, 0, 1] rfl
      have hDc := hD.sub (ws' := [(y, .inr (2, [.int (0 : Int32), .ref bH, .ref bS, .ref bL, .int mel, .ref bO, .ref bK, .ref bZ, .int sea, .int rnd, .int bas, .int lim, .ref bR, .ref bG, .ref bB, .ref bX])), (bH, .inl (cI, 34, .inl hM)), (bS, .inl (cI, 34, .inl sM)), (bL, .inl (cI, 34, .inl lM))]) [2, 3, 0, 1] (by decide) rfl
      have hFc := va_free (wc := [(y, .inr (2, [.int (0 : Int32), .ref bH, .ref bS, .ref bL, .int mel, .ref bO, .ref bK, .ref bZ, .int sea, .int rnd, .int bas, .int lim, .ref bR, .ref bG, .ref bB, .ref bX])), (bH, .inl (cI, 34, .inl hM)), (bS, .inl (cI, 34, .inl sM)), (bL, .inl (cI, 34, .inl lM))]) hD hS hA [2, 3, 0, 1] rfl
      refine va_calli (va_runV (As := [.int p0]) (rest := []) ⟨hx, hb, hml, hown, hts⟩ (c_X2_left l dC dI cI cZ y bH bS bL bO bK bZ bR bG bB bX H.size (0 : Int32) mel sea rnd bas lim hM sM lM p0 _ hw) (cwV 1 hts gX2_draw_X2_left rfl rfl rfl (by decide +kernel) ⟨Nat.le_of_ble_eq_true rfl, Nat.le_of_ble_eq_true rfl⟩) ⟨fun a U g mk q => by obtain ⟨q0, q1, qP, qK, qD⟩ := q; exact ⟨q0, q1, qP, va_K.moved (u := U) (U := U.calling g mk a) (Vm.Alike.refl U.vm) qK, qD⟩, va_recv hK hPc (ci := 2) (q0 := 0) rfl rfl, fun U hU hW => ⟨rfl, by rw [hU], by rw [hU]; exact hPc, va_K.moved hW.alike hK, hDc.weaken (fun _ _ _ _ => trivial)⟩⟩ rfl rfl hl.1 rfl (lv_room (Nat.le_of_ble_eq_true rfl)) dX2_draw_29 ⟨Nat.le_of_ble_eq_true rfl, Nat.le_of_ble_eq_true rfl⟩) hS (fun q _ h => hFc q h) hFc (fun r7 u t H1 locs ht hvm hw hB hz1 hk1 hS => ?_)
      obtain ⟨hP1, -, hD1⟩ := hB
      have hw := And.intro hw trivial
      try dsimp only at hw
      have hw := hw.1
      rw [ht] at hP1
      obtain ⟨hP, hD⟩ := va_join (wr := []) (w1 := [(y, .inr (2, [.int (0 : Int32), .ref bH, .ref bS, .ref bL, .int mel, .ref bO, .ref bK, .ref bZ, .int sea, .int rnd, .int bas, .int lim, .ref bR, .ref bG, .ref bB, .ref bX])), (bH, .inl (cI, 34, .inl hM)), (bS, .inl (cI, 34, .inl sM)), (bL, .inl (cI, 34, .inl lM))]) hP hD [2, 3, 0, 1] [] rfl rfl (by decide) (by decide) hk1 hFc hP1 hD1
      generalize H1 = H at hP hS ⊢
      have hP : va_P (dC, dI) vwCl [(y, .inr (2, [.int (0 : Int32), .ref bH, .ref bS, .ref bL, .int mel, .ref bO, .ref bK, .ref bZ, .int sea, .int rnd, .int bas, .int lim, .ref bR, .ref bG, .ref bB, .ref bX])), (bH, .inl (cI, 34, .inl hM)), (bS, .inl (cI, 34, .inl sM)), (bL, .inl (cI, 34, .inl lM))] H := hP
      have hD : va_D A [(y, .inr (2, [.int (0 : Int32), .ref bH, .ref bS, .ref bL, .int mel, .ref bO, .ref bK, .ref bZ, .int sea, .int rnd, .int bas, .int lim, .ref bR, .ref bG, .ref bB, .ref bX])), (bH, .inl (cI, 34, .inl hM)), (bS, .inl (cI, 34, .inl sM)), (bL, .inl (cI, 34, .inl lM))] := hD
      refine lv_if_ne (tgt := 41) hx hb dX2_draw_32 (by decide) (fun c8 => ?_) (fun c8 => ?_)
      · have hw := hw.2 c8
        refine lv_aload_n hx hb dX2_draw_41 rfl (lv_at hl 0 rfl) ?_
        refine va_get (D := (dC, dI)) (ci := 2) (v := .ref bH) (C := RX2) (T := TX2) (N := 16) hx hb hts hinX2 hown hK hP 0 rfl rfl 1 (by decide) (hts (.fieldLink RX2 9 "TileHandModel" "hand" "[I") (by decide +kernel)) (fun _ h9 => h9) rfl dX2_draw_42 ?_
        refine lv_iload_n hx hb dX2_draw_45 rfl (lv_at hl 1 rfl) ?_
        refine lv_dup2_11 hx hb dX2_draw_46 rfl rfl ?_
        obtain ⟨h9, hw⟩ := hw
        refine va_iald hx hb hK hP 1 0 rfl rfl h9 dX2_draw_47 ?_
        refine lv_iconst (v := 1) hx hb dX2_draw_48 (by decide) ?_
        refine lv_iadd hx hb dX2_draw_49 ?_
        obtain ⟨h10, hw⟩ := hw
        refine va_iast hx hb hK hP hD hS 1 0 rfl rfl h10 dX2_draw_50 (fun H locs hP hD hS => ?_)
        have hP : va_P (dC, dI) vwCl [(y, .inr (2, [.int (0 : Int32), .ref bH, .ref bS, .ref bL, .int mel, .ref bO, .ref bK, .ref bZ, .int sea, .int rnd, .int bas, .int lim, .ref bR, .ref bG, .ref bB, .ref bX])), (bH, .inl (cI, 34, .inl (upd hM p0.toNatClampNeg ((hM p0.toNatClampNeg) + (1 : Int32))))), (bS, .inl (cI, 34, .inl sM)), (bL, .inl (cI, 34, .inl lM))] H := hP
        have hD : va_D A [(y, .inr (2, [.int (0 : Int32), .ref bH, .ref bS, .ref bL, .int mel, .ref bO, .ref bK, .ref bZ, .int sea, .int rnd, .int bas, .int lim, .ref bR, .ref bG, .ref bB, .ref bX])), (bH, .inl (cI, 34, .inl (upd hM p0.toNatClampNeg ((hM p0.toNatClampNeg) + (1 : Int32))))), (bS, .inl (cI, 34, .inl sM)), (bL, .inl (cI, 34, .inl lM))] := hD
        refine lv_aload_n hx hb dX2_draw_51 rfl (lv_at hl 0 rfl) ?_
        have hPc := hP.sub (ws' := [(y, .inr (2, [.int (0 : Int32), .ref bH, .ref bS, .ref bL, .int mel, .ref bO, .ref bK, .ref bZ, .int sea, .int rnd, .int bas, .int lim, .ref bR, .ref bG, .ref bB, .ref bX])), (bH, .inl (cI, 34, .inl (upd hM p0.toNatClampNeg ((hM p0.toNatClampNeg) + (1 : Int32)))))]) [0, 1] rfl
        have hDc := hD.sub (ws' := [(y, .inr (2, [.int (0 : Int32), .ref bH, .ref bS, .ref bL, .int mel, .ref bO, .ref bK, .ref bZ, .int sea, .int rnd, .int bas, .int lim, .ref bR, .ref bG, .ref bB, .ref bX])), (bH, .inl (cI, 34, .inl (upd hM p0.toNatClampNeg ((hM p0.toNatClampNeg) + (1 : Int32)))))]) [0, 1] (by decide) rfl
        have hFc := va_free (wc := [(y, .inr (2, [.int (0 : Int32), .ref bH, .ref bS, .ref bL, .int mel, .ref bO, .ref bK, .ref bZ, .int sea, .int rnd, .int bas, .int lim, .ref bR, .ref bG, .ref bB, .ref bX])), (bH, .inl (cI, 34, .inl (upd hM p0.toNatClampNeg ((hM p0.toNatClampNeg) + (1 : Int32)))))]) hD hS hA [0, 1] rfl
        refine va_calli (va_runV (As := []) (rest := []) ⟨hx, hb, hml, hown, hts⟩ (c_X2_sizeOf l dC dI cI cZ y bH bS bL bO bK bZ bR bG bB bX H.size (0 : Int32) mel sea rnd bas lim (upd hM p0.toNatClampNeg ((hM p0.toNatClampNeg) + (1 : Int32))) _ hw) (cwV 0 hts gX2_draw_X2_sizeOf rfl rfl rfl (by decide +kernel) ⟨Nat.le_of_ble_eq_true rfl, Nat.le_of_ble_eq_true rfl⟩) ⟨fun a U g mk q => by obtain ⟨q0, q1, qP, qK, qD⟩ := q; exact ⟨q0, q1, qP, va_K.moved (u := U) (U := U.calling g mk a) (Vm.Alike.refl U.vm) qK, qD⟩, va_recv hK hPc (ci := 2) (q0 := 0) rfl rfl, fun U hU hW => ⟨rfl, by rw [hU], by rw [hU]; exact hPc, va_K.moved hW.alike hK, hDc.weaken (fun _ _ _ _ => trivial)⟩⟩ rfl rfl hl.1 rfl (lv_room (Nat.le_of_ble_eq_true rfl)) dX2_draw_52 ⟨Nat.le_of_ble_eq_true rfl, Nat.le_of_ble_eq_true rfl⟩) hS (fun q _ h => hFc q h) hFc (fun r11 u t H1 locs ht hvm hw hB hz1 hk1 hS => ?_)
        obtain ⟨hP1, -, hD1⟩ := hB
        have hw := And.intro hw trivial
        try dsimp only at hw
        have hw := hw.1
        rw [ht] at hP1
        obtain ⟨hP, hD⟩ := va_join (wr := [(bS, .inl (cI, 34, .inl sM)), (bL, .inl (cI, 34, .inl lM))]) (w1 := [(y, .inr (2, [.int (0 : Int32), .ref bH, .ref bS, .ref bL, .int mel, .ref bO, .ref bK, .ref bZ, .int sea, .int rnd, .int bas, .int lim, .ref bR, .ref bG, .ref bB, .ref bX])), (bH, .inl (cI, 34, .inl (upd hM p0.toNatClampNeg ((hM p0.toNatClampNeg) + (1 : Int32)))))]) hP hD [0, 1] [2, 3] rfl rfl (by decide) (by decide) hk1 hFc hP1 hD1
        generalize H1 = H at hP hS ⊢
        have hP : va_P (dC, dI) vwCl [(bS, .inl (cI, 34, .inl sM)), (bL, .inl (cI, 34, .inl lM)), (y, .inr (2, [.int (0 : Int32), .ref bH, .ref bS, .ref bL, .int mel, .ref bO, .ref bK, .ref bZ, .int sea, .int rnd, .int bas, .int lim, .ref bR, .ref bG, .ref bB, .ref bX])), (bH, .inl (cI, 34, .inl (upd hM p0.toNatClampNeg ((hM p0.toNatClampNeg) + (1 : Int32)))))] H := hP
        have hD : va_D A [(bS, .inl (cI, 34, .inl sM)), (bL, .inl (cI, 34, .inl lM)), (y, .inr (2, [.int (0 : Int32), .ref bH, .ref bS, .ref bL, .int mel, .ref bO, .ref bK, .ref bZ, .int sea, .int rnd, .int bas, .int lim, .ref bR, .ref bG, .ref bB, .ref bX])), (bH, .inl (cI, 34, .inl (upd hM p0.toNatClampNeg ((hM p0.toNatClampNeg) + (1 : Int32)))))] := hD
        have hP9 := hP.sub (ws' := [(y, .inr (2, [.int (0 : Int32), .ref bH, .ref bS, .ref bL, .int mel, .ref bO, .ref bK, .ref bZ, .int sea, .int rnd, .int bas, .int lim, .ref bR, .ref bG, .ref bB, .ref bX])), (bH, .inl (cI, 34, .inl (upd hM p0.toNatClampNeg ((hM p0.toNatClampNeg) + (1 : Int32))))), (bS, .inl (cI, 34, .inl sM)), (bL, .inl (cI, 34, .inl lM))]) [2, 3, 0, 1] rfl
        have hD9 := hD.sub (ws' := [(y, .inr (2, [.int (0 : Int32), .ref bH, .ref bS, .ref bL, .int mel, .ref bO, .ref bK, .ref bZ, .int sea, .int rnd, .int bas, .int lim, .ref bR, .ref bG, .ref bB, .ref bX])), (bH, .inl (cI, 34, .inl (upd hM p0.toNatClampNeg ((hM p0.toNatClampNeg) + (1 : Int32))))), (bS, .inl (cI, 34, .inl sM)), (bL, .inl (cI, 34, .inl lM))]) [2, 3, 0, 1] (by decide) rfl
        rw [← hQ9]
        exact W.iret (v := r11) hx hb hr (fun t ht hW => ⟨⟨r11, ((0 : Int32), upd hM p0.toNatClampNeg ((hM p0.toNatClampNeg) + (1 : Int32))), rfl, hw, by rw [ht]; exact hP9, va_K.moved hW.alike hK, hD9⟩, hS.F ht⟩) hS.2.2 dX2_draw_55
      · have hw := hw.1 c8
        exact L35 (0 : Int32) hM _ _ _ hw hP hD hS (lv_sub hl [0] rfl)
  · have hw := hw.1 c2
    refine lv_aload_n hx hb dX2_draw_12 rfl (lv_at hl 0 rfl) ?_
    refine lv_iconst (v := 1) hx hb dX2_draw_13 (by decide) ?_
    have hPc := hP.sub (ws' := [(y, .inr (2, [.int (0 : Int32), .ref bH, .ref bS, .ref bL, .int mel, .ref bO, .ref bK, .ref bZ, .int sea, .int rnd, .int bas, .int lim, .ref bR, .ref bG, .ref bB, .ref bX]))]) [0] rfl
    have hDc := hD.sub (ws' := [(y, .inr (2, [.int (0 : Int32), .ref bH, .ref bS, .ref bL, .int mel, .ref bO, .ref bK, .ref bZ, .int sea, .int rnd, .int bas, .int lim, .ref bR, .ref bG, .ref bB, .ref bX]))]) [0] (by decide) rfl
    have hFc := va_free (wc := [(y, .inr (2, [.int (0 : Int32), .ref bH, .ref bS, .ref bL, .int mel, .ref bO, .ref bK, .ref bZ, .int sea, .int rnd, .int bas, .int lim, .ref bR, .ref bG, .ref bB, .ref bX]))]) hD hS hA [0] rfl
    refine va_calli (va_runV (As := [.int (1 : Int32)]) (rest := []) ⟨hx, hb, hml, hown, hts⟩ (c_X2_fail l dC dI cI cZ y bH bS bL bO bK bZ bR bG bB bX H.size (0 : Int32) mel sea rnd bas lim (1 : Int32) _ hw) (cwV 1 hts gX2_draw_X2_fail rfl rfl rfl (by decide +kernel) ⟨Nat.le_of_ble_eq_true rfl, Nat.le_of_ble_eq_true rfl⟩) ⟨fun a U g mk q => by obtain ⟨q0, q1, qP, qK, qD⟩ := q; exact ⟨q0, q1, qP, va_K.moved (u := U) (U := U.calling g mk a) (Vm.Alike.refl U.vm) qK, qD⟩, va_recv hK hPc (ci := 2) (q0 := 0) rfl rfl, fun U hU hW => ⟨rfl, by rw [hU], by rw [hU]; exact hPc, va_K.moved hW.alike hK, hDc.weaken (fun _ _ _ _ => trivial)⟩⟩ rfl rfl hl.1 rfl (lv_room (Nat.le_of_ble_eq_true rfl)) dX2_draw_14 ⟨Nat.le_of_ble_eq_true rfl, Nat.le_of_ble_eq_true rfl⟩) hS (fun q _ h => hFc q h) hFc (fun r12 u t H1 locs ht hvm hw hB hz1 hk1 hS => ?_)
    obtain ⟨thr_13, rfl⟩ : ∃ z, z = u := ⟨_, rfl⟩
    obtain ⟨hP1, -, hD1⟩ := hB
    have hw := And.intro hw trivial
    try dsimp only at hw
    have hw := hw.1
    rw [ht] at hP1
    obtain ⟨hP, hD⟩ := va_join (wr := [(bH, .inl (cI, 34, .inl hM)), (bS, .inl (cI, 34, .inl sM)), (bL, .inl (cI, 34, .inl lM))]) (w1 := [(y, .inr (2, [.int thr_13, .ref bH, .ref bS, .ref bL, .int mel, .ref bO, .ref bK, .ref bZ, .int sea, .int rnd, .int bas, .int lim, .ref bR, .ref bG, .ref bB, .ref bX]))]) hP hD [0] [1, 2, 3] rfl rfl (by decide) (by decide) hk1 hFc hP1 hD1
    generalize H1 = H at hP hS ⊢
    have hP : va_P (dC, dI) vwCl [(bH, .inl (cI, 34, .inl hM)), (bS, .inl (cI, 34, .inl sM)), (bL, .inl (cI, 34, .inl lM)), (y, .inr (2, [.int thr_13, .ref bH, .ref bS, .ref bL, .int mel, .ref bO, .ref bK, .ref bZ, .int sea, .int rnd, .int bas, .int lim, .ref bR, .ref bG, .ref bB, .ref bX]))] H := hP
    have hD : va_D A [(bH, .inl (cI, 34, .inl hM)), (bS, .inl (cI, 34, .inl sM)), (bL, .inl (cI, 34, .inl lM)), (y, .inr (2, [.int thr_13, .ref bH, .ref bS, .ref bL, .int mel, .ref bO, .ref bK, .ref bZ, .int sea, .int rnd, .int bas, .int lim, .ref bR, .ref bG, .ref bB, .ref bX]))] := hD
    have hP9 := hP.sub (ws' := [(y, .inr (2, [.int thr_13, .ref bH, .ref bS, .ref bL, .int mel, .ref bO, .ref bK, .ref bZ, .int sea, .int rnd, .int bas, .int lim, .ref bR, .ref bG, .ref bB, .ref bX])), (bH, .inl (cI, 34, .inl hM)), (bS, .inl (cI, 34, .inl sM)), (bL, .inl (cI, 34, .inl lM))]) [3, 0, 1, 2] rfl
    have hD9 := hD.sub (ws' := [(y, .inr (2, [.int thr_13, .ref bH, .ref bS, .ref bL, .int mel, .ref bO, .ref bK, .ref bZ, .int sea, .int rnd, .int bas, .int lim, .ref bR, .ref bG, .ref bB, .ref bX])), (bH, .inl (cI, 34, .inl hM)), (bS, .inl (cI, 34, .inl sM)), (bL, .inl (cI, 34, .inl lM))]) [3, 0, 1, 2] (by decide) rfl
    rw [← hQ9]
    exact W.iret (v := r12) hx hb hr (fun t ht hW => ⟨⟨r12, (thr_13, hM), rfl, hw, by rw [ht]; exact hP9, va_K.moved hW.alike hK, hD9⟩, hS.F ht⟩) hS.2.2 dX2_draw_17
