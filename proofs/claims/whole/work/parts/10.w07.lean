def w_X1_advice_b84 (post : Int32 → Int32 → (Nat → Int32) → Int32 → Int32 → Int32 → (Nat → Int32) → (Nat → Int32) → Prop) (mcn : Int32) (la : (Nat → Int32)) (K30 : Int32 → Int32 → Int32 → Int32 → Int32 → (Nat → Int32) → Int32 → Int32 → Int32 → (Nat → Int32) → (Nat → Int32) → Prop) (v1 : Int32) (v2 : Int32) (v3 : Int32) (v4 : Int32) (tcn : Int32) (hd : (Nat → Int32)) (glm : Int32) (rom : Int32) (hel : Int32) (nw : (Nat → Int32)) (nx : (Nat → Int32)) : Prop := K30 v1 v2 v3 (v4 + 1) tcn hd glm rom hel nw nx

def w_X1_advice_b30 (post : Int32 → Int32 → (Nat → Int32) → Int32 → Int32 → Int32 → (Nat → Int32) → (Nat → Int32) → Prop) (mcn : Int32) (la : (Nat → Int32)) : Nat → Int32 → Int32 → Int32 → Int32 → Int32 → (Nat → Int32) → Int32 → Int32 → Int32 → (Nat → Int32) → (Nat → Int32) → Prop
  | 0, _, _, _, _, _, _, _, _, _, _, _ => False
  | n + 1, v1, v2, v3, v4, tcn, hd, glm, rom, hel, nw, nx => (((34 : Int32) ≤ v4 → (post v3 tcn hd glm rom hel nw nx)) ∧ (¬ (34 : Int32) ≤ v4 → (((v2 ≤ v1 → (post v3 tcn hd glm rom hel nw nx)) ∧ (¬ v2 ≤ v1 → (vp_in v4 34 ∧ ((((hd v4.toNatClampNeg) ≤ 0 → (w_X1_advice_b84 post mcn la (w_X1_advice_b30 post mcn la n) v1 v2 v3 v4 tcn hd glm rom hel nw nx)) ∧ (¬ (hd v4.toNatClampNeg) ≤ 0 → (w_X1_addTiles tcn hd v4 (-1 : Int32) (fun tcn_14 hd_15 => (w_X1_missing mcn hd_15 la glm rom hel nw nx (fun r16 glm_17 rom_18 hel_19 nw_20 nx_21 => (w_X1_addTiles tcn_14 hd_15 v4 (1 : Int32) (fun tcn_24 hd_25 => (((v2 ≤ r16 → (w_X1_advice_b84 post mcn la (w_X1_advice_b30 post mcn la n) v1 v2 v3 v4 tcn_24 hd_25 glm_17 rom_18 hel_19 nw_20 nx_21)) ∧ (¬ v2 ≤ r16 → (w_X1_advice_b84 post mcn la (w_X1_advice_b30 post mcn la n) v1 r16 v4 v4 tcn_24 hd_25 glm_17 rom_18 hel_19 nw_20 nx_21)))))))))))))))))))

def w_X1_advice (tcn : Int32) (mcn : Int32) (hd : (Nat → Int32)) (la : (Nat → Int32)) (glm : Int32) (rom : Int32) (hel : Int32) (nw : (Nat → Int32)) (nx : (Nat → Int32)) (post : Int32 → Int32 → (Nat → Int32) → Int32 → Int32 → Int32 → (Nat → Int32) → (Nat → Int32) → Prop) : Prop := ((tcn = 0 → (False)) ∧ (¬ tcn = 0 → (w_X1_missing mcn hd la glm rom hel nw nx (fun r2 glm_3 rom_4 hel_5 nw_6 nx_7 => (∃ n9, w_X1_advice_b30 post mcn la n9 r2 (15 : Int32) (-1 : Int32) (0 : Int32) tcn hd glm_3 rom_4 hel_5 nw_6 nx_7)))))

set_option maxHeartbeats 4000000 in
set_option maxRecDepth 100000 in
theorem c_X1_advice (l : Launch) (dC : Nat → ClassId) (dI : Nat → Nat → Nat) (cI cZ : ClassId) (x : Nat) (aH : Nat) (aL : Nat) (aS : Nat) (aO : Nat) (aK : Nat) (aZ : Nat) (cv : Nat) (aN : Nat) (aX : Nat) (sz : Nat) (tcn : Int32) (mcn : Int32) (swd : Int32) (rwd : Int32) (bpt : Int32) (flm : Int32) (hd : (Nat → Int32)) (la : (Nat → Int32)) (glm : Int32) (rom : Int32) (hel : Int32) (nw : (Nat → Int32)) (nx : (Nat → Int32)) (post : Int32 → Int32 → (Nat → Int32) → Int32 → Int32 → Int32 → (Nat → Int32) → (Nat → Int32) → Prop) (hw : w_X1_advice tcn mcn hd la glm rom hel nw nx post) : Met l yX1_advice wsX1_advice ({ frames := 7, cells := 0, slots := 0, locals := 162 } : Room) (va_Pc [.ref x] (fun U => U.heap.size = sz ∧ va_P (dC, dI) vwCl [(x, .inr (1, [.ref aH, .ref aL, .ref aS, .ref aO, .ref aK, .ref aZ, .ref cv, .int tcn, .int mcn, .int swd, .int rwd, .int bpt, .int flm])), (aH, .inl (cI, 34, .inl hd)), (aL, .inl (cI, 34, .inl la)), (cv, .inr (0, [.ref aN, .ref aX, .int glm, .int rom, .int hel])), (aN, .inl (cI, 90, .inl nw)), (aX, .inl (cI, 90, .inl nx))] U.heap ∧ va_K (dC, dI) vwCl [(cI, .int), (cZ, .boolean)] U ∧ va_D (fun _ => True) [(x, .inr (1, [.ref aH, .ref aL, .ref aS, .ref aO, .ref aK, .ref aZ, .ref cv, .int tcn, .int mcn, .int swd, .int rwd, .int bpt, .int flm])), (aH, .inl (cI, 34, .inl hd)), (aL, .inl (cI, 34, .inl la)), (cv, .inr (0, [.ref aN, .ref aX, .int glm, .int rom, .int hel])), (aN, .inl (cI, 90, .inl nw)), (aX, .inl (cI, 90, .inl nx))] ∧ va_Nw (.methodLinkNest RX0 51 yX1_beginsRow "TileHand") U)) (va_Qi (fun (r9 : Int32) (u9 : Int32 × (Nat → Int32) × Int32 × Int32 × Int32 × (Nat → Int32) × (Nat → Int32)) => post r9 u9.1 u9.2.1 u9.2.2.1 u9.2.2.2.1 u9.2.2.2.2.1 u9.2.2.2.2.2.1 u9.2.2.2.2.2.2) (fun (u9 : Int32 × (Nat → Int32) × Int32 × Int32 × Int32 × (Nat → Int32) × (Nat → Int32)) (t9 : State) => ∃ aN1 aX1 : Nat, va_P (dC, dI) vwCl [(x, .inr (1, [.ref aH, .ref aL, .ref aS, .ref aO, .ref aK, .ref aZ, .ref cv, .int u9.1, .int mcn, .int swd, .int rwd, .int bpt, .int flm])), (aH, .inl (cI, 34, .inl u9.2.1)), (aL, .inl (cI, 34, .inl la)), (cv, .inr (0, [.ref aN1, .ref aX1, .int u9.2.2.1, .int u9.2.2.2.1, .int u9.2.2.2.2.1])), (aN1, .inl (cI, 90, .inl u9.2.2.2.2.2.1)), (aX1, .inl (cI, 90, .inl u9.2.2.2.2.2.2))] t9.heap ∧ va_K (dC, dI) vwCl [(cI, .int), (cZ, .boolean)] t9 ∧ va_D (va_A [(x, .inr (1, [.ref aH, .ref aL, .ref aS, .ref aO, .ref aK, .ref aZ, .ref cv, .int tcn, .int mcn, .int swd, .int rwd, .int bpt, .int flm])), (aH, .inl (cI, 34, .inl hd)), (aL, .inl (cI, 34, .inl la)), (cv, .inr (0, [.ref aN, .ref aX, .int glm, .int rom, .int hel])), (aN, .inl (cI, 90, .inl nw)), (aX, .inl (cI, 90, .inl nx))] sz) [(x, .inr (1, [.ref aH, .ref aL, .ref aS, .ref aO, .ref aK, .ref aZ, .ref cv, .int u9.1, .int mcn, .int swd, .int rwd, .int bpt, .int flm])), (aH, .inl (cI, 34, .inl u9.2.1)), (aL, .inl (cI, 34, .inl la)), (cv, .inr (0, [.ref aN1, .ref aX1, .int u9.2.2.1, .int u9.2.2.2.1, .int u9.2.2.2.2.1])), (aN1, .inl (cI, 90, .inl u9.2.2.2.2.2.1)), (aX1, .inl (cI, 90, .inl u9.2.2.2.2.2.2))]) (va_A [(x, .inr (1, [.ref aH, .ref aL, .ref aS, .ref aO, .ref aK, .ref aZ, .ref cv, .int tcn, .int mcn, .int swd, .int rwd, .int bpt, .int flm])), (aH, .inl (cI, 34, .inl hd)), (aL, .inl (cI, 34, .inl la)), (cv, .inr (0, [.ref aN, .ref aX, .int glm, .int rom, .int hel])), (aN, .inl (cI, 90, .inl nw)), (aX, .inl (cI, 90, .inl nx))] sz)) 0 0 (va_A [(x, .inr (1, [.ref aH, .ref aL, .ref aS, .ref aO, .ref aK, .ref aZ, .ref cv, .int tcn, .int mcn, .int swd, .int rwd, .int bpt, .int flm])), (aH, .inl (cI, 34, .inl hd)), (aL, .inl (cI, 34, .inl la)), (cv, .inr (0, [.ref aN, .ref aX, .int glm, .int rom, .int hel])), (aN, .inl (cI, 90, .inl nw)), (aX, .inl (cI, 90, .inl nx))] sz) := by
  refine Met.ofW (cc := cX1_advice) (maxL := 6) (ret := (some .int)) (by decide) rfl ?_
  intro p e s m args below meth c s₁ B hml hv
  obtain ⟨rfl, hsz, hP, hK, hD0, hnk⟩ := hv
  have hx := B.exec
  have hb := B.bytes
  have hr := B.returns
  have hts := atoms_spec (ws := wsX1_advice) B.pre
  have hown : s.vm.findClass RX1 = some m.cls := findClass_of_methodNamed B.named
  have hlocks := B.notSynchronized
  have hinX1 : ∀ w ∈ u_ws RX1 TX1 13, w ∈ wsX1_advice := by decide +kernel
  have hinX0 : ∀ w ∈ u_ws RX0 TX0 5, w ∈ wsX1_advice := by decide +kernel
  subst hsz
  have hD := hD0.self (sz := s.heap.size)
  generalize hAe : va_A [(x, .inr (1, [.ref aH, .ref aL, .ref aS, .ref aO, .ref aK, .ref aZ, .ref cv, .int tcn, .int mcn, .int swd, .int rwd, .int bpt, .int flm])), (aH, .inl (cI, 34, .inl hd)), (aL, .inl (cI, 34, .inl la)), (cv, .inr (0, [.ref aN, .ref aX, .int glm, .int rom, .int hel])), (aN, .inl (cI, 90, .inl nw)), (aX, .inl (cI, 90, .inl nx))] s.heap.size = A at hD ⊢
  have hA : ∀ q : Nat, s.heap.size ≤ q → A q := fun q h => by rw [← hAe]; exact Or.inr h
  have hS : va_S A s.heap s.heap [] := va_S.rf
  have hl := lv_entry ([.ref x]) (n := 6) (Nat.le_of_ble_eq_true rfl)
  rw [lg_entry_eq]
  generalize (lg_sl ([.ref x]) ++ List.replicate (6 - (lg_sl ([.ref x])).length) Slot.unset).toArray = ls at hl ⊢
  have hl : lv_has ls 6 [(0, .ref x)] := hl
  refine (?_ : ∀ Q9 : State → Prop, MQ below _ _ s _ _ _ = Q9 → W p l e ({ frames := 7, cells := 0, slots := 0, locals := 162 } : Room) s m _ below meth c s.heap [] 0 0 Q9 (F0 m 0 ls [])) _ rfl
  intro Q9 hQ9
  have hw : ((tcn = 0 → (False)) ∧ (¬ tcn = 0 → (w_X1_missing mcn hd la glm rom hel nw nx (fun r2 glm_3 rom_4 hel_5 nw_6 nx_7 => (∃ n9, w_X1_advice_b30 post mcn la n9 r2 (15 : Int32) (-1 : Int32) (0 : Int32) tcn hd glm_3 rom_4 hel_5 nw_6 nx_7))))) := hw
  have L84 : ∀ (K30 : Int32 → Int32 → Int32 → Int32 → Int32 → (Nat → Int32) → Int32 → Int32 → Int32 → (Nat → Int32) → (Nat → Int32) → Prop) (hK30 : ∀ (v1 : Int32) (v2 : Int32) (v3 : Int32) (v4 : Int32) (tcn : Int32) (hd : (Nat → Int32)) (glm : Int32) (rom : Int32) (hel : Int32) (nw : (Nat → Int32)) (nx : (Nat → Int32)) (aN aX : Nat) (H : Heap) (locs : List Loc) (ls : Array Slot), K30 v1 v2 v3 v4 tcn hd glm rom hel nw nx → va_P (dC, dI) vwCl [(x, .inr (1, [.ref aH, .ref aL, .ref aS, .ref aO, .ref aK, .ref aZ, .ref cv, .int tcn, .int mcn, .int swd, .int rwd, .int bpt, .int flm])), (aH, .inl (cI, 34, .inl hd)), (aL, .inl (cI, 34, .inl la)), (cv, .inr (0, [.ref aN, .ref aX, .int glm, .int rom, .int hel])), (aN, .inl (cI, 90, .inl nw)), (aX, .inl (cI, 90, .inl nx))] H → va_D A [(x, .inr (1, [.ref aH, .ref aL, .ref aS, .ref aO, .ref aK, .ref aZ, .ref cv, .int tcn, .int mcn, .int swd, .int rwd, .int bpt, .int flm])), (aH, .inl (cI, 34, .inl hd)), (aL, .inl (cI, 34, .inl la)), (cv, .inr (0, [.ref aN, .ref aX, .int glm, .int rom, .int hel])), (aN, .inl (cI, 90, .inl nw)), (aX, .inl (cI, 90, .inl nx))] → va_S A s.heap H locs → lv_has ls 6 [(0, .ref x), (1, .int v1), (2, .int v2), (3, .int v3), (4, .int v4)] → W p l e ({ frames := 7, cells := 0, slots := 0, locals := 162 } : Room) s m ([.ref x] : List Value).toArray below meth c H locs 0 0 Q9 (F0 m 30 ls [])), ∀ (v1 : Int32) (v2 : Int32) (v3 : Int32) (v4 : Int32) (tcn : Int32) (hd : (Nat → Int32)) (glm : Int32) (rom : Int32) (hel : Int32) (nw : (Nat → Int32)) (nx : (Nat → Int32)) (aN aX : Nat) (H : Heap) (locs : List Loc) (ls : Array Slot), w_X1_advice_b84 post mcn la K30 v1 v2 v3 v4 tcn hd glm rom hel nw nx → va_P (dC, dI) vwCl [(x, .inr (1, [.ref aH, .ref aL, .ref aS, .ref aO, .ref aK, .ref aZ, .ref cv, .int tcn, .int mcn, .int swd, .int rwd, .int bpt, .int flm])), (aH, .inl (cI, 34, .inl hd)), (aL, .inl (cI, 34, .inl la)), (cv, .inr (0, [.ref aN, .ref aX, .int glm, .int rom, .int hel])), (aN, .inl (cI, 90, .inl nw)), (aX, .inl (cI, 90, .inl nx))] H → va_D A [(x, .inr (1, [.ref aH, .ref aL, .ref aS, .ref aO, .ref aK, .ref aZ, .ref cv, .int tcn, .int mcn, .int swd, .int rwd, .int bpt, .int flm])), (aH, .inl (cI, 34, .inl hd)), (aL, .inl (cI, 34, .inl la)), (cv, .inr (0, [.ref aN, .ref aX, .int glm, .int rom, .int hel])), (aN, .inl (cI, 90, .inl nw)), (aX, .inl (cI, 90, .inl nx))] → va_S A s.heap H locs → lv_has ls 6 [(0, .ref x), (1, .int v1), (2, .int v2), (3, .int v3), (4, .int v4)] → W p l e ({ frames := 7, cells := 0, slots := 0, locals := 162 } : Room) s m ([.ref x] : List Value).toArray below meth c H locs 0 0 Q9 (F0 m 84 ls []) := by
    intro K30 hK30 v1 v2 v3 v4 tcn hd glm rom hel nw nx aN aX H locs ls hw hP hD hS hl
    refine lv_iinc (v := v4 + 1) (lv' := [(4, .int (v4 + 1)), (0, .ref x), (1, .int v1), (2, .int v2), (3, .int v3)]) hx hb dX1_advice_84 hl (k := 4) rfl rfl (by decide) rfl (fun ls hl => ?_)
    refine lv_goto (tgt := 30) hx hb dX1_advice_87 (by decide) ?_
    exact hK30 v1 v2 v3 (v4 + 1) tcn hd glm rom hel nw nx aN aX _ _ _ hw hP hD hS (lv_sub hl [1, 2, 3, 4, 0] rfl)
  have L30 : ∀ (n : Nat), ∀ (v1 : Int32) (v2 : Int32) (v3 : Int32) (v4 : Int32) (tcn : Int32) (hd : (Nat → Int32)) (glm : Int32) (rom : Int32) (hel : Int32) (nw : (Nat → Int32)) (nx : (Nat → Int32)) (aN aX : Nat) (H : Heap) (locs : List Loc) (ls : Array Slot), w_X1_advice_b30 post mcn la n v1 v2 v3 v4 tcn hd glm rom hel nw nx → va_P (dC, dI) vwCl [(x, .inr (1, [.ref aH, .ref aL, .ref aS, .ref aO, .ref aK, .ref aZ, .ref cv, .int tcn, .int mcn, .int swd, .int rwd, .int bpt, .int flm])), (aH, .inl (cI, 34, .inl hd)), (aL, .inl (cI, 34, .inl la)), (cv, .inr (0, [.ref aN, .ref aX, .int glm, .int rom, .int hel])), (aN, .inl (cI, 90, .inl nw)), (aX, .inl (cI, 90, .inl nx))] H → va_D A [(x, .inr (1, [.ref aH, .ref aL, .ref aS, .ref aO, .ref aK, .ref aZ, .ref cv, .int tcn, .int mcn, .int swd, .int rwd, .int bpt, .int flm])), (aH, .inl (cI, 34, .inl hd)), (aL, .inl (cI, 34, .inl la)), (cv, .inr (0, [.ref aN, .ref aX, .int glm, .int rom, .int hel])), (aN, .inl (cI, 90, .inl nw)), (aX, .inl (cI, 90, .inl nx))] → va_S A s.heap H locs → lv_has ls 6 [(0, .ref x), (1, .int v1), (2, .int v2), (3, .int v3), (4, .int v4)] → W p l e ({ frames := 7, cells := 0, slots := 0, locals := 162 } : Room) s m ([.ref x] : List Value).toArray below meth c H locs 0 0 Q9 (F0 m 30 ls []) := by
    intro n
    induction n with
    | zero => intro v1 v2 v3 v4 tcn hd glm rom hel nw nx aN aX H locs ls hw _ _ _ _; exact False.elim hw
    | succ n ih =>
      intro v1 v2 v3 v4 tcn hd glm rom hel nw nx aN aX H locs ls hw hP hD hS hl
      refine lv_iload hx hb dX1_advice_30 (lv_at hl 4 rfl) ?_
      refine lv_bipush (v := 34) hx hb dX1_advice_32 (by decide) ?_
      refine lv_icmp_ge (tgt := 90) hx hb dX1_advice_34 (by decide) (fun c10 => ?_) (fun c10 => ?_)
      · have hw := hw.1 c10
        refine lv_iload_n hx hb dX1_advice_90 rfl (lv_at hl 3 rfl) ?_
        rw [← hQ9]
        exact W.iret (v := v3) hx hb hr (fun t ht hW => ⟨⟨v3, (tcn, hd, glm, rom, hel, nw, nx), rfl, hw, aN, aX, by rw [ht]; exact hP, va_K.moved hW.alike hK, hD⟩, hS.F ht⟩) hS.2.2 dX1_advice_91
      · have hw := hw.2 c10
        refine lv_iload_n hx hb dX1_advice_37 rfl (lv_at hl 2 rfl) ?_
        refine lv_iload_n hx hb dX1_advice_38 rfl (lv_at hl 1 rfl) ?_
        refine lv_icmp_le (tgt := 90) hx hb dX1_advice_39 (by decide) (fun c11 => ?_) (fun c11 => ?_)
        · have hw := hw.1 c11
          refine lv_iload_n hx hb dX1_advice_90 rfl (lv_at hl 3 rfl) ?_
          rw [← hQ9]
          exact W.iret (v := v3) hx hb hr (fun t ht hW => ⟨⟨v3, (tcn, hd, glm, rom, hel, nw, nx), rfl, hw, aN, aX, by rw [ht]; exact hP, va_K.moved hW.alike hK, hD⟩, hS.F ht⟩) hS.2.2 dX1_advice_91
        · have hw := hw.2 c11
          refine lv_aload_n hx hb dX1_advice_42 rfl (lv_at hl 0 rfl) ?_
          refine va_get (D := (dC, dI)) (ci := 1) (v := .ref aH) (C := RX1) (T := TX1) (N := 13) hx hb hts hinX1 hown hK hP 0 rfl rfl 0 (by decide) (hts (.fieldLink RX1 9 "TileHand" "hand" "[I") (by decide +kernel)) (fun _ h9 => h9) rfl dX1_advice_43 ?_
          refine lv_iload hx hb dX1_advice_46 (lv_at hl 4 rfl) ?_
          obtain ⟨h12, hw⟩ := hw
          refine va_iald hx hb hK hP 1 0 rfl rfl h12 dX1_advice_48 ?_
          refine lv_if_le (tgt := 84) hx hb dX1_advice_49 (by decide) (fun c13 => ?_) (fun c13 => ?_)
          · have hw := hw.1 c13
            exact L84 (w_X1_advice_b30 post mcn la n) ih v1 v2 v3 v4 tcn hd glm rom hel nw nx aN aX _ _ _ hw hP hD hS (lv_sub hl [0, 1, 2, 3, 4] rfl)
          · have hw := hw.2 c13
            refine lv_aload_n hx hb dX1_advice_52 rfl (lv_at hl 0 rfl) ?_
            refine lv_iload hx hb dX1_advice_53 (lv_at hl 4 rfl) ?_
            refine lv_iconst (v := -1) hx hb dX1_advice_55 (by decide) ?_
            have hPc := hP.sub (ws' := [(x, .inr (1, [.ref aH, .ref aL, .ref aS, .ref aO, .ref aK, .ref aZ, .ref cv, .int tcn, .int mcn, .int swd, .int rwd, .int bpt, .int flm])), (aH, .inl (cI, 34, .inl hd))]) [0, 1] rfl
            have hDc := hD.sub (ws' := [(x, .inr (1, [.ref aH, .ref aL, .ref aS, .ref aO, .ref aK, .ref aZ, .ref cv, .int tcn, .int mcn, .int swd, .int rwd, .int bpt, .int flm])), (aH, .inl (cI, 34, .inl hd))]) [0, 1] (by decide) rfl
            have hFc := va_free (wc := [(x, .inr (1, [.ref aH, .ref aL, .ref aS, .ref aO, .ref aK, .ref aZ, .ref cv, .int tcn, .int mcn, .int swd, .int rwd, .int bpt, .int flm])), (aH, .inl (cI, 34, .inl hd))]) hD hS hA [0, 1] rfl
            refine va_callv (va_runV (As := [.int v4, .int (-1 : Int32)]) (rest := []) ⟨hx, hb, hml, hown, hts⟩ (c_X1_addTiles l dC dI cI cZ x aH aL aS aO aK aZ cv H.size tcn mcn swd rwd bpt flm hd v4 (-1 : Int32) _ hw) (cwV 2 hts gX1_advice_X1_addTiles rfl rfl rfl (by decide +kernel) ⟨Nat.le_of_ble_eq_true rfl, Nat.le_of_ble_eq_true rfl⟩) ⟨fun a U g mk q => by obtain ⟨q0, q1, qP, qK, qD⟩ := q; exact ⟨q0, q1, qP, va_K.moved (u := U) (U := U.calling g mk a) (Vm.Alike.refl U.vm) qK, qD⟩, va_recv hK hPc (ci := 1) (q0 := 0) rfl rfl, fun U hU hW => ⟨rfl, by rw [hU], by rw [hU]; exact hPc, va_K.moved hW.alike hK, hDc.weaken (fun _ _ _ _ => trivial)⟩⟩ rfl rfl hl.1 rfl (lv_room (Nat.le_of_ble_eq_true rfl)) dX1_advice_56 ⟨Nat.le_of_ble_eq_true rfl, Nat.le_of_ble_eq_true rfl⟩) hS (fun q _ h => hFc q h) hFc (fun u t H1 locs ht hvm hw hB hz1 hk1 hS => ?_)
            obtain ⟨tcn_14, hd_15⟩ := u
            obtain ⟨hP1, -, hD1⟩ := hB
            have hw := And.intro hw trivial
            try dsimp only at hw
            have hw := hw.1
            rw [ht] at hP1
            obtain ⟨hP, hD⟩ := va_join (wr := [(aL, .inl (cI, 34, .inl la)), (cv, .inr (0, [.ref aN, .ref aX, .int glm, .int rom, .int hel])), (aN, .inl (cI, 90, .inl nw)), (aX, .inl (cI, 90, .inl nx))]) (w1 := [(x, .inr (1, [.ref aH, .ref aL, .ref aS, .ref aO, .ref aK, .ref aZ, .ref cv, .int tcn_14, .int mcn, .int swd, .int rwd, .int bpt, .int flm])), (aH, .inl (cI, 34, .inl hd_15))]) hP hD [0, 1] [2, 3, 4, 5] rfl rfl (by decide) (by decide) hk1 hFc hP1 hD1
            generalize H1 = H at hP hS ⊢
            have hP : va_P (dC, dI) vwCl [(aL, .inl (cI, 34, .inl la)), (cv, .inr (0, [.ref aN, .ref aX, .int glm, .int rom, .int hel])), (aN, .inl (cI, 90, .inl nw)), (aX, .inl (cI, 90, .inl nx)), (x, .inr (1, [.ref aH, .ref aL, .ref aS, .ref aO, .ref aK, .ref aZ, .ref cv, .int tcn_14, .int mcn, .int swd, .int rwd, .int bpt, .int flm])), (aH, .inl (cI, 34, .inl hd_15))] H := hP
            have hD : va_D A [(aL, .inl (cI, 34, .inl la)), (cv, .inr (0, [.ref aN, .ref aX, .int glm, .int rom, .int hel])), (aN, .inl (cI, 90, .inl nw)), (aX, .inl (cI, 90, .inl nx)), (x, .inr (1, [.ref aH, .ref aL, .ref aS, .ref aO, .ref aK, .ref aZ, .ref cv, .int tcn_14, .int mcn, .int swd, .int rwd, .int bpt, .int flm])), (aH, .inl (cI, 34, .inl hd_15))] := hD
            refine lv_aload_n hx hb dX1_advice_59 rfl (lv_at hl 0 rfl) ?_
            have hPc := hP.sub (ws' := [(x, .inr (1, [.ref aH, .ref aL, .ref aS, .ref aO, .ref aK, .ref aZ, .ref cv, .int tcn_14, .int mcn, .int swd, .int rwd, .int bpt, .int flm])), (aH, .inl (cI, 34, .inl hd_15)), (aL, .inl (cI, 34, .inl la)), (cv, .inr (0, [.ref aN, .ref aX, .int glm, .int rom, .int hel])), (aN, .inl (cI, 90, .inl nw)), (aX, .inl (cI, 90, .inl nx))]) [4, 5, 0, 1, 2, 3] rfl
            have hDc := hD.sub (ws' := [(x, .inr (1, [.ref aH, .ref aL, .ref aS, .ref aO, .ref aK, .ref aZ, .ref cv, .int tcn_14, .int mcn, .int swd, .int rwd, .int bpt, .int flm])), (aH, .inl (cI, 34, .inl hd_15)), (aL, .inl (cI, 34, .inl la)), (cv, .inr (0, [.ref aN, .ref aX, .int glm, .int rom, .int hel])), (aN, .inl (cI, 90, .inl nw)), (aX, .inl (cI, 90, .inl nx))]) [4, 5, 0, 1, 2, 3] (by decide) rfl
            have hFc := va_free (wc := [(x, .inr (1, [.ref aH, .ref aL, .ref aS, .ref aO, .ref aK, .ref aZ, .ref cv, .int tcn_14, .int mcn, .int swd, .int rwd, .int bpt, .int flm])), (aH, .inl (cI, 34, .inl hd_15)), (aL, .inl (cI, 34, .inl la)), (cv, .inr (0, [.ref aN, .ref aX, .int glm, .int rom, .int hel])), (aN, .inl (cI, 90, .inl nw)), (aX, .inl (cI, 90, .inl nx))]) hD hS hA [4, 5, 0, 1, 2, 3] rfl
            refine va_calli (va_runV (As := []) (rest := []) ⟨hx, hb, hml, hown, hts⟩ (c_X1_missing l dC dI cI cZ x aH aL aS aO aK aZ cv aN aX H.size tcn_14 mcn swd rwd bpt flm hd_15 la glm rom hel nw nx _ hw) (cwV 0 hts gX1_advice_X1_missing rfl rfl rfl (by decide +kernel) ⟨Nat.le_of_ble_eq_true rfl, Nat.le_of_ble_eq_true rfl⟩) ⟨fun a U g mk q => by obtain ⟨q0, q1, qP, qK, qD, qN⟩ := q; exact ⟨q0, q1, qP, va_K.moved (u := U) (U := U.calling g mk a) (Vm.Alike.refl U.vm) qK, qD, va_Nw.same rfl rfl qN⟩, va_recv hK hPc (ci := 1) (q0 := 0) rfl rfl, fun U hU hW => ⟨rfl, by rw [hU], by rw [hU]; exact hPc, va_K.moved hW.alike hK, hDc.weaken (fun _ _ _ _ => trivial), va_Nw.warmM hW hnk⟩⟩ rfl rfl hl.1 rfl (lv_room (Nat.le_of_ble_eq_true rfl)) dX1_advice_60 ⟨Nat.le_of_ble_eq_true rfl, Nat.le_of_ble_eq_true rfl⟩) hS (fun q _ h => hFc q h) hFc (fun r16 u t H1 locs ht hvm hw hB hz1 hk1 hS => ?_)
            obtain ⟨glm_17, rom_18, hel_19, nw_20, nx_21⟩ := u
            obtain ⟨q22, q23, hP1, -, hD1⟩ := hB
            have hw := And.intro hw trivial
            try dsimp only at hw
            have hw := hw.1
            rw [ht] at hP1
            obtain ⟨hP, hD⟩ := va_join (wr := []) (w1 := [(x, .inr (1, [.ref aH, .ref aL, .ref aS, .ref aO, .ref aK, .ref aZ, .ref cv, .int tcn_14, .int mcn, .int swd, .int rwd, .int bpt, .int flm])), (aH, .inl (cI, 34, .inl hd_15)), (aL, .inl (cI, 34, .inl la)), (cv, .inr (0, [.ref q22, .ref q23, .int glm_17, .int rom_18, .int hel_19])), (q22, .inl (cI, 90, .inl nw_20)), (q23, .inl (cI, 90, .inl nx_21))]) hP hD [4, 5, 0, 1, 2, 3] [] rfl rfl (by decide) (by decide) hk1 hFc hP1 hD1
            generalize H1 = H at hP hS ⊢
            have hP : va_P (dC, dI) vwCl [(x, .inr (1, [.ref aH, .ref aL, .ref aS, .ref aO, .ref aK, .ref aZ, .ref cv, .int tcn_14, .int mcn, .int swd, .int rwd, .int bpt, .int flm])), (aH, .inl (cI, 34, .inl hd_15)), (aL, .inl (cI, 34, .inl la)), (cv, .inr (0, [.ref q22, .ref q23, .int glm_17, .int rom_18, .int hel_19])), (q22, .inl (cI, 90, .inl nw_20)), (q23, .inl (cI, 90, .inl nx_21))] H := hP
            have hD : va_D A [(x, .inr (1, [.ref aH, .ref aL, .ref aS, .ref aO, .ref aK, .ref aZ, .ref cv, .int tcn_14, .int mcn, .int swd, .int rwd, .int bpt, .int flm])), (aH, .inl (cI, 34, .inl hd_15)), (aL, .inl (cI, 34, .inl la)), (cv, .inr (0, [.ref q22, .ref q23, .int glm_17, .int rom_18, .int hel_19])), (q22, .inl (cI, 90, .inl nw_20)), (q23, .inl (cI, 90, .inl nx_21))] := hD
            refine lv_istore (lv' := [(5, .int r16), (0, .ref x), (1, .int v1), (2, .int v2), (3, .int v3), (4, .int v4)]) hx hb dX1_advice_63 hl (by decide) rfl (fun ls hl => ?_)
            refine lv_aload_n hx hb dX1_advice_65 rfl (lv_at hl 1 rfl) ?_
            refine lv_iload hx hb dX1_advice_66 (lv_at hl 5 rfl) ?_
            refine lv_iconst (v := 1) hx hb dX1_advice_68 (by decide) ?_
            have hPc := hP.sub (ws' := [(x, .inr (1, [.ref aH, .ref aL, .ref aS, .ref aO, .ref aK, .ref aZ, .ref cv, .int tcn_14, .int mcn, .int swd, .int rwd, .int bpt, .int flm])), (aH, .inl (cI, 34, .inl hd_15))]) [0, 1] rfl
            have hDc := hD.sub (ws' := [(x, .inr (1, [.ref aH, .ref aL, .ref aS, .ref aO, .ref aK, .ref aZ, .ref cv, .int tcn_14, .int mcn, .int swd, .int rwd, .int bpt, .int flm])), (aH, .inl (cI, 34, .inl hd_15))]) [0, 1] (by decide) rfl
            have hFc := va_free (wc := [(x, .inr (1, [.ref aH, .ref aL, .ref aS, .ref aO, .ref aK, .ref aZ, .ref cv, .int tcn_14, .int mcn, .int swd, .int rwd, .int bpt, .int flm])), (aH, .inl (cI, 34, .inl hd_15))]) hD hS hA [0, 1] rfl
            refine va_callv (va_runV (As := [.int v4, .int (1 : Int32)]) (rest := []) ⟨hx, hb, hml, hown, hts⟩ (c_X1_addTiles l dC dI cI cZ x aH aL aS aO aK aZ cv H.size tcn_14 mcn swd rwd bpt flm hd_15 v4 (1 : Int32) _ hw) (cwV 2 hts gX1_advice_X1_addTiles rfl rfl rfl (by decide +kernel) ⟨Nat.le_of_ble_eq_true rfl, Nat.le_of_ble_eq_true rfl⟩) ⟨fun a U g mk q => by obtain ⟨q0, q1, qP, qK, qD⟩ := q; exact ⟨q0, q1, qP, va_K.moved (u := U) (U := U.calling g mk a) (Vm.Alike.refl U.vm) qK, qD⟩, va_recv hK hPc (ci := 1) (q0 := 0) rfl rfl, fun U hU hW => ⟨rfl, by rw [hU], by rw [hU]; exact hPc, va_K.moved hW.alike hK, hDc.weaken (fun _ _ _ _ => trivial)⟩⟩ rfl rfl hl.1 rfl (lv_room (Nat.le_of_ble_eq_true rfl)) dX1_advice_69 ⟨Nat.le_of_ble_eq_true rfl, Nat.le_of_ble_eq_true rfl⟩) hS (fun q _ h => hFc q h) hFc (fun u t H1 locs ht hvm hw hB hz1 hk1 hS => ?_)
            obtain ⟨tcn_24, hd_25⟩ := u
            obtain ⟨hP1, -, hD1⟩ := hB
            have hw := And.intro hw trivial
            try dsimp only at hw
            have hw := hw.1
            rw [ht] at hP1
            obtain ⟨hP, hD⟩ := va_join (wr := [(aL, .inl (cI, 34, .inl la)), (cv, .inr (0, [.ref q22, .ref q23, .int glm_17, .int rom_18, .int hel_19])), (q22, .inl (cI, 90, .inl nw_20)), (q23, .inl (cI, 90, .inl nx_21))]) (w1 := [(x, .inr (1, [.ref aH, .ref aL, .ref aS, .ref aO, .ref aK, .ref aZ, .ref cv, .int tcn_24, .int mcn, .int swd, .int rwd, .int bpt, .int flm])), (aH, .inl (cI, 34, .inl hd_25))]) hP hD [0, 1] [2, 3, 4, 5] rfl rfl (by decide) (by decide) hk1 hFc hP1 hD1
            generalize H1 = H at hP hS ⊢
            have hP : va_P (dC, dI) vwCl [(aL, .inl (cI, 34, .inl la)), (cv, .inr (0, [.ref q22, .ref q23, .int glm_17, .int rom_18, .int hel_19])), (q22, .inl (cI, 90, .inl nw_20)), (q23, .inl (cI, 90, .inl nx_21)), (x, .inr (1, [.ref aH, .ref aL, .ref aS, .ref aO, .ref aK, .ref aZ, .ref cv, .int tcn_24, .int mcn, .int swd, .int rwd, .int bpt, .int flm])), (aH, .inl (cI, 34, .inl hd_25))] H := hP
            have hD : va_D A [(aL, .inl (cI, 34, .inl la)), (cv, .inr (0, [.ref q22, .ref q23, .int glm_17, .int rom_18, .int hel_19])), (q22, .inl (cI, 90, .inl nw_20)), (q23, .inl (cI, 90, .inl nx_21)), (x, .inr (1, [.ref aH, .ref aL, .ref aS, .ref aO, .ref aK, .ref aZ, .ref cv, .int tcn_24, .int mcn, .int swd, .int rwd, .int bpt, .int flm])), (aH, .inl (cI, 34, .inl hd_25))] := hD
            refine lv_iload hx hb dX1_advice_72 (lv_at hl 0 rfl) ?_
            refine lv_iload_n hx hb dX1_advice_74 rfl (lv_at hl 3 rfl) ?_
            refine lv_icmp_ge (tgt := 84) hx hb dX1_advice_75 (by decide) (fun c26 => ?_) (fun c26 => ?_)
            · have hw := hw.1 c26
              have hP9 := hP.sub (ws' := [(x, .inr (1, [.ref aH, .ref aL, .ref aS, .ref aO, .ref aK, .ref aZ, .ref cv, .int tcn_24, .int mcn, .int swd, .int rwd, .int bpt, .int flm])), (aH, .inl (cI, 34, .inl hd_25)), (aL, .inl (cI, 34, .inl la)), (cv, .inr (0, [.ref q22, .ref q23, .int glm_17, .int rom_18, .int hel_19])), (q22, .inl (cI, 90, .inl nw_20)), (q23, .inl (cI, 90, .inl nx_21))]) [4, 5, 0, 1, 2, 3] rfl
              have hD9 := hD.sub (ws' := [(x, .inr (1, [.ref aH, .ref aL, .ref aS, .ref aO, .ref aK, .ref aZ, .ref cv, .int tcn_24, .int mcn, .int swd, .int rwd, .int bpt, .int flm])), (aH, .inl (cI, 34, .inl hd_25)), (aL, .inl (cI, 34, .inl la)), (cv, .inr (0, [.ref q22, .ref q23, .int glm_17, .int rom_18, .int hel_19])), (q22, .inl (cI, 90, .inl nw_20)), (q23, .inl (cI, 90, .inl nx_21))]) [4, 5, 0, 1, 2, 3] (by decide) rfl
              exact L84 (w_X1_advice_b30 post mcn la n) ih v1 v2 v3 v4 tcn_24 hd_25 glm_17 rom_18 hel_19 nw_20 nx_21 q22 q23 _ _ _ hw hP9 hD9 hS (lv_sub hl [1, 2, 3, 4, 5] rfl)
            · have hw := hw.2 c26
              refine lv_iload hx hb dX1_advice_78 (lv_at hl 0 rfl) ?_
              refine lv_istore_n (lv' := [(2, .int r16), (5, .int r16), (0, .ref x), (1, .int v1), (3, .int v3), (4, .int v4)]) hx hb dX1_advice_80 rfl hl (by decide) rfl (fun ls hl => ?_)
              refine lv_iload hx hb dX1_advice_81 (lv_at hl 5 rfl) ?_
              refine lv_istore_n (lv' := [(3, .int v4), (2, .int r16), (5, .int r16), (0, .ref x), (1, .int v1), (4, .int v4)]) hx hb dX1_advice_83 rfl hl (by decide) rfl (fun ls hl => ?_)
              have hP9 := hP.sub (ws' := [(x, .inr (1, [.ref aH, .ref aL, .ref aS, .ref aO, .ref aK, .ref aZ, .ref cv, .int tcn_24, .int mcn, .int swd, .int rwd, .int bpt, .int flm])), (aH, .inl (cI, 34, .inl hd_25)), (aL, .inl (cI, 34, .inl la)), (cv, .inr (0, [.ref q22, .ref q23, .int glm_17, .int rom_18, .int hel_19])), (q22, .inl (cI, 90, .inl nw_20)), (q23, .inl (cI, 90, .inl nx_21))]) [4, 5, 0, 1, 2, 3] rfl
              have hD9 := hD.sub (ws' := [(x, .inr (1, [.ref aH, .ref aL, .ref aS, .ref aO, .ref aK, .ref aZ, .ref cv, .int tcn_24, .int mcn, .int swd, .int rwd, .int bpt, .int flm])), (aH, .inl (cI, 34, .inl hd_25)), (aL, .inl (cI, 34, .inl la)), (cv, .inr (0, [.ref q22, .ref q23, .int glm_17, .int rom_18, .int hel_19])), (q22, .inl (cI, 90, .inl nw_20)), (q23, .inl (cI, 90, .inl nx_21))]) [4, 5, 0, 1, 2, 3] (by decide) rfl
              exact L84 (w_X1_advice_b30 post mcn la n) ih v1 r16 v4 v4 tcn_24 hd_25 glm_17 rom_18 hel_19 nw_20 nx_21 q22 q23 _ _ _ hw hP9 hD9 hS (lv_sub hl [3, 4, 1, 0, 5] rfl)
  refine lv_aload_n hx hb dX1_advice_0 rfl (lv_at hl 0 rfl) ?_
  refine va_get (D := (dC, dI)) (ci := 1) (v := .int tcn) (C := RX1) (T := TX1) (N := 13) hx hb hts hinX1 hown hK hP 0 rfl rfl 7 (by decide) (hts (.fieldLink RX1 111 "TileHand" "tileCount" "I") (by decide +kernel)) (fun _ h9 => h9) rfl dX1_advice_1 ?_
  refine lv_if_ne (tgt := 17) hx hb dX1_advice_4 (by decide) (fun c1 => ?_) (fun c1 => ?_)
  · have hw := hw.2 c1
    refine lv_aload_n hx hb dX1_advice_17 rfl (lv_at hl 0 rfl) ?_
    have hPc := hP.sub (ws' := [(x, .inr (1, [.ref aH, .ref aL, .ref aS, .ref aO, .ref aK, .ref aZ, .ref cv, .int tcn, .int mcn, .int swd, .int rwd, .int bpt, .int flm])), (aH, .inl (cI, 34, .inl hd)), (aL, .inl (cI, 34, .inl la)), (cv, .inr (0, [.ref aN, .ref aX, .int glm, .int rom, .int hel])), (aN, .inl (cI, 90, .inl nw)), (aX, .inl (cI, 90, .inl nx))]) [0, 1, 2, 3, 4, 5] rfl
    have hDc := hD.sub (ws' := [(x, .inr (1, [.ref aH, .ref aL, .ref aS, .ref aO, .ref aK, .ref aZ, .ref cv, .int tcn, .int mcn, .int swd, .int rwd, .int bpt, .int flm])), (aH, .inl (cI, 34, .inl hd)), (aL, .inl (cI, 34, .inl la)), (cv, .inr (0, [.ref aN, .ref aX, .int glm, .int rom, .int hel])), (aN, .inl (cI, 90, .inl nw)), (aX, .inl (cI, 90, .inl nx))]) [0, 1, 2, 3, 4, 5] (by decide) rfl
    have hFc := va_free (wc := [(x, .inr (1, [.ref aH, .ref aL, .ref aS, .ref aO, .ref aK, .ref aZ, .ref cv, .int tcn, .int mcn, .int swd, .int rwd, .int bpt, .int flm])), (aH, .inl (cI, 34, .inl hd)), (aL, .inl (cI, 34, .inl la)), (cv, .inr (0, [.ref aN, .ref aX, .int glm, .int rom, .int hel])), (aN, .inl (cI, 90, .inl nw)), (aX, .inl (cI, 90, .inl nx))]) hD hS hA [0, 1, 2, 3, 4, 5] rfl
    refine va_calli (va_runV (As := []) (rest := []) ⟨hx, hb, hml, hown, hts⟩ (c_X1_missing l dC dI cI cZ x aH aL aS aO aK aZ cv aN aX s.heap.size tcn mcn swd rwd bpt flm hd la glm rom hel nw nx _ hw) (cwV 0 hts gX1_advice_X1_missing rfl rfl rfl (by decide +kernel) ⟨Nat.le_of_ble_eq_true rfl, Nat.le_of_ble_eq_true rfl⟩) ⟨fun a U g mk q => by obtain ⟨q0, q1, qP, qK, qD, qN⟩ := q; exact ⟨q0, q1, qP, va_K.moved (u := U) (U := U.calling g mk a) (Vm.Alike.refl U.vm) qK, qD, va_Nw.same rfl rfl qN⟩, va_recv hK hPc (ci := 1) (q0 := 0) rfl rfl, fun U hU hW => ⟨rfl, by rw [hU], by rw [hU]; exact hPc, va_K.moved hW.alike hK, hDc.weaken (fun _ _ _ _ => trivial), va_Nw.warmM hW hnk⟩⟩ rfl rfl hl.1 rfl (lv_room (Nat.le_of_ble_eq_true rfl)) dX1_advice_18 ⟨Nat.le_of_ble_eq_true rfl, Nat.le_of_ble_eq_true rfl⟩) hS (fun q _ h => hFc q h) hFc (fun r2 u t H1 locs ht hvm hw hB hz1 hk1 hS => ?_)
    obtain ⟨glm_3, rom_4, hel_5, nw_6, nx_7⟩ := u
    obtain ⟨q8, q9, hP1, -, hD1⟩ := hB
    have hw := And.intro hw trivial
    try dsimp only at hw
    have hw := hw.1
    rw [ht] at hP1
    obtain ⟨hP, hD⟩ := va_join (wr := []) (w1 := [(x, .inr (1, [.ref aH, .ref aL, .ref aS, .ref aO, .ref aK, .ref aZ, .ref cv, .int tcn, .int mcn, .int swd, .int rwd, .int bpt, .int flm])), (aH, .inl (cI, 34, .inl hd)), (aL, .inl (cI, 34, .inl la)), (cv, .inr (0, [.ref q8, .ref q9, .int glm_3, .int rom_4, .int hel_5])), (q8, .inl (cI, 90, .inl nw_6)), (q9, .inl (cI, 90, .inl nx_7))]) hP hD [0, 1, 2, 3, 4, 5] [] rfl rfl (by decide) (by decide) hk1 hFc hP1 hD1
    generalize H1 = H at hP hS ⊢
    have hP : va_P (dC, dI) vwCl [(x, .inr (1, [.ref aH, .ref aL, .ref aS, .ref aO, .ref aK, .ref aZ, .ref cv, .int tcn, .int mcn, .int swd, .int rwd, .int bpt, .int flm])), (aH, .inl (cI, 34, .inl hd)), (aL, .inl (cI, 34, .inl la)), (cv, .inr (0, [.ref q8, .ref q9, .int glm_3, .int rom_4, .int hel_5])), (q8, .inl (cI, 90, .inl nw_6)), (q9, .inl (cI, 90, .inl nx_7))] H := hP
    have hD : va_D A [(x, .inr (1, [.ref aH, .ref aL, .ref aS, .ref aO, .ref aK, .ref aZ, .ref cv, .int tcn, .int mcn, .int swd, .int rwd, .int bpt, .int flm])), (aH, .inl (cI, 34, .inl hd)), (aL, .inl (cI, 34, .inl la)), (cv, .inr (0, [.ref q8, .ref q9, .int glm_3, .int rom_4, .int hel_5])), (q8, .inl (cI, 90, .inl nw_6)), (q9, .inl (cI, 90, .inl nx_7))] := hD
    refine lv_istore_n (lv' := [(1, .int r2), (0, .ref x)]) hx hb dX1_advice_21 rfl hl (by decide) rfl (fun ls hl => ?_)
    refine lv_bipush (v := 15) hx hb dX1_advice_22 (by decide) ?_
    refine lv_istore_n (lv' := [(2, .int (15 : Int32)), (1, .int r2), (0, .ref x)]) hx hb dX1_advice_24 rfl hl (by decide) rfl (fun ls hl => ?_)
    refine lv_iconst (v := -1) hx hb dX1_advice_25 (by decide) ?_
    refine lv_istore_n (lv' := [(3, .int (-1 : Int32)), (2, .int (15 : Int32)), (1, .int r2), (0, .ref x)]) hx hb dX1_advice_26 rfl hl (by decide) rfl (fun ls hl => ?_)
    refine lv_iconst (v := 0) hx hb dX1_advice_27 (by decide) ?_
    refine lv_istore (lv' := [(4, .int (0 : Int32)), (3, .int (-1 : Int32)), (2, .int (15 : Int32)), (1, .int r2), (0, .ref x)]) hx hb dX1_advice_28 hl (by decide) rfl (fun ls hl => ?_)
    obtain ⟨n9, hw⟩ := hw
    exact L30 n9 r2 (15 : Int32) (-1 : Int32) (0 : Int32) tcn hd glm_3 rom_4 hel_5 nw_6 nx_7 q8 q9 _ _ _ hw hP hD hS (lv_sub hl [4, 3, 2, 1, 0] rfl)
  · have hw := hw.1 c1
    exact False.elim hw

def w_X1_advice_x_b84 (px : String → Int32 → (Nat → Int32) → Int32 → Int32 → Int32 → (Nat → Int32) → (Nat → Int32) → Prop) (mcn : Int32) (la : (Nat → Int32)) (K30 : Int32 → Int32 → Int32 → Int32 → Int32 → (Nat → Int32) → Int32 → Int32 → Int32 → (Nat → Int32) → (Nat → Int32) → Prop) (v1 : Int32) (v2 : Int32) (v3 : Int32) (v4 : Int32) (tcn : Int32) (hd : (Nat → Int32)) (glm : Int32) (rom : Int32) (hel : Int32) (nw : (Nat → Int32)) (nx : (Nat → Int32)) : Prop := K30 v1 v2 v3 (v4 + 1) tcn hd glm rom hel nw nx

def w_X1_advice_x_b30 (px : String → Int32 → (Nat → Int32) → Int32 → Int32 → Int32 → (Nat → Int32) → (Nat → Int32) → Prop) (mcn : Int32) (la : (Nat → Int32)) : Nat → Int32 → Int32 → Int32 → Int32 → Int32 → (Nat → Int32) → Int32 → Int32 → Int32 → (Nat → Int32) → (Nat → Int32) → Prop
  | 0, _, _, _, _, _, _, _, _, _, _, _ => False
  | n + 1, v1, v2, v3, v4, tcn, hd, glm, rom, hel, nw, nx => (((34 : Int32) ≤ v4 → (False)) ∧ (¬ (34 : Int32) ≤ v4 → (((v2 ≤ v1 → (False)) ∧ (¬ v2 ≤ v1 → (vp_in v4 34 ∧ ((((hd v4.toNatClampNeg) ≤ 0 → (w_X1_advice_x_b84 px mcn la (w_X1_advice_x_b30 px mcn la n) v1 v2 v3 v4 tcn hd glm rom hel nw nx)) ∧ (¬ (hd v4.toNatClampNeg) ≤ 0 → (w_X1_addTiles tcn hd v4 (-1 : Int32) (fun tcn_14 hd_15 => (w_X1_missing mcn hd_15 la glm rom hel nw nx (fun r16 glm_17 rom_18 hel_19 nw_20 nx_21 => (w_X1_addTiles tcn_14 hd_15 v4 (1 : Int32) (fun tcn_24 hd_25 => (((v2 ≤ r16 → (w_X1_advice_x_b84 px mcn la (w_X1_advice_x_b30 px mcn la n) v1 v2 v3 v4 tcn_24 hd_25 glm_17 rom_18 hel_19 nw_20 nx_21)) ∧ (¬ v2 ≤ r16 → (w_X1_advice_x_b84 px mcn la (w_X1_advice_x_b30 px mcn la n) v1 r16 v4 v4 tcn_24 hd_25 glm_17 rom_18 hel_19 nw_20 nx_21)))))))))))))))))))

def w_X1_advice_x (tcn : Int32) (mcn : Int32) (hd : (Nat → Int32)) (la : (Nat → Int32)) (glm : Int32) (rom : Int32) (hel : Int32) (nw : (Nat → Int32)) (nx : (Nat → Int32)) (px : String → Int32 → (Nat → Int32) → Int32 → Int32 → Int32 → (Nat → Int32) → (Nat → Int32) → Prop) : Prop := ((tcn = 0 → (px "java/lang/IllegalStateException" tcn hd glm rom hel nw nx)) ∧ (¬ tcn = 0 → (w_X1_missing mcn hd la glm rom hel nw nx (fun r2 glm_3 rom_4 hel_5 nw_6 nx_7 => (∃ n9, w_X1_advice_x_b30 px mcn la n9 r2 (15 : Int32) (-1 : Int32) (0 : Int32) tcn hd glm_3 rom_4 hel_5 nw_6 nx_7)))))

set_option maxHeartbeats 4000000 in
set_option maxRecDepth 100000 in
theorem c_X1_advice_x (l : Launch) (hl9 : l.stackTraces = false) (dC : Nat → ClassId) (dI : Nat → Nat → Nat) (cI cZ : ClassId) (x : Nat) (aH : Nat) (aL : Nat) (aS : Nat) (aO : Nat) (aK : Nat) (aZ : Nat) (cv : Nat) (aN : Nat) (aX : Nat) (sz : Nat) (tcn : Int32) (mcn : Int32) (swd : Int32) (rwd : Int32) (bpt : Int32) (flm : Int32) (hd : (Nat → Int32)) (la : (Nat → Int32)) (glm : Int32) (rom : Int32) (hel : Int32) (nw : (Nat → Int32)) (nx : (Nat → Int32)) (px : String → Int32 → (Nat → Int32) → Int32 → Int32 → Int32 → (Nat → Int32) → (Nat → Int32) → Prop) (hw : w_X1_advice_x tcn mcn hd la glm rom hel nw nx px) : vx_Met l yX1_advice wsX1_advice ({ frames := 7, cells := 1, slots := 6, locals := 162 } : Room) (va_Pc [.ref x] (fun U => U.heap.size = sz ∧ va_P (dC, dI) vwCl [(x, .inr (1, [.ref aH, .ref aL, .ref aS, .ref aO, .ref aK, .ref aZ, .ref cv, .int tcn, .int mcn, .int swd, .int rwd, .int bpt, .int flm])), (aH, .inl (cI, 34, .inl hd)), (aL, .inl (cI, 34, .inl la)), (cv, .inr (0, [.ref aN, .ref aX, .int glm, .int rom, .int hel])), (aN, .inl (cI, 90, .inl nw)), (aX, .inl (cI, 90, .inl nx))] U.heap ∧ va_K (dC, dI) vwCl [(cI, .int), (cZ, .boolean)] U ∧ va_D (fun _ => True) [(x, .inr (1, [.ref aH, .ref aL, .ref aS, .ref aO, .ref aK, .ref aZ, .ref cv, .int tcn, .int mcn, .int swd, .int rwd, .int bpt, .int flm])), (aH, .inl (cI, 34, .inl hd)), (aL, .inl (cI, 34, .inl la)), (cv, .inr (0, [.ref aN, .ref aX, .int glm, .int rom, .int hel])), (aN, .inl (cI, 90, .inl nw)), (aX, .inl (cI, 90, .inl nx))] ∧ va_Nw (.methodLinkNest RX0 51 yX1_beginsRow "TileHand") U ∧ xk (va_A [(x, .inr (1, [.ref aH, .ref aL, .ref aS, .ref aO, .ref aK, .ref aZ, .ref cv, .int tcn, .int mcn, .int swd, .int rwd, .int bpt, .int flm])), (aH, .inl (cI, 34, .inl hd)), (aL, .inl (cI, 34, .inl la)), (cv, .inr (0, [.ref aN, .ref aX, .int glm, .int rom, .int hel])), (aN, .inl (cI, 90, .inl nw)), (aX, .inl (cI, 90, .inl nx))] sz) U)) (va_Qi (fun (_ : Int32) (_ : Unit) => False) (fun _ _ => True) (va_A [(x, .inr (1, [.ref aH, .ref aL, .ref aS, .ref aO, .ref aK, .ref aZ, .ref cv, .int tcn, .int mcn, .int swd, .int rwd, .int bpt, .int flm])), (aH, .inl (cI, 34, .inl hd)), (aL, .inl (cI, 34, .inl la)), (cv, .inr (0, [.ref aN, .ref aX, .int glm, .int rom, .int hel])), (aN, .inl (cI, 90, .inl nw)), (aX, .inl (cI, 90, .inl nx))] sz)) (vx_X (fun (u9 : String × Int32 × (Nat → Int32) × Int32 × Int32 × Int32 × (Nat → Int32) × (Nat → Int32)) => px u9.1 u9.2.1 u9.2.2.1 u9.2.2.2.1 u9.2.2.2.2.1 u9.2.2.2.2.2.1 u9.2.2.2.2.2.2.1 u9.2.2.2.2.2.2.2) (fun (E9 : String) (u9 : String × Int32 × (Nat → Int32) × Int32 × Int32 × Int32 × (Nat → Int32) × (Nat → Int32)) (t9 : State) => E9 = u9.1 ∧ ∃ aN1 aX1 : Nat, va_P (dC, dI) vwCl [(x, .inr (1, [.ref aH, .ref aL, .ref aS, .ref aO, .ref aK, .ref aZ, .ref cv, .int u9.2.1, .int mcn, .int swd, .int rwd, .int bpt, .int flm])), (aH, .inl (cI, 34, .inl u9.2.2.1)), (aL, .inl (cI, 34, .inl la)), (cv, .inr (0, [.ref aN1, .ref aX1, .int u9.2.2.2.1, .int u9.2.2.2.2.1, .int u9.2.2.2.2.2.1])), (aN1, .inl (cI, 90, .inl u9.2.2.2.2.2.2.1)), (aX1, .inl (cI, 90, .inl u9.2.2.2.2.2.2.2))] t9.heap ∧ va_K (dC, dI) vwCl [(cI, .int), (cZ, .boolean)] t9 ∧ va_D (va_A [(x, .inr (1, [.ref aH, .ref aL, .ref aS, .ref aO, .ref aK, .ref aZ, .ref cv, .int tcn, .int mcn, .int swd, .int rwd, .int bpt, .int flm])), (aH, .inl (cI, 34, .inl hd)), (aL, .inl (cI, 34, .inl la)), (cv, .inr (0, [.ref aN, .ref aX, .int glm, .int rom, .int hel])), (aN, .inl (cI, 90, .inl nw)), (aX, .inl (cI, 90, .inl nx))] sz) [(x, .inr (1, [.ref aH, .ref aL, .ref aS, .ref aO, .ref aK, .ref aZ, .ref cv, .int u9.2.1, .int mcn, .int swd, .int rwd, .int bpt, .int flm])), (aH, .inl (cI, 34, .inl u9.2.2.1)), (aL, .inl (cI, 34, .inl la)), (cv, .inr (0, [.ref aN1, .ref aX1, .int u9.2.2.2.1, .int u9.2.2.2.2.1, .int u9.2.2.2.2.2.1])), (aN1, .inl (cI, 90, .inl u9.2.2.2.2.2.2.1)), (aX1, .inl (cI, 90, .inl u9.2.2.2.2.2.2.2))]) (va_A [(x, .inr (1, [.ref aH, .ref aL, .ref aS, .ref aO, .ref aK, .ref aZ, .ref cv, .int tcn, .int mcn, .int swd, .int rwd, .int bpt, .int flm])), (aH, .inl (cI, 34, .inl hd)), (aL, .inl (cI, 34, .inl la)), (cv, .inr (0, [.ref aN, .ref aX, .int glm, .int rom, .int hel])), (aN, .inl (cI, 90, .inl nw)), (aX, .inl (cI, 90, .inl nx))] sz)) 1 6 (va_A [(x, .inr (1, [.ref aH, .ref aL, .ref aS, .ref aO, .ref aK, .ref aZ, .ref cv, .int tcn, .int mcn, .int swd, .int rwd, .int bpt, .int flm])), (aH, .inl (cI, 34, .inl hd)), (aL, .inl (cI, 34, .inl la)), (cv, .inr (0, [.ref aN, .ref aX, .int glm, .int rom, .int hel])), (aN, .inl (cI, 90, .inl nw)), (aX, .inl (cI, 90, .inl nx))] sz) := by
  refine vx_ofW (cc := cX1_advice) (maxL := 6) (ret := (some .int)) (by decide) rfl ?_
  intro p e s m args below meth c s₁ B hml hEx hv
  obtain ⟨rfl, hsz, hP, hK, hD0, hnk, hxk⟩ := hv
  have hx := B.exec
  have hb := B.bytes
  have hr := B.returns
  have hts := atoms_spec (ws := wsX1_advice) B.pre
  have hown : s.vm.findClass RX1 = some m.cls := findClass_of_methodNamed B.named
  have hlocks := B.notSynchronized
  have hinX1 : ∀ w ∈ u_ws RX1 TX1 13, w ∈ wsX1_advice := by decide +kernel
  have hinX0 : ∀ w ∈ u_ws RX0 TX0 5, w ∈ wsX1_advice := by decide +kernel
  subst hsz
  have hD := hD0.self (sz := s.heap.size)
  generalize hAe : va_A [(x, .inr (1, [.ref aH, .ref aL, .ref aS, .ref aO, .ref aK, .ref aZ, .ref cv, .int tcn, .int mcn, .int swd, .int rwd, .int bpt, .int flm])), (aH, .inl (cI, 34, .inl hd)), (aL, .inl (cI, 34, .inl la)), (cv, .inr (0, [.ref aN, .ref aX, .int glm, .int rom, .int hel])), (aN, .inl (cI, 90, .inl nw)), (aX, .inl (cI, 90, .inl nx))] s.heap.size = A at hD hxk ⊢
  have hA : ∀ q : Nat, s.heap.size ≤ q → A q := fun q h => by rw [← hAe]; exact Or.inr h
  have hS : va_S A s.heap s.heap [] := va_S.rf
  have hl := lv_entry ([.ref x]) (n := 6) (Nat.le_of_ble_eq_true rfl)
  rw [lg_entry_eq]
  generalize (lg_sl ([.ref x]) ++ List.replicate (6 - (lg_sl ([.ref x])).length) Slot.unset).toArray = ls at hl ⊢
  have hl : lv_has ls 6 [(0, .ref x)] := hl
  refine (?_ : ∀ Q9 : State → Prop, vx_MQ below _ _ _ s _ _ _ = Q9 → W p l e ({ frames := 7, cells := 1, slots := 6, locals := 162 } : Room) s m _ below meth c s.heap [] 0 0 Q9 (F0 m 0 ls [])) _ rfl
  intro Q9 hQ9
  have hw : ((tcn = 0 → (px "java/lang/IllegalStateException" tcn hd glm rom hel nw nx)) ∧ (¬ tcn = 0 → (w_X1_missing mcn hd la glm rom hel nw nx (fun r2 glm_3 rom_4 hel_5 nw_6 nx_7 => (∃ n9, w_X1_advice_x_b30 px mcn la n9 r2 (15 : Int32) (-1 : Int32) (0 : Int32) tcn hd glm_3 rom_4 hel_5 nw_6 nx_7))))) := hw
  have L84 : ∀ (K30 : Int32 → Int32 → Int32 → Int32 → Int32 → (Nat → Int32) → Int32 → Int32 → Int32 → (Nat → Int32) → (Nat → Int32) → Prop) (hK30 : ∀ (v1 : Int32) (v2 : Int32) (v3 : Int32) (v4 : Int32) (tcn : Int32) (hd : (Nat → Int32)) (glm : Int32) (rom : Int32) (hel : Int32) (nw : (Nat → Int32)) (nx : (Nat → Int32)) (aN aX : Nat) (H : Heap) (locs : List Loc) (ls : Array Slot), K30 v1 v2 v3 v4 tcn hd glm rom hel nw nx → va_P (dC, dI) vwCl [(x, .inr (1, [.ref aH, .ref aL, .ref aS, .ref aO, .ref aK, .ref aZ, .ref cv, .int tcn, .int mcn, .int swd, .int rwd, .int bpt, .int flm])), (aH, .inl (cI, 34, .inl hd)), (aL, .inl (cI, 34, .inl la)), (cv, .inr (0, [.ref aN, .ref aX, .int glm, .int rom, .int hel])), (aN, .inl (cI, 90, .inl nw)), (aX, .inl (cI, 90, .inl nx))] H → va_D A [(x, .inr (1, [.ref aH, .ref aL, .ref aS, .ref aO, .ref aK, .ref aZ, .ref cv, .int tcn, .int mcn, .int swd, .int rwd, .int bpt, .int flm])), (aH, .inl (cI, 34, .inl hd)), (aL, .inl (cI, 34, .inl la)), (cv, .inr (0, [.ref aN, .ref aX, .int glm, .int rom, .int hel])), (aN, .inl (cI, 90, .inl nw)), (aX, .inl (cI, 90, .inl nx))] → va_S A s.heap H locs → lv_has ls 6 [(0, .ref x), (1, .int v1), (2, .int v2), (3, .int v3), (4, .int v4)] → W p l e ({ frames := 7, cells := 1, slots := 6, locals := 162 } : Room) s m ([.ref x] : List Value).toArray below meth c H locs 0 0 Q9 (F0 m 30 ls [])), ∀ (v1 : Int32) (v2 : Int32) (v3 : Int32) (v4 : Int32) (tcn : Int32) (hd : (Nat → Int32)) (glm : Int32) (rom : Int32) (hel : Int32) (nw : (Nat → Int32)) (nx : (Nat → Int32)) (aN aX : Nat) (H : Heap) (locs : List Loc) (ls : Array Slot), w_X1_advice_x_b84 px mcn la K30 v1 v2 v3 v4 tcn hd glm rom hel nw nx → va_P (dC, dI) vwCl [(x, .inr (1, [.ref aH, .ref aL, .ref aS, .ref aO, .ref aK, .ref aZ, .ref cv, .int tcn, .int mcn, .int swd, .int rwd, .int bpt, .int flm])), (aH, .inl (cI, 34, .inl hd)), (aL, .inl (cI, 34, .inl la)), (cv, .inr (0, [.ref aN, .ref aX, .int glm, .int rom, .int hel])), (aN, .inl (cI, 90, .inl nw)), (aX, .inl (cI, 90, .inl nx))] H → va_D A [(x, .inr (1, [.ref aH, .ref aL, .ref aS, .ref aO, .ref aK, .ref aZ, .ref cv, .int tcn, .int mcn, .int swd, .int rwd, .int bpt, .int flm])), (aH, .inl (cI, 34, .inl hd)), (aL, .inl (cI, 34, .inl la)), (cv, .inr (0, [.ref aN, .ref aX, .int glm, .int rom, .int hel])), (aN, .inl (cI, 90, .inl nw)), (aX, .inl (cI, 90, .inl nx))] → va_S A s.heap H locs → lv_has ls 6 [(0, .ref x), (1, .int v1), (2, .int v2), (3, .int v3), (4, .int v4)] → W p l e ({ frames := 7, cells := 1, slots := 6, locals := 162 } : Room) s m ([.ref x] : List Value).toArray below meth c H locs 0 0 Q9 (F0 m 84 ls []) := by
    intro K30 hK30 v1 v2 v3 v4 tcn hd glm rom hel nw nx aN aX H locs ls hw hP hD hS hl
    refine lv_iinc (v := v4 + 1) (lv' := [(4, .int (v4 + 1)), (0, .ref x), (1, .int v1), (2, .int v2), (3, .int v3)]) hx hb dX1_advice_84 hl (k := 4) rfl rfl (by decide) rfl (fun ls hl => ?_)
    refine lv_goto (tgt := 30) hx hb dX1_advice_87 (by decide) ?_
    exact hK30 v1 v2 v3 (v4 + 1) tcn hd glm rom hel nw nx aN aX _ _ _ hw hP hD hS (lv_sub hl [1, 2, 3, 4, 0] rfl)
  have L30 : ∀ (n : Nat), ∀ (v1 : Int32) (v2 : Int32) (v3 : Int32) (v4 : Int32) (tcn : Int32) (hd : (Nat → Int32)) (glm : Int32) (rom : Int32) (hel : Int32) (nw : (Nat → Int32)) (nx : (Nat → Int32)) (aN aX : Nat) (H : Heap) (locs : List Loc) (ls : Array Slot), w_X1_advice_x_b30 px mcn la n v1 v2 v3 v4 tcn hd glm rom hel nw nx → va_P (dC, dI) vwCl [(x, .inr (1, [.ref aH, .ref aL, .ref aS, .ref aO, .ref aK, .ref aZ, .ref cv, .int tcn, .int mcn, .int swd, .int rwd, .int bpt, .int flm])), (aH, .inl (cI, 34, .inl hd)), (aL, .inl (cI, 34, .inl la)), (cv, .inr (0, [.ref aN, .ref aX, .int glm, .int rom, .int hel])), (aN, .inl (cI, 90, .inl nw)), (aX, .inl (cI, 90, .inl nx))] H → va_D A [(x, .inr (1, [.ref aH, .ref aL, .ref aS, .ref aO, .ref aK, .ref aZ, .ref cv, .int tcn, .int mcn, .int swd, .int rwd, .int bpt, .int flm])), (aH, .inl (cI, 34, .inl hd)), (aL, .inl (cI, 34, .inl la)), (cv, .inr (0, [.ref aN, .ref aX, .int glm, .int rom, .int hel])), (aN, .inl (cI, 90, .inl nw)), (aX, .inl (cI, 90, .inl nx))] → va_S A s.heap H locs → lv_has ls 6 [(0, .ref x), (1, .int v1), (2, .int v2), (3, .int v3), (4, .int v4)] → W p l e ({ frames := 7, cells := 1, slots := 6, locals := 162 } : Room) s m ([.ref x] : List Value).toArray below meth c H locs 0 0 Q9 (F0 m 30 ls []) := by
    intro n
    induction n with
    | zero => intro v1 v2 v3 v4 tcn hd glm rom hel nw nx aN aX H locs ls hw _ _ _ _; exact False.elim hw
    | succ n ih =>
      intro v1 v2 v3 v4 tcn hd glm rom hel nw nx aN aX H locs ls hw hP hD hS hl
      refine lv_iload hx hb dX1_advice_30 (lv_at hl 4 rfl) ?_
      refine lv_bipush (v := 34) hx hb dX1_advice_32 (by decide) ?_
      refine lv_icmp_ge (tgt := 90) hx hb dX1_advice_34 (by decide) (fun c10 => ?_) (fun c10 => ?_)
      · have hw := hw.1 c10
        refine lv_iload_n hx hb dX1_advice_90 rfl (lv_at hl 3 rfl) ?_
        exact False.elim hw
      · have hw := hw.2 c10
        refine lv_iload_n hx hb dX1_advice_37 rfl (lv_at hl 2 rfl) ?_
        refine lv_iload_n hx hb dX1_advice_38 rfl (lv_at hl 1 rfl) ?_
        refine lv_icmp_le (tgt := 90) hx hb dX1_advice_39 (by decide) (fun c11 => ?_) (fun c11 => ?_)
        · have hw := hw.1 c11
          refine lv_iload_n hx hb dX1_advice_90 rfl (lv_at hl 3 rfl) ?_
          exact False.elim hw
        · have hw := hw.2 c11
          refine lv_aload_n hx hb dX1_advice_42 rfl (lv_at hl 0 rfl) ?_
          refine va_get (D := (dC, dI)) (ci := 1) (v := .ref aH) (C := RX1) (T := TX1) (N := 13) hx hb hts hinX1 hown hK hP 0 rfl rfl 0 (by decide) (hts (.fieldLink RX1 9 "TileHand" "hand" "[I") (by decide +kernel)) (fun _ h9 => h9) rfl dX1_advice_43 ?_
          refine lv_iload hx hb dX1_advice_46 (lv_at hl 4 rfl) ?_
          obtain ⟨h12, hw⟩ := hw
          refine va_iald hx hb hK hP 1 0 rfl rfl h12 dX1_advice_48 ?_
          refine lv_if_le (tgt := 84) hx hb dX1_advice_49 (by decide) (fun c13 => ?_) (fun c13 => ?_)
          · have hw := hw.1 c13
            exact L84 (w_X1_advice_x_b30 px mcn la n) ih v1 v2 v3 v4 tcn hd glm rom hel nw nx aN aX _ _ _ hw hP hD hS (lv_sub hl [0, 1, 2, 3, 4] rfl)
          · have hw := hw.2 c13
            refine lv_aload_n hx hb dX1_advice_52 rfl (lv_at hl 0 rfl) ?_
            refine lv_iload hx hb dX1_advice_53 (lv_at hl 4 rfl) ?_
            refine lv_iconst (v := -1) hx hb dX1_advice_55 (by decide) ?_
            have hPc := hP.sub (ws' := [(x, .inr (1, [.ref aH, .ref aL, .ref aS, .ref aO, .ref aK, .ref aZ, .ref cv, .int tcn, .int mcn, .int swd, .int rwd, .int bpt, .int flm])), (aH, .inl (cI, 34, .inl hd))]) [0, 1] rfl
            have hDc := hD.sub (ws' := [(x, .inr (1, [.ref aH, .ref aL, .ref aS, .ref aO, .ref aK, .ref aZ, .ref cv, .int tcn, .int mcn, .int swd, .int rwd, .int bpt, .int flm])), (aH, .inl (cI, 34, .inl hd))]) [0, 1] (by decide) rfl
            have hFc := va_free (wc := [(x, .inr (1, [.ref aH, .ref aL, .ref aS, .ref aO, .ref aK, .ref aZ, .ref cv, .int tcn, .int mcn, .int swd, .int rwd, .int bpt, .int flm])), (aH, .inl (cI, 34, .inl hd))]) hD hS hA [0, 1] rfl
            refine va_callv (va_runV (As := [.int v4, .int (-1 : Int32)]) (rest := []) ⟨hx, hb, hml, hown, hts⟩ (c_X1_addTiles l dC dI cI cZ x aH aL aS aO aK aZ cv H.size tcn mcn swd rwd bpt flm hd v4 (-1 : Int32) _ hw) (cwV 2 hts gX1_advice_X1_addTiles rfl rfl rfl (by decide +kernel) ⟨Nat.le_of_ble_eq_true rfl, Nat.le_of_ble_eq_true rfl⟩) ⟨fun a U g mk q => by obtain ⟨q0, q1, qP, qK, qD⟩ := q; exact ⟨q0, q1, qP, va_K.moved (u := U) (U := U.calling g mk a) (Vm.Alike.refl U.vm) qK, qD⟩, va_recv hK hPc (ci := 1) (q0 := 0) rfl rfl, fun U hU hW => ⟨rfl, by rw [hU], by rw [hU]; exact hPc, va_K.moved hW.alike hK, hDc.weaken (fun _ _ _ _ => trivial)⟩⟩ rfl rfl hl.1 rfl (lv_room (Nat.le_of_ble_eq_true rfl)) dX1_advice_56 ⟨Nat.le_of_ble_eq_true rfl, Nat.le_of_ble_eq_true rfl⟩) hS (fun q _ h => hFc q h) hFc (fun u t H1 locs ht hvm hw hB hz1 hk1 hS => ?_)
            obtain ⟨tcn_14, hd_15⟩ := u
            obtain ⟨hP1, -, hD1⟩ := hB
            have hw := And.intro hw trivial
            try dsimp only at hw
            have hw := hw.1
            rw [ht] at hP1
            obtain ⟨hP, hD⟩ := va_join (wr := [(aL, .inl (cI, 34, .inl la)), (cv, .inr (0, [.ref aN, .ref aX, .int glm, .int rom, .int hel])), (aN, .inl (cI, 90, .inl nw)), (aX, .inl (cI, 90, .inl nx))]) (w1 := [(x, .inr (1, [.ref aH, .ref aL, .ref aS, .ref aO, .ref aK, .ref aZ, .ref cv, .int tcn_14, .int mcn, .int swd, .int rwd, .int bpt, .int flm])), (aH, .inl (cI, 34, .inl hd_15))]) hP hD [0, 1] [2, 3, 4, 5] rfl rfl (by decide) (by decide) hk1 hFc hP1 hD1
            generalize H1 = H at hP hS ⊢
            have hP : va_P (dC, dI) vwCl [(aL, .inl (cI, 34, .inl la)), (cv, .inr (0, [.ref aN, .ref aX, .int glm, .int rom, .int hel])), (aN, .inl (cI, 90, .inl nw)), (aX, .inl (cI, 90, .inl nx)), (x, .inr (1, [.ref aH, .ref aL, .ref aS, .ref aO, .ref aK, .ref aZ, .ref cv, .int tcn_14, .int mcn, .int swd, .int rwd, .int bpt, .int flm])), (aH, .inl (cI, 34, .inl hd_15))] H := hP
            have hD : va_D A [(aL, .inl (cI, 34, .inl la)), (cv, .inr (0, [.ref aN, .ref aX, .int glm, .int rom, .int hel])), (aN, .inl (cI, 90, .inl nw)), (aX, .inl (cI, 90, .inl nx)), (x, .inr (1, [.ref aH, .ref aL, .ref aS, .ref aO, .ref aK, .ref aZ, .ref cv, .int tcn_14, .int mcn, .int swd, .int rwd, .int bpt, .int flm])), (aH, .inl (cI, 34, .inl hd_15))] := hD
            refine lv_aload_n hx hb dX1_advice_59 rfl (lv_at hl 0 rfl) ?_
            have hPc := hP.sub (ws' := [(x, .inr (1, [.ref aH, .ref aL, .ref aS, .ref aO, .ref aK, .ref aZ, .ref cv, .int tcn_14, .int mcn, .int swd, .int rwd, .int bpt, .int flm])), (aH, .inl (cI, 34, .inl hd_15)), (aL, .inl (cI, 34, .inl la)), (cv, .inr (0, [.ref aN, .ref aX, .int glm, .int rom, .int hel])), (aN, .inl (cI, 90, .inl nw)), (aX, .inl (cI, 90, .inl nx))]) [4, 5, 0, 1, 2, 3] rfl
            have hDc := hD.sub (ws' := [(x, .inr (1, [.ref aH, .ref aL, .ref aS, .ref aO, .ref aK, .ref aZ, .ref cv, .int tcn_14, .int mcn, .int swd, .int rwd, .int bpt, .int flm])), (aH, .inl (cI, 34, .inl hd_15)), (aL, .inl (cI, 34, .inl la)), (cv, .inr (0, [.ref aN, .ref aX, .int glm, .int rom, .int hel])), (aN, .inl (cI, 90, .inl nw)), (aX, .inl (cI, 90, .inl nx))]) [4, 5, 0, 1, 2, 3] (by decide) rfl
            have hFc := va_free (wc := [(x, .inr (1, [.ref aH, .ref aL, .ref aS, .ref aO, .ref aK, .ref aZ, .ref cv, .int tcn_14, .int mcn, .int swd, .int rwd, .int bpt, .int flm])), (aH, .inl (cI, 34, .inl hd_15)), (aL, .inl (cI, 34, .inl la)), (cv, .inr (0, [.ref aN, .ref aX, .int glm, .int rom, .int hel])), (aN, .inl (cI, 90, .inl nw)), (aX, .inl (cI, 90, .inl nx))]) hD hS hA [4, 5, 0, 1, 2, 3] rfl
            refine va_calli (va_runV (As := []) (rest := []) ⟨hx, hb, hml, hown, hts⟩ (c_X1_missing l dC dI cI cZ x aH aL aS aO aK aZ cv aN aX H.size tcn_14 mcn swd rwd bpt flm hd_15 la glm rom hel nw nx _ hw) (cwV 0 hts gX1_advice_X1_missing rfl rfl rfl (by decide +kernel) ⟨Nat.le_of_ble_eq_true rfl, Nat.le_of_ble_eq_true rfl⟩) ⟨fun a U g mk q => by obtain ⟨q0, q1, qP, qK, qD, qN⟩ := q; exact ⟨q0, q1, qP, va_K.moved (u := U) (U := U.calling g mk a) (Vm.Alike.refl U.vm) qK, qD, va_Nw.same rfl rfl qN⟩, va_recv hK hPc (ci := 1) (q0 := 0) rfl rfl, fun U hU hW => ⟨rfl, by rw [hU], by rw [hU]; exact hPc, va_K.moved hW.alike hK, hDc.weaken (fun _ _ _ _ => trivial), va_Nw.warmM hW hnk⟩⟩ rfl rfl hl.1 rfl (lv_room (Nat.le_of_ble_eq_true rfl)) dX1_advice_60 ⟨Nat.le_of_ble_eq_true rfl, Nat.le_of_ble_eq_true rfl⟩) hS (fun q _ h => hFc q h) hFc (fun r16 u t H1 locs ht hvm hw hB hz1 hk1 hS => ?_)
            obtain ⟨glm_17, rom_18, hel_19, nw_20, nx_21⟩ := u
            obtain ⟨q22, q23, hP1, -, hD1⟩ := hB
            have hw := And.intro hw trivial
            try dsimp only at hw
            have hw := hw.1
            rw [ht] at hP1
            obtain ⟨hP, hD⟩ := va_join (wr := []) (w1 := [(x, .inr (1, [.ref aH, .ref aL, .ref aS, .ref aO, .ref aK, .ref aZ, .ref cv, .int tcn_14, .int mcn, .int swd, .int rwd, .int bpt, .int flm])), (aH, .inl (cI, 34, .inl hd_15)), (aL, .inl (cI, 34, .inl la)), (cv, .inr (0, [.ref q22, .ref q23, .int glm_17, .int rom_18, .int hel_19])), (q22, .inl (cI, 90, .inl nw_20)), (q23, .inl (cI, 90, .inl nx_21))]) hP hD [4, 5, 0, 1, 2, 3] [] rfl rfl (by decide) (by decide) hk1 hFc hP1 hD1
            generalize H1 = H at hP hS ⊢
            have hP : va_P (dC, dI) vwCl [(x, .inr (1, [.ref aH, .ref aL, .ref aS, .ref aO, .ref aK, .ref aZ, .ref cv, .int tcn_14, .int mcn, .int swd, .int rwd, .int bpt, .int flm])), (aH, .inl (cI, 34, .inl hd_15)), (aL, .inl (cI, 34, .inl la)), (cv, .inr (0, [.ref q22, .ref q23, .int glm_17, .int rom_18, .int hel_19])), (q22, .inl (cI, 90, .inl nw_20)), (q23, .inl (cI, 90, .inl nx_21))] H := hP
            have hD : va_D A [(x, .inr (1, [.ref aH, .ref aL, .ref aS, .ref aO, .ref aK, .ref aZ, .ref cv, .int tcn_14, .int mcn, .int swd, .int rwd, .int bpt, .int flm])), (aH, .inl (cI, 34, .inl hd_15)), (aL, .inl (cI, 34, .inl la)), (cv, .inr (0, [.ref q22, .ref q23, .int glm_17, .int rom_18, .int hel_19])), (q22, .inl (cI, 90, .inl nw_20)), (q23, .inl (cI, 90, .inl nx_21))] := hD
            refine lv_istore (lv' := [(5, .int r16), (0, .ref x), (1, .int v1), (2, .int v2), (3, .int v3), (4, .int v4)]) hx hb dX1_advice_63 hl (by decide) rfl (fun ls hl => ?_)
            refine lv_aload_n hx hb dX1_advice_65 rfl (lv_at hl 1 rfl) ?_
            refine lv_iload hx hb dX1_advice_66 (lv_at hl 5 rfl) ?_
            refine lv_iconst (v := 1) hx hb dX1_advice_68 (by decide) ?_
            have hPc := hP.sub (ws' := [(x, .inr (1, [.ref aH, .ref aL, .ref aS, .ref aO, .ref aK, .ref aZ, .ref cv, .int tcn_14, .int mcn, .int swd, .int rwd, .int bpt, .int flm])), (aH, .inl (cI, 34, .inl hd_15))]) [0, 1] rfl
            have hDc := hD.sub (ws' := [(x, .inr (1, [.ref aH, .ref aL, .ref aS, .ref aO, .ref aK, .ref aZ, .ref cv, .int tcn_14, .int mcn, .int swd, .int rwd, .int bpt, .int flm])), (aH, .inl (cI, 34, .inl hd_15))]) [0, 1] (by decide) rfl
            have hFc := va_free (wc := [(x, .inr (1, [.ref aH, .ref aL, .ref aS, .ref aO, .ref aK, .ref aZ, .ref cv, .int tcn_14, .int mcn, .int swd, .int rwd, .int bpt, .int flm])), (aH, .inl (cI, 34, .inl hd_15))]) hD hS hA [0, 1] rfl
            refine va_callv (va_runV (As := [.int v4, .int (1 : Int32)]) (rest := []) ⟨hx, hb, hml, hown, hts⟩ (c_X1_addTiles l dC dI cI cZ x aH aL aS aO aK aZ cv H.size tcn_14 mcn swd rwd bpt flm hd_15 v4 (1 : Int32) _ hw) (cwV 2 hts gX1_advice_X1_addTiles rfl rfl rfl (by decide +kernel) ⟨Nat.le_of_ble_eq_true rfl, Nat.le_of_ble_eq_true rfl⟩) ⟨fun a U g mk q => by obtain ⟨q0, q1, qP, qK, qD⟩ := q; exact ⟨q0, q1, qP, va_K.moved (u := U) (U := U.calling g mk a) (Vm.Alike.refl U.vm) qK, qD⟩, va_recv hK hPc (ci := 1) (q0 := 0) rfl rfl, fun U hU hW => ⟨rfl, by rw [hU], by rw [hU]; exact hPc, va_K.moved hW.alike hK, hDc.weaken (fun _ _ _ _ => trivial)⟩⟩ rfl rfl hl.1 rfl (lv_room (Nat.le_of_ble_eq_true rfl)) dX1_advice_69 ⟨Nat.le_of_ble_eq_true rfl, Nat.le_of_ble_eq_true rfl⟩) hS (fun q _ h => hFc q h) hFc (fun u t H1 locs ht hvm hw hB hz1 hk1 hS => ?_)
            obtain ⟨tcn_24, hd_25⟩ := u
            obtain ⟨hP1, -, hD1⟩ := hB
            have hw := And.intro hw trivial
            try dsimp only at hw
            have hw := hw.1
            rw [ht] at hP1
            obtain ⟨hP, hD⟩ := va_join (wr := [(aL, .inl (cI, 34, .inl la)), (cv, .inr (0, [.ref q22, .ref q23, .int glm_17, .int rom_18, .int hel_19])), (q22, .inl (cI, 90, .inl nw_20)), (q23, .inl (cI, 90, .inl nx_21))]) (w1 := [(x, .inr (1, [.ref aH, .ref aL, .ref aS, .ref aO, .ref aK, .ref aZ, .ref cv, .int tcn_24, .int mcn, .int swd, .int rwd, .int bpt, .int flm])), (aH, .inl (cI, 34, .inl hd_25))]) hP hD [0, 1] [2, 3, 4, 5] rfl rfl (by decide) (by decide) hk1 hFc hP1 hD1
            generalize H1 = H at hP hS ⊢
            have hP : va_P (dC, dI) vwCl [(aL, .inl (cI, 34, .inl la)), (cv, .inr (0, [.ref q22, .ref q23, .int glm_17, .int rom_18, .int hel_19])), (q22, .inl (cI, 90, .inl nw_20)), (q23, .inl (cI, 90, .inl nx_21)), (x, .inr (1, [.ref aH, .ref aL, .ref aS, .ref aO, .ref aK, .ref aZ, .ref cv, .int tcn_24, .int mcn, .int swd, .int rwd, .int bpt, .int flm])), (aH, .inl (cI, 34, .inl hd_25))] H := hP
            have hD : va_D A [(aL, .inl (cI, 34, .inl la)), (cv, .inr (0, [.ref q22, .ref q23, .int glm_17, .int rom_18, .int hel_19])), (q22, .inl (cI, 90, .inl nw_20)), (q23, .inl (cI, 90, .inl nx_21)), (x, .inr (1, [.ref aH, .ref aL, .ref aS, .ref aO, .ref aK, .ref aZ, .ref cv, .int tcn_24, .int mcn, .int swd, .int rwd, .int bpt, .int flm])), (aH, .inl (cI, 34, .inl hd_25))] := hD
            refine lv_iload hx hb dX1_advice_72 (lv_at hl 0 rfl) ?_
            refine lv_iload_n hx hb dX1_advice_74 rfl (lv_at hl 3 rfl) ?_
            refine lv_icmp_ge (tgt := 84) hx hb dX1_advice_75 (by decide) (fun c26 => ?_) (fun c26 => ?_)
            · have hw := hw.1 c26
              have hP9 := hP.sub (ws' := [(x, .inr (1, [.ref aH, .ref aL, .ref aS, .ref aO, .ref aK, .ref aZ, .ref cv, .int tcn_24, .int mcn, .int swd, .int rwd, .int bpt, .int flm])), (aH, .inl (cI, 34, .inl hd_25)), (aL, .inl (cI, 34, .inl la)), (cv, .inr (0, [.ref q22, .ref q23, .int glm_17, .int rom_18, .int hel_19])), (q22, .inl (cI, 90, .inl nw_20)), (q23, .inl (cI, 90, .inl nx_21))]) [4, 5, 0, 1, 2, 3] rfl
              have hD9 := hD.sub (ws' := [(x, .inr (1, [.ref aH, .ref aL, .ref aS, .ref aO, .ref aK, .ref aZ, .ref cv, .int tcn_24, .int mcn, .int swd, .int rwd, .int bpt, .int flm])), (aH, .inl (cI, 34, .inl hd_25)), (aL, .inl (cI, 34, .inl la)), (cv, .inr (0, [.ref q22, .ref q23, .int glm_17, .int rom_18, .int hel_19])), (q22, .inl (cI, 90, .inl nw_20)), (q23, .inl (cI, 90, .inl nx_21))]) [4, 5, 0, 1, 2, 3] (by decide) rfl
              exact L84 (w_X1_advice_x_b30 px mcn la n) ih v1 v2 v3 v4 tcn_24 hd_25 glm_17 rom_18 hel_19 nw_20 nx_21 q22 q23 _ _ _ hw hP9 hD9 hS (lv_sub hl [1, 2, 3, 4, 5] rfl)
            · have hw := hw.2 c26
              refine lv_iload hx hb dX1_advice_78 (lv_at hl 0 rfl) ?_
              refine lv_istore_n (lv' := [(2, .int r16), (5, .int r16), (0, .ref x), (1, .int v1), (3, .int v3), (4, .int v4)]) hx hb dX1_advice_80 rfl hl (by decide) rfl (fun ls hl => ?_)
              refine lv_iload hx hb dX1_advice_81 (lv_at hl 5 rfl) ?_
              refine lv_istore_n (lv' := [(3, .int v4), (2, .int r16), (5, .int r16), (0, .ref x), (1, .int v1), (4, .int v4)]) hx hb dX1_advice_83 rfl hl (by decide) rfl (fun ls hl => ?_)
              have hP9 := hP.sub (ws' := [(x, .inr (1, [.ref aH, .ref aL, .ref aS, .ref aO, .ref aK, .ref aZ, .ref cv, .int tcn_24, .int mcn, .int swd, .int rwd, .int bpt, .int flm])), (aH, .inl (cI, 34, .inl hd_25)), (aL, .inl (cI, 34, .inl la)), (cv, .inr (0, [.ref q22, .ref q23, .int glm_17, .int rom_18, .int hel_19])), (q22, .inl (cI, 90, .inl nw_20)), (q23, .inl (cI, 90, .inl nx_21))]) [4, 5, 0, 1, 2, 3] rfl
              have hD9 := hD.sub (ws' := [(x, .inr (1, [.ref aH, .ref aL, .ref aS, .ref aO, .ref aK, .ref aZ, .ref cv, .int tcn_24, .int mcn, .int swd, .int rwd, .int bpt, .int flm])), (aH, .inl (cI, 34, .inl hd_25)), (aL, .inl (cI, 34, .inl la)), (cv, .inr (0, [.ref q22, .ref q23, .int glm_17, .int rom_18, .int hel_19])), (q22, .inl (cI, 90, .inl nw_20)), (q23, .inl (cI, 90, .inl nx_21))]) [4, 5, 0, 1, 2, 3] (by decide) rfl
              exact L84 (w_X1_advice_x_b30 px mcn la n) ih v1 r16 v4 v4 tcn_24 hd_25 glm_17 rom_18 hel_19 nw_20 nx_21 q22 q23 _ _ _ hw hP9 hD9 hS (lv_sub hl [3, 4, 1, 0, 5] rfl)
  refine lv_aload_n hx hb dX1_advice_0 rfl (lv_at hl 0 rfl) ?_
  refine va_get (D := (dC, dI)) (ci := 1) (v := .int tcn) (C := RX1) (T := TX1) (N := 13) hx hb hts hinX1 hown hK hP 0 rfl rfl 7 (by decide) (hts (.fieldLink RX1 111 "TileHand" "tileCount" "I") (by decide +kernel)) (fun _ h9 => h9) rfl dX1_advice_1 ?_
  refine lv_if_ne (tgt := 17) hx hb dX1_advice_4 (by decide) (fun c1 => ?_) (fun c1 => ?_)
  · have hw := hw.2 c1
    refine lv_aload_n hx hb dX1_advice_17 rfl (lv_at hl 0 rfl) ?_
    have hPc := hP.sub (ws' := [(x, .inr (1, [.ref aH, .ref aL, .ref aS, .ref aO, .ref aK, .ref aZ, .ref cv, .int tcn, .int mcn, .int swd, .int rwd, .int bpt, .int flm])), (aH, .inl (cI, 34, .inl hd)), (aL, .inl (cI, 34, .inl la)), (cv, .inr (0, [.ref aN, .ref aX, .int glm, .int rom, .int hel])), (aN, .inl (cI, 90, .inl nw)), (aX, .inl (cI, 90, .inl nx))]) [0, 1, 2, 3, 4, 5] rfl
    have hDc := hD.sub (ws' := [(x, .inr (1, [.ref aH, .ref aL, .ref aS, .ref aO, .ref aK, .ref aZ, .ref cv, .int tcn, .int mcn, .int swd, .int rwd, .int bpt, .int flm])), (aH, .inl (cI, 34, .inl hd)), (aL, .inl (cI, 34, .inl la)), (cv, .inr (0, [.ref aN, .ref aX, .int glm, .int rom, .int hel])), (aN, .inl (cI, 90, .inl nw)), (aX, .inl (cI, 90, .inl nx))]) [0, 1, 2, 3, 4, 5] (by decide) rfl
    have hFc := va_free (wc := [(x, .inr (1, [.ref aH, .ref aL, .ref aS, .ref aO, .ref aK, .ref aZ, .ref cv, .int tcn, .int mcn, .int swd, .int rwd, .int bpt, .int flm])), (aH, .inl (cI, 34, .inl hd)), (aL, .inl (cI, 34, .inl la)), (cv, .inr (0, [.ref aN, .ref aX, .int glm, .int rom, .int hel])), (aN, .inl (cI, 90, .inl nw)), (aX, .inl (cI, 90, .inl nx))]) hD hS hA [0, 1, 2, 3, 4, 5] rfl
    refine va_calli (va_runV (As := []) (rest := []) ⟨hx, hb, hml, hown, hts⟩ (c_X1_missing l dC dI cI cZ x aH aL aS aO aK aZ cv aN aX s.heap.size tcn mcn swd rwd bpt flm hd la glm rom hel nw nx _ hw) (cwV 0 hts gX1_advice_X1_missing rfl rfl rfl (by decide +kernel) ⟨Nat.le_of_ble_eq_true rfl, Nat.le_of_ble_eq_true rfl⟩) ⟨fun a U g mk q => by obtain ⟨q0, q1, qP, qK, qD, qN⟩ := q; exact ⟨q0, q1, qP, va_K.moved (u := U) (U := U.calling g mk a) (Vm.Alike.refl U.vm) qK, qD, va_Nw.same rfl rfl qN⟩, va_recv hK hPc (ci := 1) (q0 := 0) rfl rfl, fun U hU hW => ⟨rfl, by rw [hU], by rw [hU]; exact hPc, va_K.moved hW.alike hK, hDc.weaken (fun _ _ _ _ => trivial), va_Nw.warmM hW hnk⟩⟩ rfl rfl hl.1 rfl (lv_room (Nat.le_of_ble_eq_true rfl)) dX1_advice_18 ⟨Nat.le_of_ble_eq_true rfl, Nat.le_of_ble_eq_true rfl⟩) hS (fun q _ h => hFc q h) hFc (fun r2 u t H1 locs ht hvm hw hB hz1 hk1 hS => ?_)
    obtain ⟨glm_3, rom_4, hel_5, nw_6, nx_7⟩ := u
    obtain ⟨q8, q9, hP1, -, hD1⟩ := hB
    have hw := And.intro hw trivial
    try dsimp only at hw
    have hw := hw.1
    rw [ht] at hP1
    obtain ⟨hP, hD⟩ := va_join (wr := []) (w1 := [(x, .inr (1, [.ref aH, .ref aL, .ref aS, .ref aO, .ref aK, .ref aZ, .ref cv, .int tcn, .int mcn, .int swd, .int rwd, .int bpt, .int flm])), (aH, .inl (cI, 34, .inl hd)), (aL, .inl (cI, 34, .inl la)), (cv, .inr (0, [.ref q8, .ref q9, .int glm_3, .int rom_4, .int hel_5])), (q8, .inl (cI, 90, .inl nw_6)), (q9, .inl (cI, 90, .inl nx_7))]) hP hD [0, 1, 2, 3, 4, 5] [] rfl rfl (by decide) (by decide) hk1 hFc hP1 hD1
    generalize H1 = H at hP hS ⊢
    have hP : va_P (dC, dI) vwCl [(x, .inr (1, [.ref aH, .ref aL, .ref aS, .ref aO, .ref aK, .ref aZ, .ref cv, .int tcn, .int mcn, .int swd, .int rwd, .int bpt, .int flm])), (aH, .inl (cI, 34, .inl hd)), (aL, .inl (cI, 34, .inl la)), (cv, .inr (0, [.ref q8, .ref q9, .int glm_3, .int rom_4, .int hel_5])), (q8, .inl (cI, 90, .inl nw_6)), (q9, .inl (cI, 90, .inl nx_7))] H := hP
    have hD : va_D A [(x, .inr (1, [.ref aH, .ref aL, .ref aS, .ref aO, .ref aK, .ref aZ, .ref cv, .int tcn, .int mcn, .int swd, .int rwd, .int bpt, .int flm])), (aH, .inl (cI, 34, .inl hd)), (aL, .inl (cI, 34, .inl la)), (cv, .inr (0, [.ref q8, .ref q9, .int glm_3, .int rom_4, .int hel_5])), (q8, .inl (cI, 90, .inl nw_6)), (q9, .inl (cI, 90, .inl nx_7))] := hD
    refine lv_istore_n (lv' := [(1, .int r2), (0, .ref x)]) hx hb dX1_advice_21 rfl hl (by decide) rfl (fun ls hl => ?_)
    refine lv_bipush (v := 15) hx hb dX1_advice_22 (by decide) ?_
    refine lv_istore_n (lv' := [(2, .int (15 : Int32)), (1, .int r2), (0, .ref x)]) hx hb dX1_advice_24 rfl hl (by decide) rfl (fun ls hl => ?_)
    refine lv_iconst (v := -1) hx hb dX1_advice_25 (by decide) ?_
    refine lv_istore_n (lv' := [(3, .int (-1 : Int32)), (2, .int (15 : Int32)), (1, .int r2), (0, .ref x)]) hx hb dX1_advice_26 rfl hl (by decide) rfl (fun ls hl => ?_)
    refine lv_iconst (v := 0) hx hb dX1_advice_27 (by decide) ?_
    refine lv_istore (lv' := [(4, .int (0 : Int32)), (3, .int (-1 : Int32)), (2, .int (15 : Int32)), (1, .int r2), (0, .ref x)]) hx hb dX1_advice_28 hl (by decide) rfl (fun ls hl => ?_)
    obtain ⟨n9, hw⟩ := hw
    exact L30 n9 r2 (15 : Int32) (-1 : Int32) (0 : Int32) tcn hd glm_3 rom_4 hel_5 nw_6 nx_7 q8 q9 _ _ _ hw hP hD hS (lv_sub hl [4, 3, 2, 1, 0] rfl)
  · have hw := hw.1 c1
    obtain ⟨sa9, hstr9⟩ := xk_s151 hxk
    rw [← hQ9]
    exact vx_throwS (own := RX1) (cls := "java/lang/IllegalStateException") (text := "there are no tiles in the hand") (names := ["java/lang/RuntimeException", "java/lang/Exception"]) (A := A) hx hb hl9 hown (by decide +kernel) (by decide +kernel) (hts (.classLink RX1 57 "java/lang/IllegalStateException") (by decide +kernel)) (hts (.initialized "java/lang/IllegalStateException") (by decide +kernel)) hstr9 (vx_hat (L := vx_atS RX1 61 "java/lang/IllegalStateException" ["java/lang/RuntimeException", "java/lang/Exception"]) (B := [.castable "java/lang/IllegalStateException" "java/lang/IllegalStateException", .declares ⟨"java/lang/RuntimeException", "<init>", "(Ljava/lang/String;)V"⟩, .declares ⟨"java/lang/Exception", "<init>", "(Ljava/lang/String;)V"⟩, .declares ⟨"java/lang/Throwable", "<init>", "(Ljava/lang/String;)V"⟩]) (fun w hw => hts w ((by decide +kernel : ∀ w ∈ (vx_atS RX1 61 "java/lang/IllegalStateException" ["java/lang/RuntimeException", "java/lang/Exception"]).filter goodWord, w ∈ wsX1_advice) w hw)) (by decide +kernel) (vx_c (va_Nw.use rfl (xk_c3 hxk)) (vx_c (va_Nw.use rfl (xk_d1 hxk)) (vx_c (va_Nw.use rfl (xk_d2 hxk)) (vx_c (va_Nw.use rfl (xk_d3 hxk)) vx_n))))) (by decide +kernel) (xk_U hxk) (xk_N hxk) hS (hl.1.trans hml.symm) dX1_advice_7 dX1_advice_10 dX1_advice_11 dX1_advice_13 dX1_advice_16 (fun x hx => (hEx x hx).elim) (Nat.le_of_ble_eq_true rfl) (Nat.le_of_ble_eq_true rfl) (Nat.le_of_ble_eq_true rfl) (Nat.le_of_ble_eq_true rfl) hlocks (fun t ha hz hq => ⟨("java/lang/IllegalStateException", tcn, hd, glm, rom, hel, nw, nx), hw, ⟨rfl, aN, aX, xt_P hP hq, va_K.moved ha hK, hD⟩, xt_F hS hz hq⟩) hS.2.2 (Nat.le_of_ble_eq_true rfl) (Nat.le_of_ble_eq_true rfl)

def w_X1_isWind (p0 : Int32) (post : Int32 → Prop) : Prop := ((p0 < (27 : Int32) → (post (0 : Int32))) ∧ (¬ p0 < (27 : Int32) → ((((30 : Int32) < p0 → (post (0 : Int32))) ∧ (¬ (30 : Int32) < p0 → (post (1 : Int32)))))))

set_option maxHeartbeats 4000000 in
set_option maxRecDepth 100000 in
theorem c_X1_isWind (l : Launch) (dC : Nat → ClassId) (dI : Nat → Nat → Nat) (cI cZ : ClassId) (sz : Nat) (p0 : Int32) (post : Int32 → Prop) (hw : w_X1_isWind p0 post) : Met l yX1_isWind wsX1_isWind ({ frames := 0, cells := 0, slots := 0, locals := 0 } : Room) (va_Pc [.int p0] (fun U => U.heap.size = sz ∧ va_P (dC, dI) vwCl [] U.heap ∧ va_K (dC, dI) vwCl [(cI, .int), (cZ, .boolean)] U ∧ va_D (fun _ => True) [])) (va_Qi (fun (r9 : Int32) (u9 : Unit) => post r9) (fun (u9 : Unit) (t9 : State) => va_P (dC, dI) vwCl [] t9.heap ∧ va_K (dC, dI) vwCl [(cI, .int), (cZ, .boolean)] t9 ∧ va_D (va_A [] sz) []) (va_A [] sz)) 0 0 (va_A [] sz) := by
  refine Met.ofW (cc := cX1_isWind) (maxL := 1) (ret := (some .boolean)) (by decide) rfl ?_
  intro p e s m args below meth c s₁ B hml hv
  obtain ⟨rfl, hsz, hP, hK, hD0⟩ := hv
  have hx := B.exec
  have hb := B.bytes
  have hr := B.returns
  have hts := atoms_spec (ws := wsX1_isWind) B.pre
  have hown : s.vm.findClass RX1 = some m.cls := findClass_of_methodNamed B.named
  have hlocks := B.notSynchronized
  subst hsz
  have hD := hD0.self (sz := s.heap.size)
  generalize hAe : va_A [] s.heap.size = A at hD ⊢
  have hA : ∀ q : Nat, s.heap.size ≤ q → A q := fun q h => by rw [← hAe]; exact Or.inr h
  have hS : va_S A s.heap s.heap [] := va_S.rf
  have hl := lv_entry ([.int p0]) (n := 1) (Nat.le_of_ble_eq_true rfl)
  rw [lg_entry_eq]
  generalize (lg_sl ([.int p0]) ++ List.replicate (1 - (lg_sl ([.int p0])).length) Slot.unset).toArray = ls at hl ⊢
  have hl : lv_has ls 1 [(0, .int p0)] := hl
  refine (?_ : ∀ Q9 : State → Prop, MQ below _ _ s _ _ _ = Q9 → W p l e ({ frames := 0, cells := 0, slots := 0, locals := 0 } : Room) s m _ below meth c s.heap [] 0 0 Q9 (F0 m 0 ls [])) _ rfl
  intro Q9 hQ9
  have hw : ((p0 < (27 : Int32) → (post (0 : Int32))) ∧ (¬ p0 < (27 : Int32) → ((((30 : Int32) < p0 → (post (0 : Int32))) ∧ (¬ (30 : Int32) < p0 → (post (1 : Int32))))))) := hw
  refine lv_iload_n hx hb dX1_isWind_0 rfl (lv_at hl 0 rfl) ?_
  refine lv_bipush (v := 27) hx hb dX1_isWind_1 (by decide) ?_
  refine lv_icmp_lt (tgt := 16) hx hb dX1_isWind_3 (by decide) (fun c1 => ?_) (fun c1 => ?_)
  · have hw := hw.1 c1
    refine lv_iconst (v := 0) hx hb dX1_isWind_16 (by decide) ?_
    rw [← hQ9]
    exact W.zret (v := (0 : Int32)) hx hb hr rfl (fun t ht hW => ⟨⟨(0 : Int32), (), rfl, hw, by rw [ht]; exact hP, va_K.moved hW.alike hK, hD⟩, hS.F ht⟩) hS.2.2 dX1_isWind_17
  · have hw := hw.2 c1
    refine lv_iload_n hx hb dX1_isWind_6 rfl (lv_at hl 0 rfl) ?_
    refine lv_bipush (v := 30) hx hb dX1_isWind_7 (by decide) ?_
    refine lv_icmp_gt (tgt := 16) hx hb dX1_isWind_9 (by decide) (fun c2 => ?_) (fun c2 => ?_)
    · have hw := hw.1 c2
      refine lv_iconst (v := 0) hx hb dX1_isWind_16 (by decide) ?_
      rw [← hQ9]
      exact W.zret (v := (0 : Int32)) hx hb hr rfl (fun t ht hW => ⟨⟨(0 : Int32), (), rfl, hw, by rw [ht]; exact hP, va_K.moved hW.alike hK, hD⟩, hS.F ht⟩) hS.2.2 dX1_isWind_17
    · have hw := hw.2 c2
      refine lv_iconst (v := 1) hx hb dX1_isWind_12 (by decide) ?_
      refine lv_goto (tgt := 17) hx hb dX1_isWind_13 (by decide) ?_
      rw [← hQ9]
      exact W.zret (v := (1 : Int32)) hx hb hr rfl (fun t ht hW => ⟨⟨(1 : Int32), (), rfl, hw, by rw [ht]; exact hP, va_K.moved hW.alike hK, hD⟩, hS.F ht⟩) hS.2.2 dX1_isWind_17

def w_X1_setWinds_b14 (post : Int32 → Int32 → Int32 → Prop) (p0 : Int32) (p1 : Int32) (swd : Int32) (rwd : Int32) : Prop := False

def w_X1_setWinds (swd : Int32) (rwd : Int32) (p0 : Int32) (p1 : Int32) (post : Int32 → Int32 → Int32 → Prop) : Prop := w_X1_isWind p0 (fun r1 => (((r1 = 0 → (w_X1_setWinds_b14 post p0 p1 swd rwd)) ∧ (¬ r1 = 0 → (w_X1_isWind p1 (fun r3 => (((r3 = 0 → (w_X1_setWinds_b14 post p0 p1 swd rwd)) ∧ (¬ r3 = 0 → (post swd p0 p1))))))))))

set_option maxHeartbeats 4000000 in
set_option maxRecDepth 100000 in
theorem c_X1_setWinds (l : Launch) (dC : Nat → ClassId) (dI : Nat → Nat → Nat) (cI cZ : ClassId) (x : Nat) (aH : Nat) (aL : Nat) (aS : Nat) (aO : Nat) (aK : Nat) (aZ : Nat) (cv : Nat) (sz : Nat) (tcn : Int32) (mcn : Int32) (swd : Int32) (rwd : Int32) (bpt : Int32) (flm : Int32) (p0 : Int32) (p1 : Int32) (post : Int32 → Int32 → Int32 → Prop) (hw : w_X1_setWinds swd rwd p0 p1 post) : Met l yX1_setWinds wsX1_setWinds ({ frames := 6, cells := 0, slots := 0, locals := 110 } : Room) (va_Pc [.ref x, .int p0, .int p1] (fun U => U.heap.size = sz ∧ va_P (dC, dI) vwCl [(x, .inr (1, [.ref aH, .ref aL, .ref aS, .ref aO, .ref aK, .ref aZ, .ref cv, .int tcn, .int mcn, .int swd, .int rwd, .int bpt, .int flm]))] U.heap ∧ va_K (dC, dI) vwCl [(cI, .int), (cZ, .boolean)] U ∧ va_D (fun _ => True) [(x, .inr (1, [.ref aH, .ref aL, .ref aS, .ref aO, .ref aK, .ref aZ, .ref cv, .int tcn, .int mcn, .int swd, .int rwd, .int bpt, .int flm]))])) (va_Qi (fun (r9 : Int32) (u9 : Int32 × Int32) => post r9 u9.1 u9.2) (fun (u9 : Int32 × Int32) (t9 : State) => va_P (dC, dI) vwCl [(x, .inr (1, [.ref aH, .ref aL, .ref aS, .ref aO, .ref aK, .ref aZ, .ref cv, .int tcn, .int mcn, .int u9.1, .int u9.2, .int bpt, .int flm]))] t9.heap ∧ va_K (dC, dI) vwCl [(cI, .int), (cZ, .boolean)] t9 ∧ va_D (va_A [(x, .inr (1, [.ref aH, .ref aL, .ref aS, .ref aO, .ref aK, .ref aZ, .ref cv, .int tcn, .int mcn, .int swd, .int rwd, .int bpt, .int flm]))] sz) [(x, .inr (1, [.ref aH, .ref aL, .ref aS, .ref aO, .ref aK, .ref aZ, .ref cv, .int tcn, .int mcn, .int u9.1, .int u9.2, .int bpt, .int flm]))]) (va_A [(x, .inr (1, [.ref aH, .ref aL, .ref aS, .ref aO, .ref aK, .ref aZ, .ref cv, .int tcn, .int mcn, .int swd, .int rwd, .int bpt, .int flm]))] sz)) 0 0 (va_A [(x, .inr (1, [.ref aH, .ref aL, .ref aS, .ref aO, .ref aK, .ref aZ, .ref cv, .int tcn, .int mcn, .int swd, .int rwd, .int bpt, .int flm]))] sz) := by
  refine Met.ofW (cc := cX1_setWinds) (maxL := 4) (ret := (some .int)) (by decide) rfl ?_
  intro p e s m args below meth c s₁ B hml hv
  obtain ⟨rfl, hsz, hP, hK, hD0⟩ := hv
  have hx := B.exec
  have hb := B.bytes
  have hr := B.returns
  have hts := atoms_spec (ws := wsX1_setWinds) B.pre
  have hown : s.vm.findClass RX1 = some m.cls := findClass_of_methodNamed B.named
  have hlocks := B.notSynchronized
  have hinX1 : ∀ w ∈ u_ws RX1 TX1 13, w ∈ wsX1_setWinds := by decide +kernel
  subst hsz
  have hD := hD0.self (sz := s.heap.size)
  generalize hAe : va_A [(x, .inr (1, [.ref aH, .ref aL, .ref aS, .ref aO, .ref aK, .ref aZ, .ref cv, .int tcn, .int mcn, .int swd, .int rwd, .int bpt, .int flm]))] s.heap.size = A at hD ⊢
  have hA : ∀ q : Nat, s.heap.size ≤ q → A q := fun q h => by rw [← hAe]; exact Or.inr h
  have hS : va_S A s.heap s.heap [] := va_S.rf
  have hl := lv_entry ([.ref x, .int p0, .int p1]) (n := 4) (Nat.le_of_ble_eq_true rfl)
  rw [lg_entry_eq]
  generalize (lg_sl ([.ref x, .int p0, .int p1]) ++ List.replicate (4 - (lg_sl ([.ref x, .int p0, .int p1])).length) Slot.unset).toArray = ls at hl ⊢
  have hl : lv_has ls 4 [(0, .ref x), (1, .int p0), (2, .int p1)] := hl
  refine (?_ : ∀ Q9 : State → Prop, MQ below _ _ s _ _ _ = Q9 → W p l e ({ frames := 6, cells := 0, slots := 0, locals := 110 } : Room) s m _ below meth c s.heap [] 0 0 Q9 (F0 m 0 ls [])) _ rfl
  intro Q9 hQ9
  have hw : w_X1_isWind p0 (fun r1 => (((r1 = 0 → (w_X1_setWinds_b14 post p0 p1 swd rwd)) ∧ (¬ r1 = 0 → (w_X1_isWind p1 (fun r3 => (((r3 = 0 → (w_X1_setWinds_b14 post p0 p1 swd rwd)) ∧ (¬ r3 = 0 → (post swd p0 p1)))))))))) := hw
  have L14 : ∀ (swd : Int32) (rwd : Int32) (H : Heap) (locs : List Loc) (ls : Array Slot), w_X1_setWinds_b14 post p0 p1 swd rwd → va_P (dC, dI) vwCl [(x, .inr (1, [.ref aH, .ref aL, .ref aS, .ref aO, .ref aK, .ref aZ, .ref cv, .int tcn, .int mcn, .int swd, .int rwd, .int bpt, .int flm]))] H → va_D A [(x, .inr (1, [.ref aH, .ref aL, .ref aS, .ref aO, .ref aK, .ref aZ, .ref cv, .int tcn, .int mcn, .int swd, .int rwd, .int bpt, .int flm]))] → va_S A s.heap H locs → lv_has ls 4 [(0, .ref x)] → W p l e ({ frames := 6, cells := 0, slots := 0, locals := 110 } : Room) s m ([.ref x, .int p0, .int p1] : List Value).toArray below meth c H locs 0 0 Q9 (F0 m 14 ls []) := by
    intro swd rwd H locs ls hw hP hD hS hl
    exact False.elim hw
  refine lv_iload_n hx hb dX1_setWinds_0 rfl (lv_at hl 1 rfl) ?_
  have hPc := hP.sub (ws' := []) [] rfl
  have hDc := hD.sub (ws' := []) [] (by decide) rfl
  have hFc := va_free (wc := []) hD hS hA [] rfl
  refine va_calli (va_runS (As := [.int p0]) (rest := []) ⟨hx, hb, hml, hown, hts⟩ (c_X1_isWind l dC dI cI cZ s.heap.size p0 _ hw) (va_cwS 1 hts gX1_setWinds_X1_isWind rfl rfl rfl (by decide +kernel) ⟨Nat.le_of_ble_eq_true rfl, Nat.le_of_ble_eq_true rfl⟩) ⟨fun a U g mk q => by obtain ⟨q0, q1, qP, qK, qD⟩ := q; exact ⟨q0, q1, qP, va_K.moved (u := U) (U := U.calling g mk a) (Vm.Alike.refl U.vm) qK, qD⟩, fun U hU hW => ⟨rfl, by rw [hU], by rw [hU]; exact hPc, va_K.moved hW.alike hK, hDc.weaken (fun _ _ _ _ => trivial)⟩⟩ rfl rfl hl.1 rfl (lv_room (Nat.le_of_ble_eq_true rfl)) dX1_setWinds_1 ⟨Nat.le_of_ble_eq_true rfl, Nat.le_of_ble_eq_true rfl⟩) hS (fun q _ h => hFc q h) hFc (fun r1 u t H1 locs ht hvm hw hB hz1 hk1 hS => ?_)
  obtain ⟨hP1, -, hD1⟩ := hB
  have hw := And.intro hw trivial
  try dsimp only at hw
  have hw := hw.1
  rw [ht] at hP1
  obtain ⟨hP, hD⟩ := va_join (wr := [(x, .inr (1, [.ref aH, .ref aL, .ref aS, .ref aO, .ref aK, .ref aZ, .ref cv, .int tcn, .int mcn, .int swd, .int rwd, .int bpt, .int flm]))]) (w1 := []) hP hD [] [0] rfl rfl (by decide) (by decide) hk1 hFc hP1 hD1
  generalize H1 = H at hP hS ⊢
  have hP : va_P (dC, dI) vwCl [(x, .inr (1, [.ref aH, .ref aL, .ref aS, .ref aO, .ref aK, .ref aZ, .ref cv, .int tcn, .int mcn, .int swd, .int rwd, .int bpt, .int flm]))] H := hP
  have hD : va_D A [(x, .inr (1, [.ref aH, .ref aL, .ref aS, .ref aO, .ref aK, .ref aZ, .ref cv, .int tcn, .int mcn, .int swd, .int rwd, .int bpt, .int flm]))] := hD
  refine lv_if_eq (tgt := 14) hx hb dX1_setWinds_4 (by decide) (fun c2 => ?_) (fun c2 => ?_)
  · have hw := hw.1 c2
    exact L14 swd rwd _ _ _ hw hP hD hS (lv_sub hl [0] rfl)
  · have hw := hw.2 c2
    refine lv_iload_n hx hb dX1_setWinds_7 rfl (lv_at hl 2 rfl) ?_
    have hPc := hP.sub (ws' := []) [] rfl
    have hDc := hD.sub (ws' := []) [] (by decide) rfl
    have hFc := va_free (wc := []) hD hS hA [] rfl
    refine va_calli (va_runS (As := [.int p1]) (rest := []) ⟨hx, hb, hml, hown, hts⟩ (c_X1_isWind l dC dI cI cZ H.size p1 _ hw) (va_cwS 1 hts gX1_setWinds_X1_isWind rfl rfl rfl (by decide +kernel) ⟨Nat.le_of_ble_eq_true rfl, Nat.le_of_ble_eq_true rfl⟩) ⟨fun a U g mk q => by obtain ⟨q0, q1, qP, qK, qD⟩ := q; exact ⟨q0, q1, qP, va_K.moved (u := U) (U := U.calling g mk a) (Vm.Alike.refl U.vm) qK, qD⟩, fun U hU hW => ⟨rfl, by rw [hU], by rw [hU]; exact hPc, va_K.moved hW.alike hK, hDc.weaken (fun _ _ _ _ => trivial)⟩⟩ rfl rfl hl.1 rfl (lv_room (Nat.le_of_ble_eq_true rfl)) dX1_setWinds_8 ⟨Nat.le_of_ble_eq_true rfl, Nat.le_of_ble_eq_true rfl⟩) hS (fun q _ h => hFc q h) hFc (fun r3 u t H1 locs ht hvm hw hB hz1 hk1 hS => ?_)
    obtain ⟨hP1, -, hD1⟩ := hB
    have hw := And.intro hw trivial
    try dsimp only at hw
    have hw := hw.1
    rw [ht] at hP1
    obtain ⟨hP, hD⟩ := va_join (wr := [(x, .inr (1, [.ref aH, .ref aL, .ref aS, .ref aO, .ref aK, .ref aZ, .ref cv, .int tcn, .int mcn, .int swd, .int rwd, .int bpt, .int flm]))]) (w1 := []) hP hD [] [0] rfl rfl (by decide) (by decide) hk1 hFc hP1 hD1
    generalize H1 = H at hP hS ⊢
    have hP : va_P (dC, dI) vwCl [(x, .inr (1, [.ref aH, .ref aL, .ref aS, .ref aO, .ref aK, .ref aZ, .ref cv, .int tcn, .int mcn, .int swd, .int rwd, .int bpt, .int flm]))] H := hP
    have hD : va_D A [(x, .inr (1, [.ref aH, .ref aL, .ref aS, .ref aO, .ref aK, .ref aZ, .ref cv, .int tcn, .int mcn, .int swd, .int rwd, .int bpt, .int flm]))] := hD
    refine lv_if_ne (tgt := 24) hx hb dX1_setWinds_11 (by decide) (fun c4 => ?_) (fun c4 => ?_)
    · have hw := hw.2 c4
      refine lv_aload_n hx hb dX1_setWinds_24 rfl (lv_at hl 0 rfl) ?_
      refine va_get (D := (dC, dI)) (ci := 1) (v := .int swd) (C := RX1) (T := TX1) (N := 13) hx hb hts hinX1 hown hK hP 0 rfl rfl 9 (by decide) (hts (.fieldLink RX1 36 "TileHand" "seatWind" "I") (by decide +kernel)) (fun _ h9 => h9) rfl dX1_setWinds_25 ?_
      refine lv_istore_n (lv' := [(3, .int swd), (0, .ref x), (1, .int p0), (2, .int p1)]) hx hb dX1_setWinds_28 rfl hl (by decide) rfl (fun ls hl => ?_)
      refine lv_aload_n hx hb dX1_setWinds_29 rfl (lv_at hl 1 rfl) ?_
      refine lv_iload_n hx hb dX1_setWinds_30 rfl (lv_at hl 2 rfl) ?_
      refine va_put (D := (dC, dI)) (ci := 1) (v := .int p0) (ty := .int) (C := RX1) (T := TX1) (N := 13) hx hb hts hinX1 tyX1 tyX1_ok nmX1 hown hK hP hD hS 0 rfl rfl 9 (by decide) (hts (.fieldLink RX1 36 "TileHand" "seatWind" "I") (by decide +kernel)) (fun _ h9 => h9) rfl (by decide +kernel) rfl rfl (Nat.le_of_ble_eq_true rfl) dX1_setWinds_31 (fun H locs hP hD hS => ?_)
      have hP : va_P (dC, dI) vwCl [(x, .inr (1, [.ref aH, .ref aL, .ref aS, .ref aO, .ref aK, .ref aZ, .ref cv, .int tcn, .int mcn, .int p0, .int rwd, .int bpt, .int flm]))] H := hP
      have hD : va_D A [(x, .inr (1, [.ref aH, .ref aL, .ref aS, .ref aO, .ref aK, .ref aZ, .ref cv, .int tcn, .int mcn, .int p0, .int rwd, .int bpt, .int flm]))] := hD
      refine lv_aload_n hx hb dX1_setWinds_34 rfl (lv_at hl 1 rfl) ?_
      refine lv_iload_n hx hb dX1_setWinds_35 rfl (lv_at hl 3 rfl) ?_
      refine va_put (D := (dC, dI)) (ci := 1) (v := .int p1) (ty := .int) (C := RX1) (T := TX1) (N := 13) hx hb hts hinX1 tyX1 tyX1_ok nmX1 hown hK hP hD hS 0 rfl rfl 10 (by decide) (hts (.fieldLink RX1 40 "TileHand" "roundWind" "I") (by decide +kernel)) (fun _ h9 => h9) rfl (by decide +kernel) rfl rfl (Nat.le_of_ble_eq_true rfl) dX1_setWinds_36 (fun H locs hP hD hS => ?_)
      have hP : va_P (dC, dI) vwCl [(x, .inr (1, [.ref aH, .ref aL, .ref aS, .ref aO, .ref aK, .ref aZ, .ref cv, .int tcn, .int mcn, .int p0, .int p1, .int bpt, .int flm]))] H := hP
      have hD : va_D A [(x, .inr (1, [.ref aH, .ref aL, .ref aS, .ref aO, .ref aK, .ref aZ, .ref cv, .int tcn, .int mcn, .int p0, .int p1, .int bpt, .int flm]))] := hD
      refine lv_iload_n hx hb dX1_setWinds_39 rfl (lv_at hl 0 rfl) ?_
      rw [← hQ9]
      exact W.iret (v := swd) hx hb hr (fun t ht hW => ⟨⟨swd, (p0, p1), rfl, hw, by rw [ht]; exact hP, va_K.moved hW.alike hK, hD⟩, hS.F ht⟩) hS.2.2 dX1_setWinds_40
    · have hw := hw.1 c4
      exact L14 swd rwd _ _ _ hw hP hD hS (lv_sub hl [0] rfl)

def w_X1_setWinds_x_b14 (px : String → Int32 → Int32 → Prop) (p0 : Int32) (p1 : Int32) (swd : Int32) (rwd : Int32) : Prop := px "java/lang/IllegalArgumentException" swd rwd

def w_X1_setWinds_x (swd : Int32) (rwd : Int32) (p0 : Int32) (p1 : Int32) (px : String → Int32 → Int32 → Prop) : Prop := w_X1_isWind p0 (fun r1 => (((r1 = 0 → (w_X1_setWinds_x_b14 px p0 p1 swd rwd)) ∧ (¬ r1 = 0 → (w_X1_isWind p1 (fun r3 => (((r3 = 0 → (w_X1_setWinds_x_b14 px p0 p1 swd rwd)) ∧ (¬ r3 = 0 → (False))))))))))

set_option maxHeartbeats 4000000 in
set_option maxRecDepth 100000 in
theorem c_X1_setWinds_x (l : Launch) (hl9 : l.stackTraces = false) (dC : Nat → ClassId) (dI : Nat → Nat → Nat) (cI cZ : ClassId) (x : Nat) (aH : Nat) (aL : Nat) (aS : Nat) (aO : Nat) (aK : Nat) (aZ : Nat) (cv : Nat) (sz : Nat) (tcn : Int32) (mcn : Int32) (swd : Int32) (rwd : Int32) (bpt : Int32) (flm : Int32) (p0 : Int32) (p1 : Int32) (px : String → Int32 → Int32 → Prop) (hw : w_X1_setWinds_x swd rwd p0 p1 px) : vx_Met l yX1_setWinds wsX1_setWinds ({ frames := 6, cells := 1, slots := 6, locals := 110 } : Room) (va_Pc [.ref x, .int p0, .int p1] (fun U => U.heap.size = sz ∧ va_P (dC, dI) vwCl [(x, .inr (1, [.ref aH, .ref aL, .ref aS, .ref aO, .ref aK, .ref aZ, .ref cv, .int tcn, .int mcn, .int swd, .int rwd, .int bpt, .int flm]))] U.heap ∧ va_K (dC, dI) vwCl [(cI, .int), (cZ, .boolean)] U ∧ va_D (fun _ => True) [(x, .inr (1, [.ref aH, .ref aL, .ref aS, .ref aO, .ref aK, .ref aZ, .ref cv, .int tcn, .int mcn, .int swd, .int rwd, .int bpt, .int flm]))] ∧ xk (va_A [(x, .inr (1, [.ref aH, .ref aL, .ref aS, .ref aO, .ref aK, .ref aZ, .ref cv, .int tcn, .int mcn, .int swd, .int rwd, .int bpt, .int flm]))] sz) U)) (va_Qi (fun (_ : Int32) (_ : Unit) => False) (fun _ _ => True) (va_A [(x, .inr (1, [.ref aH, .ref aL, .ref aS, .ref aO, .ref aK, .ref aZ, .ref cv, .int tcn, .int mcn, .int swd, .int rwd, .int bpt, .int flm]))] sz)) (vx_X (fun (u9 : String × Int32 × Int32) => px u9.1 u9.2.1 u9.2.2) (fun (E9 : String) (u9 : String × Int32 × Int32) (t9 : State) => E9 = u9.1 ∧ va_P (dC, dI) vwCl [(x, .inr (1, [.ref aH, .ref aL, .ref aS, .ref aO, .ref aK, .ref aZ, .ref cv, .int tcn, .int mcn, .int u9.2.1, .int u9.2.2, .int bpt, .int flm]))] t9.heap ∧ va_K (dC, dI) vwCl [(cI, .int), (cZ, .boolean)] t9 ∧ va_D (va_A [(x, .inr (1, [.ref aH, .ref aL, .ref aS, .ref aO, .ref aK, .ref aZ, .ref cv, .int tcn, .int mcn, .int swd, .int rwd, .int bpt, .int flm]))] sz) [(x, .inr (1, [.ref aH, .ref aL, .ref aS, .ref aO, .ref aK, .ref aZ, .ref cv, .int tcn, .int mcn, .int u9.2.1, .int u9.2.2, .int bpt, .int flm]))]) (va_A [(x, .inr (1, [.ref aH, .ref aL, .ref aS, .ref aO, .ref aK, .ref aZ, .ref cv, .int tcn, .int mcn, .int swd, .int rwd, .int bpt, .int flm]))] sz)) 1 6 (va_A [(x, .inr (1, [.ref aH, .ref aL, .ref aS, .ref aO, .ref aK, .ref aZ, .ref cv, .int tcn, .int mcn, .int swd, .int rwd, .int bpt, .int flm]))] sz) := by
  refine vx_ofW (cc := cX1_setWinds) (maxL := 4) (ret := (some .int)) (by decide) rfl ?_
  intro p e s m args below meth c s₁ B hml hEx hv
  obtain ⟨rfl, hsz, hP, hK, hD0, hxk⟩ := hv
  have hx := B.exec
  have hb := B.bytes
  have hr := B.returns
  have hts := atoms_spec (ws := wsX1_setWinds) B.pre
  have hown : s.vm.findClass RX1 = some m.cls := findClass_of_methodNamed B.named
  have hlocks := B.notSynchronized
  have hinX1 : ∀ w ∈ u_ws RX1 TX1 13, w ∈ wsX1_setWinds := by decide +kernel
  subst hsz
  have hD := hD0.self (sz := s.heap.size)
  generalize hAe : va_A [(x, .inr (1, [.ref aH, .ref aL, .ref aS, .ref aO, .ref aK, .ref aZ, .ref cv, .int tcn, .int mcn, .int swd, .int rwd, .int bpt, .int flm]))] s.heap.size = A at hD hxk ⊢
  have hA : ∀ q : Nat, s.heap.size ≤ q → A q := fun q h => by rw [← hAe]; exact Or.inr h
  have hS : va_S A s.heap s.heap [] := va_S.rf
  have hl := lv_entry ([.ref x, .int p0, .int p1]) (n := 4) (Nat.le_of_ble_eq_true rfl)
  rw [lg_entry_eq]
  generalize (lg_sl ([.ref x, .int p0, .int p1]) ++ List.replicate (4 - (lg_sl ([.ref x, .int p0, .int p1])).length) Slot.unset).toArray = ls at hl ⊢
  have hl : lv_has ls 4 [(0, .ref x), (1, .int p0), (2, .int p1)] := hl
  refine (?_ : ∀ Q9 : State → Prop, vx_MQ below _ _ _ s _ _ _ = Q9 → W p l e ({ frames := 6, cells := 1, slots := 6, locals := 110 } : Room) s m _ below meth c s.heap [] 0 0 Q9 (F0 m 0 ls [])) _ rfl
  intro Q9 hQ9
  have hw : w_X1_isWind p0 (fun r1 => (((r1 = 0 → (w_X1_setWinds_x_b14 px p0 p1 swd rwd)) ∧ (¬ r1 = 0 → (w_X1_isWind p1 (fun r3 => (((r3 = 0 → (w_X1_setWinds_x_b14 px p0 p1 swd rwd)) ∧ (¬ r3 = 0 → (False)))))))))) := hw
  have L14 : ∀ (swd : Int32) (rwd : Int32) (H : Heap) (locs : List Loc) (ls : Array Slot), w_X1_setWinds_x_b14 px p0 p1 swd rwd → va_P (dC, dI) vwCl [(x, .inr (1, [.ref aH, .ref aL, .ref aS, .ref aO, .ref aK, .ref aZ, .ref cv, .int tcn, .int mcn, .int swd, .int rwd, .int bpt, .int flm]))] H → va_D A [(x, .inr (1, [.ref aH, .ref aL, .ref aS, .ref aO, .ref aK, .ref aZ, .ref cv, .int tcn, .int mcn, .int swd, .int rwd, .int bpt, .int flm]))] → va_S A s.heap H locs → lv_has ls 4 [(0, .ref x)] → W p l e ({ frames := 6, cells := 1, slots := 6, locals := 110 } : Room) s m ([.ref x, .int p0, .int p1] : List Value).toArray below meth c H locs 0 0 Q9 (F0 m 14 ls []) := by
    intro swd rwd H locs ls hw hP hD hS hl
    obtain ⟨sa9, hstr9⟩ := xk_s159 hxk
    rw [← hQ9]
    exact vx_throwS (own := RX1) (cls := "java/lang/IllegalArgumentException") (text := "a wind is 27 to 30") (names := ["java/lang/RuntimeException", "java/lang/Exception"]) (A := A) hx hb hl9 hown (by decide +kernel) (by decide +kernel) (hts (.classLink RX1 78 "java/lang/IllegalArgumentException") (by decide +kernel)) (hts (.initialized "java/lang/IllegalArgumentException") (by decide +kernel)) hstr9 (vx_hat (L := vx_atS RX1 82 "java/lang/IllegalArgumentException" ["java/lang/RuntimeException", "java/lang/Exception"]) (B := [.castable "java/lang/IllegalArgumentException" "java/lang/IllegalArgumentException", .declares ⟨"java/lang/RuntimeException", "<init>", "(Ljava/lang/String;)V"⟩, .declares ⟨"java/lang/Exception", "<init>", "(Ljava/lang/String;)V"⟩, .declares ⟨"java/lang/Throwable", "<init>", "(Ljava/lang/String;)V"⟩]) (fun w hw => hts w ((by decide +kernel : ∀ w ∈ (vx_atS RX1 82 "java/lang/IllegalArgumentException" ["java/lang/RuntimeException", "java/lang/Exception"]).filter goodWord, w ∈ wsX1_setWinds) w hw)) (by decide +kernel) (vx_c (va_Nw.use rfl (xk_c2 hxk)) (vx_c (va_Nw.use rfl (xk_d1 hxk)) (vx_c (va_Nw.use rfl (xk_d2 hxk)) (vx_c (va_Nw.use rfl (xk_d3 hxk)) vx_n))))) (by decide +kernel) (xk_U hxk) (xk_N hxk) hS (hl.1.trans hml.symm) dX1_setWinds_14 dX1_setWinds_17 dX1_setWinds_18 dX1_setWinds_20 dX1_setWinds_23 (fun x hx => (hEx x hx).elim) (Nat.le_of_ble_eq_true rfl) (Nat.le_of_ble_eq_true rfl) (Nat.le_of_ble_eq_true rfl) (Nat.le_of_ble_eq_true rfl) hlocks (fun t ha hz hq => ⟨("java/lang/IllegalArgumentException", swd, rwd), hw, ⟨rfl, xt_P hP hq, va_K.moved ha hK, hD⟩, xt_F hS hz hq⟩) hS.2.2 (Nat.le_of_ble_eq_true rfl) (Nat.le_of_ble_eq_true rfl)
  refine lv_iload_n hx hb dX1_setWinds_0 rfl (lv_at hl 1 rfl) ?_
  have hPc := hP.sub (ws' := []) [] rfl
  have hDc := hD.sub (ws' := []) [] (by decide) rfl
  have hFc := va_free (wc := []) hD hS hA [] rfl
  refine va_calli (va_runS (As := [.int p0]) (rest := []) ⟨hx, hb, hml, hown, hts⟩ (c_X1_isWind l dC dI cI cZ s.heap.size p0 _ hw) (va_cwS 1 hts gX1_setWinds_X1_isWind rfl rfl rfl (by decide +kernel) ⟨Nat.le_of_ble_eq_true rfl, Nat.le_of_ble_eq_true rfl⟩) ⟨fun a U g mk q => by obtain ⟨q0, q1, qP, qK, qD⟩ := q; exact ⟨q0, q1, qP, va_K.moved (u := U) (U := U.calling g mk a) (Vm.Alike.refl U.vm) qK, qD⟩, fun U hU hW => ⟨rfl, by rw [hU], by rw [hU]; exact hPc, va_K.moved hW.alike hK, hDc.weaken (fun _ _ _ _ => trivial)⟩⟩ rfl rfl hl.1 rfl (lv_room (Nat.le_of_ble_eq_true rfl)) dX1_setWinds_1 ⟨Nat.le_of_ble_eq_true rfl, Nat.le_of_ble_eq_true rfl⟩) hS (fun q _ h => hFc q h) hFc (fun r1 u t H1 locs ht hvm hw hB hz1 hk1 hS => ?_)
  obtain ⟨hP1, -, hD1⟩ := hB
  have hw := And.intro hw trivial
  try dsimp only at hw
  have hw := hw.1
  rw [ht] at hP1
  obtain ⟨hP, hD⟩ := va_join (wr := [(x, .inr (1, [.ref aH, .ref aL, .ref aS, .ref aO, .ref aK, .ref aZ, .ref cv, .int tcn, .int mcn, .int swd, .int rwd, .int bpt, .int flm]))]) (w1 := []) hP hD [] [0] rfl rfl (by decide) (by decide) hk1 hFc hP1 hD1
  generalize H1 = H at hP hS ⊢
  have hP : va_P (dC, dI) vwCl [(x, .inr (1, [.ref aH, .ref aL, .ref aS, .ref aO, .ref aK, .ref aZ, .ref cv, .int tcn, .int mcn, .int swd, .int rwd, .int bpt, .int flm]))] H := hP
  have hD : va_D A [(x, .inr (1, [.ref aH, .ref aL, .ref aS, .ref aO, .ref aK, .ref aZ, .ref cv, .int tcn, .int mcn, .int swd, .int rwd, .int bpt, .int flm]))] := hD
  refine lv_if_eq (tgt := 14) hx hb dX1_setWinds_4 (by decide) (fun c2 => ?_) (fun c2 => ?_)
  · have hw := hw.1 c2
    exact L14 swd rwd _ _ _ hw hP hD hS (lv_sub hl [0] rfl)
  · have hw := hw.2 c2
    refine lv_iload_n hx hb dX1_setWinds_7 rfl (lv_at hl 2 rfl) ?_
    have hPc := hP.sub (ws' := []) [] rfl
    have hDc := hD.sub (ws' := []) [] (by decide) rfl
    have hFc := va_free (wc := []) hD hS hA [] rfl
    refine va_calli (va_runS (As := [.int p1]) (rest := []) ⟨hx, hb, hml, hown, hts⟩ (c_X1_isWind l dC dI cI cZ H.size p1 _ hw) (va_cwS 1 hts gX1_setWinds_X1_isWind rfl rfl rfl (by decide +kernel) ⟨Nat.le_of_ble_eq_true rfl, Nat.le_of_ble_eq_true rfl⟩) ⟨fun a U g mk q => by obtain ⟨q0, q1, qP, qK, qD⟩ := q; exact ⟨q0, q1, qP, va_K.moved (u := U) (U := U.calling g mk a) (Vm.Alike.refl U.vm) qK, qD⟩, fun U hU hW => ⟨rfl, by rw [hU], by rw [hU]; exact hPc, va_K.moved hW.alike hK, hDc.weaken (fun _ _ _ _ => trivial)⟩⟩ rfl rfl hl.1 rfl (lv_room (Nat.le_of_ble_eq_true rfl)) dX1_setWinds_8 ⟨Nat.le_of_ble_eq_true rfl, Nat.le_of_ble_eq_true rfl⟩) hS (fun q _ h => hFc q h) hFc (fun r3 u t H1 locs ht hvm hw hB hz1 hk1 hS => ?_)
    obtain ⟨hP1, -, hD1⟩ := hB
    have hw := And.intro hw trivial
    try dsimp only at hw
    have hw := hw.1
    rw [ht] at hP1
    obtain ⟨hP, hD⟩ := va_join (wr := [(x, .inr (1, [.ref aH, .ref aL, .ref aS, .ref aO, .ref aK, .ref aZ, .ref cv, .int tcn, .int mcn, .int swd, .int rwd, .int bpt, .int flm]))]) (w1 := []) hP hD [] [0] rfl rfl (by decide) (by decide) hk1 hFc hP1 hD1
    generalize H1 = H at hP hS ⊢
    have hP : va_P (dC, dI) vwCl [(x, .inr (1, [.ref aH, .ref aL, .ref aS, .ref aO, .ref aK, .ref aZ, .ref cv, .int tcn, .int mcn, .int swd, .int rwd, .int bpt, .int flm]))] H := hP
    have hD : va_D A [(x, .inr (1, [.ref aH, .ref aL, .ref aS, .ref aO, .ref aK, .ref aZ, .ref cv, .int tcn, .int mcn, .int swd, .int rwd, .int bpt, .int flm]))] := hD
    refine lv_if_ne (tgt := 24) hx hb dX1_setWinds_11 (by decide) (fun c4 => ?_) (fun c4 => ?_)
    · have hw := hw.2 c4
      refine lv_aload_n hx hb dX1_setWinds_24 rfl (lv_at hl 0 rfl) ?_
      refine va_get (D := (dC, dI)) (ci := 1) (v := .int swd) (C := RX1) (T := TX1) (N := 13) hx hb hts hinX1 hown hK hP 0 rfl rfl 9 (by decide) (hts (.fieldLink RX1 36 "TileHand" "seatWind" "I") (by decide +kernel)) (fun _ h9 => h9) rfl dX1_setWinds_25 ?_
      refine lv_istore_n (lv' := [(3, .int swd), (0, .ref x), (1, .int p0), (2, .int p1)]) hx hb dX1_setWinds_28 rfl hl (by decide) rfl (fun ls hl => ?_)
      refine lv_aload_n hx hb dX1_setWinds_29 rfl (lv_at hl 1 rfl) ?_
      refine lv_iload_n hx hb dX1_setWinds_30 rfl (lv_at hl 2 rfl) ?_
      refine va_put (D := (dC, dI)) (ci := 1) (v := .int p0) (ty := .int) (C := RX1) (T := TX1) (N := 13) hx hb hts hinX1 tyX1 tyX1_ok nmX1 hown hK hP hD hS 0 rfl rfl 9 (by decide) (hts (.fieldLink RX1 36 "TileHand" "seatWind" "I") (by decide +kernel)) (fun _ h9 => h9) rfl (by decide +kernel) rfl rfl (Nat.le_of_ble_eq_true rfl) dX1_setWinds_31 (fun H locs hP hD hS => ?_)
      have hP : va_P (dC, dI) vwCl [(x, .inr (1, [.ref aH, .ref aL, .ref aS, .ref aO, .ref aK, .ref aZ, .ref cv, .int tcn, .int mcn, .int p0, .int rwd, .int bpt, .int flm]))] H := hP
      have hD : va_D A [(x, .inr (1, [.ref aH, .ref aL, .ref aS, .ref aO, .ref aK, .ref aZ, .ref cv, .int tcn, .int mcn, .int p0, .int rwd, .int bpt, .int flm]))] := hD
      refine lv_aload_n hx hb dX1_setWinds_34 rfl (lv_at hl 1 rfl) ?_
      refine lv_iload_n hx hb dX1_setWinds_35 rfl (lv_at hl 3 rfl) ?_
      refine va_put (D := (dC, dI)) (ci := 1) (v := .int p1) (ty := .int) (C := RX1) (T := TX1) (N := 13) hx hb hts hinX1 tyX1 tyX1_ok nmX1 hown hK hP hD hS 0 rfl rfl 10 (by decide) (hts (.fieldLink RX1 40 "TileHand" "roundWind" "I") (by decide +kernel)) (fun _ h9 => h9) rfl (by decide +kernel) rfl rfl (Nat.le_of_ble_eq_true rfl) dX1_setWinds_36 (fun H locs hP hD hS => ?_)
      have hP : va_P (dC, dI) vwCl [(x, .inr (1, [.ref aH, .ref aL, .ref aS, .ref aO, .ref aK, .ref aZ, .ref cv, .int tcn, .int mcn, .int p0, .int p1, .int bpt, .int flm]))] H := hP
      have hD : va_D A [(x, .inr (1, [.ref aH, .ref aL, .ref aS, .ref aO, .ref aK, .ref aZ, .ref cv, .int tcn, .int mcn, .int p0, .int p1, .int bpt, .int flm]))] := hD
      refine lv_iload_n hx hb dX1_setWinds_39 rfl (lv_at hl 0 rfl) ?_
      exact False.elim hw
    · have hw := hw.1 c4
      exact L14 swd rwd _ _ _ hw hP hD hS (lv_sub hl [0] rfl)

def w_X1_setPoints_b11 (post : Int32 → Int32 → Int32 → Prop) (p0 : Int32) (p1 : Int32) (bpt : Int32) (flm : Int32) : Prop := False

def w_X1_setPoints_b32 (post : Int32 → Int32 → Int32 → Prop) (p0 : Int32) (p1 : Int32) (bpt : Int32) (flm : Int32) : Prop := False

def w_X1_setPoints (bpt : Int32) (flm : Int32) (p0 : Int32) (p1 : Int32) (post : Int32 → Int32 → Int32 → Prop) : Prop := ((p0 < (1 : Int32) → (w_X1_setPoints_b11 post p0 p1 bpt flm)) ∧ (¬ p0 < (1 : Int32) → (((p0 ≤ (100 : Int32) → (((p1 < (1 : Int32) → (w_X1_setPoints_b32 post p0 p1 bpt flm)) ∧ (¬ p1 < (1 : Int32) → (((p1 ≤ (13 : Int32) → (post flm p0 p1)) ∧ (¬ p1 ≤ (13 : Int32) → (w_X1_setPoints_b32 post p0 p1 bpt flm)))))))) ∧ (¬ p0 ≤ (100 : Int32) → (w_X1_setPoints_b11 post p0 p1 bpt flm))))))

set_option maxHeartbeats 4000000 in
set_option maxRecDepth 100000 in
theorem c_X1_setPoints (l : Launch) (dC : Nat → ClassId) (dI : Nat → Nat → Nat) (cI cZ : ClassId) (x : Nat) (aH : Nat) (aL : Nat) (aS : Nat) (aO : Nat) (aK : Nat) (aZ : Nat) (cv : Nat) (sz : Nat) (tcn : Int32) (mcn : Int32) (swd : Int32) (rwd : Int32) (bpt : Int32) (flm : Int32) (p0 : Int32) (p1 : Int32) (post : Int32 → Int32 → Int32 → Prop) (hw : w_X1_setPoints bpt flm p0 p1 post) : Met l yX1_setPoints wsX1_setPoints ({ frames := 6, cells := 0, slots := 0, locals := 110 } : Room) (va_Pc [.ref x, .int p0, .int p1] (fun U => U.heap.size = sz ∧ va_P (dC, dI) vwCl [(x, .inr (1, [.ref aH, .ref aL, .ref aS, .ref aO, .ref aK, .ref aZ, .ref cv, .int tcn, .int mcn, .int swd, .int rwd, .int bpt, .int flm]))] U.heap ∧ va_K (dC, dI) vwCl [(cI, .int), (cZ, .boolean)] U ∧ va_D (fun _ => True) [(x, .inr (1, [.ref aH, .ref aL, .ref aS, .ref aO, .ref aK, .ref aZ, .ref cv, .int tcn, .int mcn, .int swd, .int rwd, .int bpt, .int flm]))])) (va_Qi (fun (r9 : Int32) (u9 : Int32 × Int32) => post r9 u9.1 u9.2) (fun (u9 : Int32 × Int32) (t9 : State) => va_P (dC, dI) vwCl [(x, .inr (1, [.ref aH, .ref aL, .ref aS, .ref aO, .ref aK, .ref aZ, .ref cv, .int tcn, .int mcn, .int swd, .int rwd, .int u9.1, .int u9.2]))] t9.heap ∧ va_K (dC, dI) vwCl [(cI, .int), (cZ, .boolean)] t9 ∧ va_D (va_A [(x, .inr (1, [.ref aH, .ref aL, .ref aS, .ref aO, .ref aK, .ref aZ, .ref cv, .int tcn, .int mcn, .int swd, .int rwd, .int bpt, .int flm]))] sz) [(x, .inr (1, [.ref aH, .ref aL, .ref aS, .ref aO, .ref aK, .ref aZ, .ref cv, .int tcn, .int mcn, .int swd, .int rwd, .int u9.1, .int u9.2]))]) (va_A [(x, .inr (1, [.ref aH, .ref aL, .ref aS, .ref aO, .ref aK, .ref aZ, .ref cv, .int tcn, .int mcn, .int swd, .int rwd, .int bpt, .int flm]))] sz)) 0 0 (va_A [(x, .inr (1, [.ref aH, .ref aL, .ref aS, .ref aO, .ref aK, .ref aZ, .ref cv, .int tcn, .int mcn, .int swd, .int rwd, .int bpt, .int flm]))] sz) := by
  refine Met.ofW (cc := cX1_setPoints) (maxL := 4) (ret := (some .int)) (by decide) rfl ?_
  intro p e s m args below meth c s₁ B hml hv
  obtain ⟨rfl, hsz, hP, hK, hD0⟩ := hv
  have hx := B.exec
  have hb := B.bytes
  have hr := B.returns
  have hts := atoms_spec (ws := wsX1_setPoints) B.pre
  have hown : s.vm.findClass RX1 = some m.cls := findClass_of_methodNamed B.named
  have hlocks := B.notSynchronized
  have hinX1 : ∀ w ∈ u_ws RX1 TX1 13, w ∈ wsX1_setPoints := by decide +kernel
  subst hsz
  have hD := hD0.self (sz := s.heap.size)
  generalize hAe : va_A [(x, .inr (1, [.ref aH, .ref aL, .ref aS, .ref aO, .ref aK, .ref aZ, .ref cv, .int tcn, .int mcn, .int swd, .int rwd, .int bpt, .int flm]))] s.heap.size = A at hD ⊢
  have hA : ∀ q : Nat, s.heap.size ≤ q → A q := fun q h => by rw [← hAe]; exact Or.inr h
  have hS : va_S A s.heap s.heap [] := va_S.rf
  have hl := lv_entry ([.ref x, .int p0, .int p1]) (n := 4) (Nat.le_of_ble_eq_true rfl)
  rw [lg_entry_eq]
  generalize (lg_sl ([.ref x, .int p0, .int p1]) ++ List.replicate (4 - (lg_sl ([.ref x, .int p0, .int p1])).length) Slot.unset).toArray = ls at hl ⊢
  have hl : lv_has ls 4 [(0, .ref x), (1, .int p0), (2, .int p1)] := hl
  refine (?_ : ∀ Q9 : State → Prop, MQ below _ _ s _ _ _ = Q9 → W p l e ({ frames := 6, cells := 0, slots := 0, locals := 110 } : Room) s m _ below meth c s.heap [] 0 0 Q9 (F0 m 0 ls [])) _ rfl
  intro Q9 hQ9
  have hw : ((p0 < (1 : Int32) → (w_X1_setPoints_b11 post p0 p1 bpt flm)) ∧ (¬ p0 < (1 : Int32) → (((p0 ≤ (100 : Int32) → (((p1 < (1 : Int32) → (w_X1_setPoints_b32 post p0 p1 bpt flm)) ∧ (¬ p1 < (1 : Int32) → (((p1 ≤ (13 : Int32) → (post flm p0 p1)) ∧ (¬ p1 ≤ (13 : Int32) → (w_X1_setPoints_b32 post p0 p1 bpt flm)))))))) ∧ (¬ p0 ≤ (100 : Int32) → (w_X1_setPoints_b11 post p0 p1 bpt flm)))))) := hw
  have L11 : ∀ (bpt : Int32) (flm : Int32) (H : Heap) (locs : List Loc) (ls : Array Slot), w_X1_setPoints_b11 post p0 p1 bpt flm → va_P (dC, dI) vwCl [(x, .inr (1, [.ref aH, .ref aL, .ref aS, .ref aO, .ref aK, .ref aZ, .ref cv, .int tcn, .int mcn, .int swd, .int rwd, .int bpt, .int flm]))] H → va_D A [(x, .inr (1, [.ref aH, .ref aL, .ref aS, .ref aO, .ref aK, .ref aZ, .ref cv, .int tcn, .int mcn, .int swd, .int rwd, .int bpt, .int flm]))] → va_S A s.heap H locs → lv_has ls 4 [(0, .ref x)] → W p l e ({ frames := 6, cells := 0, slots := 0, locals := 110 } : Room) s m ([.ref x, .int p0, .int p1] : List Value).toArray below meth c H locs 0 0 Q9 (F0 m 11 ls []) := by
    intro bpt flm H locs ls hw hP hD hS hl
    exact False.elim hw
  have L32 : ∀ (bpt : Int32) (flm : Int32) (H : Heap) (locs : List Loc) (ls : Array Slot), w_X1_setPoints_b32 post p0 p1 bpt flm → va_P (dC, dI) vwCl [(x, .inr (1, [.ref aH, .ref aL, .ref aS, .ref aO, .ref aK, .ref aZ, .ref cv, .int tcn, .int mcn, .int swd, .int rwd, .int bpt, .int flm]))] H → va_D A [(x, .inr (1, [.ref aH, .ref aL, .ref aS, .ref aO, .ref aK, .ref aZ, .ref cv, .int tcn, .int mcn, .int swd, .int rwd, .int bpt, .int flm]))] → va_S A s.heap H locs → lv_has ls 4 [(0, .ref x)] → W p l e ({ frames := 6, cells := 0, slots := 0, locals := 110 } : Room) s m ([.ref x, .int p0, .int p1] : List Value).toArray below meth c H locs 0 0 Q9 (F0 m 32 ls []) := by
    intro bpt flm H locs ls hw hP hD hS hl
    exact False.elim hw
  refine lv_iload_n hx hb dX1_setPoints_0 rfl (lv_at hl 1 rfl) ?_
  refine lv_iconst (v := 1) hx hb dX1_setPoints_1 (by decide) ?_
  refine lv_icmp_lt (tgt := 11) hx hb dX1_setPoints_2 (by decide) (fun c1 => ?_) (fun c1 => ?_)
  · have hw := hw.1 c1
    exact L11 bpt flm _ _ _ hw hP hD hS (lv_sub hl [0] rfl)
  · have hw := hw.2 c1
    refine lv_iload_n hx hb dX1_setPoints_5 rfl (lv_at hl 1 rfl) ?_
    refine lv_bipush (v := 100) hx hb dX1_setPoints_6 (by decide) ?_
    refine lv_icmp_le (tgt := 21) hx hb dX1_setPoints_8 (by decide) (fun c2 => ?_) (fun c2 => ?_)
    · have hw := hw.1 c2
      refine lv_iload_n hx hb dX1_setPoints_21 rfl (lv_at hl 2 rfl) ?_
      refine lv_iconst (v := 1) hx hb dX1_setPoints_22 (by decide) ?_
      refine lv_icmp_lt (tgt := 32) hx hb dX1_setPoints_23 (by decide) (fun c3 => ?_) (fun c3 => ?_)
      · have hw := hw.1 c3
        exact L32 bpt flm _ _ _ hw hP hD hS (lv_sub hl [0] rfl)
      · have hw := hw.2 c3
        refine lv_iload_n hx hb dX1_setPoints_26 rfl (lv_at hl 2 rfl) ?_
        refine lv_bipush (v := 13) hx hb dX1_setPoints_27 (by decide) ?_
        refine lv_icmp_le (tgt := 42) hx hb dX1_setPoints_29 (by decide) (fun c4 => ?_) (fun c4 => ?_)
        · have hw := hw.1 c4
          refine lv_aload_n hx hb dX1_setPoints_42 rfl (lv_at hl 0 rfl) ?_
          refine va_get (D := (dC, dI)) (ci := 1) (v := .int flm) (C := RX1) (T := TX1) (N := 13) hx hb hts hinX1 hown hK hP 0 rfl rfl 12 (by decide) (hts (.fieldLink RX1 46 "TileHand" "fanLimit" "I") (by decide +kernel)) (fun _ h9 => h9) rfl dX1_setPoints_43 ?_
          refine lv_istore_n (lv' := [(3, .int flm), (0, .ref x), (1, .int p0), (2, .int p1)]) hx hb dX1_setPoints_46 rfl hl (by decide) rfl (fun ls hl => ?_)
          refine lv_aload_n hx hb dX1_setPoints_47 rfl (lv_at hl 1 rfl) ?_
          refine lv_iload_n hx hb dX1_setPoints_48 rfl (lv_at hl 2 rfl) ?_
          refine va_put (D := (dC, dI)) (ci := 1) (v := .int p0) (ty := .int) (C := RX1) (T := TX1) (N := 13) hx hb hts hinX1 tyX1 tyX1_ok nmX1 hown hK hP hD hS 0 rfl rfl 11 (by decide) (hts (.fieldLink RX1 43 "TileHand" "basePoints" "I") (by decide +kernel)) (fun _ h9 => h9) rfl (by decide +kernel) rfl rfl (Nat.le_of_ble_eq_true rfl) dX1_setPoints_49 (fun H locs hP hD hS => ?_)
          have hP : va_P (dC, dI) vwCl [(x, .inr (1, [.ref aH, .ref aL, .ref aS, .ref aO, .ref aK, .ref aZ, .ref cv, .int tcn, .int mcn, .int swd, .int rwd, .int p0, .int flm]))] H := hP
          have hD : va_D A [(x, .inr (1, [.ref aH, .ref aL, .ref aS, .ref aO, .ref aK, .ref aZ, .ref cv, .int tcn, .int mcn, .int swd, .int rwd, .int p0, .int flm]))] := hD
          refine lv_aload_n hx hb dX1_setPoints_52 rfl (lv_at hl 1 rfl) ?_
          refine lv_iload_n hx hb dX1_setPoints_53 rfl (lv_at hl 3 rfl) ?_
          refine va_put (D := (dC, dI)) (ci := 1) (v := .int p1) (ty := .int) (C := RX1) (T := TX1) (N := 13) hx hb hts hinX1 tyX1 tyX1_ok nmX1 hown hK hP hD hS 0 rfl rfl 12 (by decide) (hts (.fieldLink RX1 46 "TileHand" "fanLimit" "I") (by decide +kernel)) (fun _ h9 => h9) rfl (by decide +kernel) rfl rfl (Nat.le_of_ble_eq_true rfl) dX1_setPoints_54 (fun H locs hP hD hS => ?_)
          have hP : va_P (dC, dI) vwCl [(x, .inr (1, [.ref aH, .ref aL, .ref aS, .ref aO, .ref aK, .ref aZ, .ref cv, .int tcn, .int mcn, .int swd, .int rwd, .int p0, .int p1]))] H := hP
          have hD : va_D A [(x, .inr (1, [.ref aH, .ref aL, .ref aS, .ref aO, .ref aK, .ref aZ, .ref cv, .int tcn, .int mcn, .int swd, .int rwd, .int p0, .int p1]))] := hD
          refine lv_iload_n hx hb dX1_setPoints_57 rfl (lv_at hl 0 rfl) ?_
          rw [← hQ9]
          exact W.iret (v := flm) hx hb hr (fun t ht hW => ⟨⟨flm, (p0, p1), rfl, hw, by rw [ht]; exact hP, va_K.moved hW.alike hK, hD⟩, hS.F ht⟩) hS.2.2 dX1_setPoints_58
        · have hw := hw.2 c4
          exact L32 bpt flm _ _ _ hw hP hD hS (lv_sub hl [0] rfl)
    · have hw := hw.2 c2
      exact L11 bpt flm _ _ _ hw hP hD hS (lv_sub hl [0] rfl)

def w_X1_setPoints_x_b11 (px : String → Int32 → Int32 → Prop) (p0 : Int32) (p1 : Int32) (bpt : Int32) (flm : Int32) : Prop := px "java/lang/IllegalArgumentException" bpt flm

def w_X1_setPoints_x_b32 (px : String → Int32 → Int32 → Prop) (p0 : Int32) (p1 : Int32) (bpt : Int32) (flm : Int32) : Prop := px "java/lang/IllegalArgumentException" bpt flm

def w_X1_setPoints_x (bpt : Int32) (flm : Int32) (p0 : Int32) (p1 : Int32) (px : String → Int32 → Int32 → Prop) : Prop := ((p0 < (1 : Int32) → (w_X1_setPoints_x_b11 px p0 p1 bpt flm)) ∧ (¬ p0 < (1 : Int32) → (((p0 ≤ (100 : Int32) → (((p1 < (1 : Int32) → (w_X1_setPoints_x_b32 px p0 p1 bpt flm)) ∧ (¬ p1 < (1 : Int32) → (((p1 ≤ (13 : Int32) → (False)) ∧ (¬ p1 ≤ (13 : Int32) → (w_X1_setPoints_x_b32 px p0 p1 bpt flm)))))))) ∧ (¬ p0 ≤ (100 : Int32) → (w_X1_setPoints_x_b11 px p0 p1 bpt flm))))))

set_option maxHeartbeats 4000000 in
set_option maxRecDepth 100000 in
theorem c_X1_setPoints_x (l : Launch) (hl9 : l.stackTraces = false) (dC : Nat → ClassId) (dI : Nat → Nat → Nat) (cI cZ : ClassId) (x : Nat) (aH : Nat) (aL : Nat) (aS : Nat) (aO : Nat) (aK : Nat) (aZ : Nat) (cv : Nat) (sz : Nat) (tcn : Int32) (mcn : Int32) (swd : Int32) (rwd : Int32) (bpt : Int32) (flm : Int32) (p0 : Int32) (p1 : Int32) (px : String → Int32 → Int32 → Prop) (hw : w_X1_setPoints_x bpt flm p0 p1 px) : vx_Met l yX1_setPoints wsX1_setPoints ({ frames := 6, cells := 1, slots := 6, locals := 110 } : Room) (va_Pc [.ref x, .int p0, .int p1] (fun U => U.heap.size = sz ∧ va_P (dC, dI) vwCl [(x, .inr (1, [.ref aH, .ref aL, .ref aS, .ref aO, .ref aK, .ref aZ, .ref cv, .int tcn, .int mcn, .int swd, .int rwd, .int bpt, .int flm]))] U.heap ∧ va_K (dC, dI) vwCl [(cI, .int), (cZ, .boolean)] U ∧ va_D (fun _ => True) [(x, .inr (1, [.ref aH, .ref aL, .ref aS, .ref aO, .ref aK, .ref aZ, .ref cv, .int tcn, .int mcn, .int swd, .int rwd, .int bpt, .int flm]))] ∧ xk (va_A [(x, .inr (1, [.ref aH, .ref aL, .ref aS, .ref aO, .ref aK, .ref aZ, .ref cv, .int tcn, .int mcn, .int swd, .int rwd, .int bpt, .int flm]))] sz) U)) (va_Qi (fun (_ : Int32) (_ : Unit) => False) (fun _ _ => True) (va_A [(x, .inr (1, [.ref aH, .ref aL, .ref aS, .ref aO, .ref aK, .ref aZ, .ref cv, .int tcn, .int mcn, .int swd, .int rwd, .int bpt, .int flm]))] sz)) (vx_X (fun (u9 : String × Int32 × Int32) => px u9.1 u9.2.1 u9.2.2) (fun (E9 : String) (u9 : String × Int32 × Int32) (t9 : State) => E9 = u9.1 ∧ va_P (dC, dI) vwCl [(x, .inr (1, [.ref aH, .ref aL, .ref aS, .ref aO, .ref aK, .ref aZ, .ref cv, .int tcn, .int mcn, .int swd, .int rwd, .int u9.2.1, .int u9.2.2]))] t9.heap ∧ va_K (dC, dI) vwCl [(cI, .int), (cZ, .boolean)] t9 ∧ va_D (va_A [(x, .inr (1, [.ref aH, .ref aL, .ref aS, .ref aO, .ref aK, .ref aZ, .ref cv, .int tcn, .int mcn, .int swd, .int rwd, .int bpt, .int flm]))] sz) [(x, .inr (1, [.ref aH, .ref aL, .ref aS, .ref aO, .ref aK, .ref aZ, .ref cv, .int tcn, .int mcn, .int swd, .int rwd, .int u9.2.1, .int u9.2.2]))]) (va_A [(x, .inr (1, [.ref aH, .ref aL, .ref aS, .ref aO, .ref aK, .ref aZ, .ref cv, .int tcn, .int mcn, .int swd, .int rwd, .int bpt, .int flm]))] sz)) 1 6 (va_A [(x, .inr (1, [.ref aH, .ref aL, .ref aS, .ref aO, .ref aK, .ref aZ, .ref cv, .int tcn, .int mcn, .int swd, .int rwd, .int bpt, .int flm]))] sz) := by
  refine vx_ofW (cc := cX1_setPoints) (maxL := 4) (ret := (some .int)) (by decide) rfl ?_
  intro p e s m args below meth c s₁ B hml hEx hv
  obtain ⟨rfl, hsz, hP, hK, hD0, hxk⟩ := hv
  have hx := B.exec
  have hb := B.bytes
  have hr := B.returns
  have hts := atoms_spec (ws := wsX1_setPoints) B.pre
  have hown : s.vm.findClass RX1 = some m.cls := findClass_of_methodNamed B.named
  have hlocks := B.notSynchronized
  have hinX1 : ∀ w ∈ u_ws RX1 TX1 13, w ∈ wsX1_setPoints := by decide +kernel
  subst hsz
  have hD := hD0.self (sz := s.heap.size)
  generalize hAe : va_A [(x, .inr (1, [.ref aH, .ref aL, .ref aS, .ref aO, .ref aK, .ref aZ, .ref cv, .int tcn, .int mcn, .int swd, .int rwd, .int bpt, .int flm]))] s.heap.size = A at hD hxk ⊢
  have hA : ∀ q : Nat, s.heap.size ≤ q → A q := fun q h => by rw [← hAe]; exact Or.inr h
  have hS : va_S A s.heap s.heap [] := va_S.rf
  have hl := lv_entry ([.ref x, .int p0, .int p1]) (n := 4) (Nat.le_of_ble_eq_true rfl)
  rw [lg_entry_eq]
  generalize (lg_sl ([.ref x, .int p0, .int p1]) ++ List.replicate (4 - (lg_sl ([.ref x, .int p0, .int p1])).length) Slot.unset).toArray = ls at hl ⊢
  have hl : lv_has ls 4 [(0, .ref x), (1, .int p0), (2, .int p1)] := hl
  refine (?_ : ∀ Q9 : State → Prop, vx_MQ below _ _ _ s _ _ _ = Q9 → W p l e ({ frames := 6, cells := 1, slots := 6, locals := 110 } : Room) s m _ below meth c s.heap [] 0 0 Q9 (F0 m 0 ls [])) _ rfl
  intro Q9 hQ9
  have hw : ((p0 < (1 : Int32) → (w_X1_setPoints_x_b11 px p0 p1 bpt flm)) ∧ (¬ p0 < (1 : Int32) → (((p0 ≤ (100 : Int32) → (((p1 < (1 : Int32) → (w_X1_setPoints_x_b32 px p0 p1 bpt flm)) ∧ (¬ p1 < (1 : Int32) → (((p1 ≤ (13 : Int32) → (False)) ∧ (¬ p1 ≤ (13 : Int32) → (w_X1_setPoints_x_b32 px p0 p1 bpt flm)))))))) ∧ (¬ p0 ≤ (100 : Int32) → (w_X1_setPoints_x_b11 px p0 p1 bpt flm)))))) := hw
  have L11 : ∀ (bpt : Int32) (flm : Int32) (H : Heap) (locs : List Loc) (ls : Array Slot), w_X1_setPoints_x_b11 px p0 p1 bpt flm → va_P (dC, dI) vwCl [(x, .inr (1, [.ref aH, .ref aL, .ref aS, .ref aO, .ref aK, .ref aZ, .ref cv, .int tcn, .int mcn, .int swd, .int rwd, .int bpt, .int flm]))] H → va_D A [(x, .inr (1, [.ref aH, .ref aL, .ref aS, .ref aO, .ref aK, .ref aZ, .ref cv, .int tcn, .int mcn, .int swd, .int rwd, .int bpt, .int flm]))] → va_S A s.heap H locs → lv_has ls 4 [(0, .ref x)] → W p l e ({ frames := 6, cells := 1, slots := 6, locals := 110 } : Room) s m ([.ref x, .int p0, .int p1] : List Value).toArray below meth c H locs 0 0 Q9 (F0 m 11 ls []) := by
    intro bpt flm H locs ls hw hP hD hS hl
    obtain ⟨sa9, hstr9⟩ := xk_s161 hxk
    rw [← hQ9]
    exact vx_throwS (own := RX1) (cls := "java/lang/IllegalArgumentException") (text := "a base is 1 to 100") (names := ["java/lang/RuntimeException", "java/lang/Exception"]) (A := A) hx hb hl9 hown (by decide +kernel) (by decide +kernel) (hts (.classLink RX1 78 "java/lang/IllegalArgumentException") (by decide +kernel)) (hts (.initialized "java/lang/IllegalArgumentException") (by decide +kernel)) hstr9 (vx_hat (L := vx_atS RX1 82 "java/lang/IllegalArgumentException" ["java/lang/RuntimeException", "java/lang/Exception"]) (B := [.castable "java/lang/IllegalArgumentException" "java/lang/IllegalArgumentException", .declares ⟨"java/lang/RuntimeException", "<init>", "(Ljava/lang/String;)V"⟩, .declares ⟨"java/lang/Exception", "<init>", "(Ljava/lang/String;)V"⟩, .declares ⟨"java/lang/Throwable", "<init>", "(Ljava/lang/String;)V"⟩]) (fun w hw => hts w ((by decide +kernel : ∀ w ∈ (vx_atS RX1 82 "java/lang/IllegalArgumentException" ["java/lang/RuntimeException", "java/lang/Exception"]).filter goodWord, w ∈ wsX1_setPoints) w hw)) (by decide +kernel) (vx_c (va_Nw.use rfl (xk_c2 hxk)) (vx_c (va_Nw.use rfl (xk_d1 hxk)) (vx_c (va_Nw.use rfl (xk_d2 hxk)) (vx_c (va_Nw.use rfl (xk_d3 hxk)) vx_n))))) (by decide +kernel) (xk_U hxk) (xk_N hxk) hS (hl.1.trans hml.symm) dX1_setPoints_11 dX1_setPoints_14 dX1_setPoints_15 dX1_setPoints_17 dX1_setPoints_20 (fun x hx => (hEx x hx).elim) (Nat.le_of_ble_eq_true rfl) (Nat.le_of_ble_eq_true rfl) (Nat.le_of_ble_eq_true rfl) (Nat.le_of_ble_eq_true rfl) hlocks (fun t ha hz hq => ⟨("java/lang/IllegalArgumentException", bpt, flm), hw, ⟨rfl, xt_P hP hq, va_K.moved ha hK, hD⟩, xt_F hS hz hq⟩) hS.2.2 (Nat.le_of_ble_eq_true rfl) (Nat.le_of_ble_eq_true rfl)
  have L32 : ∀ (bpt : Int32) (flm : Int32) (H : Heap) (locs : List Loc) (ls : Array Slot), w_X1_setPoints_x_b32 px p0 p1 bpt flm → va_P (dC, dI) vwCl [(x, .inr (1, [.ref aH, .ref aL, .ref aS, .ref aO, .ref aK, .ref aZ, .ref cv, .int tcn, .int mcn, .int swd, .int rwd, .int bpt, .int flm]))] H → va_D A [(x, .inr (1, [.ref aH, .ref aL, .ref aS, .ref aO, .ref aK, .ref aZ, .ref cv, .int tcn, .int mcn, .int swd, .int rwd, .int bpt, .int flm]))] → va_S A s.heap H locs → lv_has ls 4 [(0, .ref x)] → W p l e ({ frames := 6, cells := 1, slots := 6, locals := 110 } : Room) s m ([.ref x, .int p0, .int p1] : List Value).toArray below meth c H locs 0 0 Q9 (F0 m 32 ls []) := by
    intro bpt flm H locs ls hw hP hD hS hl
    obtain ⟨sa9, hstr9⟩ := xk_s163 hxk
    rw [← hQ9]
    exact vx_throwS (own := RX1) (cls := "java/lang/IllegalArgumentException") (text := "a limit is 1 to 13") (names := ["java/lang/RuntimeException", "java/lang/Exception"]) (A := A) hx hb hl9 hown (by decide +kernel) (by decide +kernel) (hts (.classLink RX1 78 "java/lang/IllegalArgumentException") (by decide +kernel)) (hts (.initialized "java/lang/IllegalArgumentException") (by decide +kernel)) hstr9 (vx_hat (L := vx_atS RX1 82 "java/lang/IllegalArgumentException" ["java/lang/RuntimeException", "java/lang/Exception"]) (B := [.castable "java/lang/IllegalArgumentException" "java/lang/IllegalArgumentException", .declares ⟨"java/lang/RuntimeException", "<init>", "(Ljava/lang/String;)V"⟩, .declares ⟨"java/lang/Exception", "<init>", "(Ljava/lang/String;)V"⟩, .declares ⟨"java/lang/Throwable", "<init>", "(Ljava/lang/String;)V"⟩]) (fun w hw => hts w ((by decide +kernel : ∀ w ∈ (vx_atS RX1 82 "java/lang/IllegalArgumentException" ["java/lang/RuntimeException", "java/lang/Exception"]).filter goodWord, w ∈ wsX1_setPoints) w hw)) (by decide +kernel) (vx_c (va_Nw.use rfl (xk_c2 hxk)) (vx_c (va_Nw.use rfl (xk_d1 hxk)) (vx_c (va_Nw.use rfl (xk_d2 hxk)) (vx_c (va_Nw.use rfl (xk_d3 hxk)) vx_n))))) (by decide +kernel) (xk_U hxk) (xk_N hxk) hS (hl.1.trans hml.symm) dX1_setPoints_32 dX1_setPoints_35 dX1_setPoints_36 dX1_setPoints_38 dX1_setPoints_41 (fun x hx => (hEx x hx).elim) (Nat.le_of_ble_eq_true rfl) (Nat.le_of_ble_eq_true rfl) (Nat.le_of_ble_eq_true rfl) (Nat.le_of_ble_eq_true rfl) hlocks (fun t ha hz hq => ⟨("java/lang/IllegalArgumentException", bpt, flm), hw, ⟨rfl, xt_P hP hq, va_K.moved ha hK, hD⟩, xt_F hS hz hq⟩) hS.2.2 (Nat.le_of_ble_eq_true rfl) (Nat.le_of_ble_eq_true rfl)
  refine lv_iload_n hx hb dX1_setPoints_0 rfl (lv_at hl 1 rfl) ?_
  refine lv_iconst (v := 1) hx hb dX1_setPoints_1 (by decide) ?_
  refine lv_icmp_lt (tgt := 11) hx hb dX1_setPoints_2 (by decide) (fun c1 => ?_) (fun c1 => ?_)
  · have hw := hw.1 c1
    exact L11 bpt flm _ _ _ hw hP hD hS (lv_sub hl [0] rfl)
  · have hw := hw.2 c1
    refine lv_iload_n hx hb dX1_setPoints_5 rfl (lv_at hl 1 rfl) ?_
    refine lv_bipush (v := 100) hx hb dX1_setPoints_6 (by decide) ?_
    refine lv_icmp_le (tgt := 21) hx hb dX1_setPoints_8 (by decide) (fun c2 => ?_) (fun c2 => ?_)
    · have hw := hw.1 c2
      refine lv_iload_n hx hb dX1_setPoints_21 rfl (lv_at hl 2 rfl) ?_
      refine lv_iconst (v := 1) hx hb dX1_setPoints_22 (by decide) ?_
      refine lv_icmp_lt (tgt := 32) hx hb dX1_setPoints_23 (by decide) (fun c3 => ?_) (fun c3 => ?_)
      · have hw := hw.1 c3
        exact L32 bpt flm _ _ _ hw hP hD hS (lv_sub hl [0] rfl)
      · have hw := hw.2 c3
        refine lv_iload_n hx hb dX1_setPoints_26 rfl (lv_at hl 2 rfl) ?_
        refine lv_bipush (v := 13) hx hb dX1_setPoints_27 (by decide) ?_
        refine lv_icmp_le (tgt := 42) hx hb dX1_setPoints_29 (by decide) (fun c4 => ?_) (fun c4 => ?_)
        · have hw := hw.1 c4
          refine lv_aload_n hx hb dX1_setPoints_42 rfl (lv_at hl 0 rfl) ?_
          refine va_get (D := (dC, dI)) (ci := 1) (v := .int flm) (C := RX1) (T := TX1) (N := 13) hx hb hts hinX1 hown hK hP 0 rfl rfl 12 (by decide) (hts (.fieldLink RX1 46 "TileHand" "fanLimit" "I") (by decide +kernel)) (fun _ h9 => h9) rfl dX1_setPoints_43 ?_
          refine lv_istore_n (lv' := [(3, .int flm), (0, .ref x), (1, .int p0), (2, .int p1)]) hx hb dX1_setPoints_46 rfl hl (by decide) rfl (fun ls hl => ?_)
          refine lv_aload_n hx hb dX1_setPoints_47 rfl (lv_at hl 1 rfl) ?_
          refine lv_iload_n hx hb dX1_setPoints_48 rfl (lv_at hl 2 rfl) ?_
          refine va_put (D := (dC, dI)) (ci := 1) (v := .int p0) (ty := .int) (C := RX1) (T := TX1) (N := 13) hx hb hts hinX1 tyX1 tyX1_ok nmX1 hown hK hP hD hS 0 rfl rfl 11 (by decide) (hts (.fieldLink RX1 43 "TileHand" "basePoints" "I") (by decide +kernel)) (fun _ h9 => h9) rfl (by decide +kernel) rfl rfl (Nat.le_of_ble_eq_true rfl) dX1_setPoints_49 (fun H locs hP hD hS => ?_)
          have hP : va_P (dC, dI) vwCl [(x, .inr (1, [.ref aH, .ref aL, .ref aS, .ref aO, .ref aK, .ref aZ, .ref cv, .int tcn, .int mcn, .int swd, .int rwd, .int p0, .int flm]))] H := hP
          have hD : va_D A [(x, .inr (1, [.ref aH, .ref aL, .ref aS, .ref aO, .ref aK, .ref aZ, .ref cv, .int tcn, .int mcn, .int swd, .int rwd, .int p0, .int flm]))] := hD
          refine lv_aload_n hx hb dX1_setPoints_52 rfl (lv_at hl 1 rfl) ?_
          refine lv_iload_n hx hb dX1_setPoints_53 rfl (lv_at hl 3 rfl) ?_
          refine va_put (D := (dC, dI)) (ci := 1) (v := .int p1) (ty := .int) (C := RX1) (T := TX1) (N := 13) hx hb hts hinX1 tyX1 tyX1_ok nmX1 hown hK hP hD hS 0 rfl rfl 12 (by decide) (hts (.fieldLink RX1 46 "TileHand" "fanLimit" "I") (by decide +kernel)) (fun _ h9 => h9) rfl (by decide +kernel) rfl rfl (Nat.le_of_ble_eq_true rfl) dX1_setPoints_54 (fun H locs hP hD hS => ?_)
          have hP : va_P (dC, dI) vwCl [(x, .inr (1, [.ref aH, .ref aL, .ref aS, .ref aO, .ref aK, .ref aZ, .ref cv, .int tcn, .int mcn, .int swd, .int rwd, .int p0, .int p1]))] H := hP
          have hD : va_D A [(x, .inr (1, [.ref aH, .ref aL, .ref aS, .ref aO, .ref aK, .ref aZ, .ref cv, .int tcn, .int mcn, .int swd, .int rwd, .int p0, .int p1]))] := hD
          refine lv_iload_n hx hb dX1_setPoints_57 rfl (lv_at hl 0 rfl) ?_
          exact False.elim hw
        · have hw := hw.2 c4
          exact L32 bpt flm _ _ _ hw hP hD hS (lv_sub hl [0] rfl)
    · have hw := hw.2 c2
      exact L11 bpt flm _ _ _ hw hP hD hS (lv_sub hl [0] rfl)
