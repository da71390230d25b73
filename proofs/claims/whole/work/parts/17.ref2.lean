/-! CubeWorldsModel: the rest that reads alone -/
def sR_join (n : Nat → Nat) (c : Nat → Nat → Nat) (L : Bool) (a x y : Int32) : Int32 := rg 0 3 a (-1) fun k => rg 0 (2 ^ n k * 2 ^ n k + 2 ^ n k) x (-1) fun X => rg 0 (2 ^ n k * 2 ^ n k + 2 ^ n k) y (-1) fun Y => if X = Y then -3 else oI (cmS (n k) (c k) L X Y)
def sR_bad (n : Nat → Nat) (c : Nat → Nat → Nat) (a : Int32) : Int32 := rg 0 3 a (-1) fun k => nI (bdS (n k) (c k))
theorem and1_tb (a q : Nat) : (a >>> q) &&& 1 = if a.testBit q then 1 else 0 := by
  rw [and1_01]
  cases h : a.testBit q with
  | true => rw [if_pos ((bit1' a q).mpr h)]; rfl
  | false =>
    rw [if_neg (fun z => by rw [(bit1' a q).mp z] at h; cases h)]
    rfl
theorem t4 {m t : Nat} (hm : m ≤ 16) (h : ∀ j, j < t + 1 → 2 ^ j < m) (ht : t ≤ 4) : t + 1 ≤ 4 := by
  refine Nat.lt_of_le_of_ne ht (fun e => ?_)
  have h9 := h t (by omega)
  rw [e] at h9
  omega
theorem rB_nt {L q : Nat} (hL : L < 2 ^ 31) (hq : q < 2 ^ 31) (h : rB 0 L (nI q) = true) : q ≤ L := by
  rw [rB_nI hL (by decide) hq, decide_eq_true_eq] at h
  exact h.2
theorem rB_nf {L q : Nat} (hL : L < 2 ^ 31) (hq : q < 2 ^ 31) (h : rB 0 L (nI q) = false) : L < q := by
  rw [rB_nI hL (by decide) hq, decide_eq_false_iff_not] at h
  omega

set_option maxHeartbeats 4000000 in
set_option maxRecDepth 100000 in
theorem c_X3_joins (l : Launch) {D : va_G} {tys : List (ClassId × FieldType)} {ad : Nat → Nat} {cI cW cM : ClassId} {tI : Nat} {S : Nat → Nat → Nat} (hI : tys[tI]? = some (cI, .int)) (hRF : RF S) {a x w : Int32} : Met l yX3_joins wsX3_joins ({ frames := 3, cells := 0, slots := 0, locals := 77 } : Room) (va_Pc [.ref (ad (25)), .int (a), .int (x), .int (w)] (PB D tys 33 ad (gE cI cW cM ad S))) (k2_QcV (.int (sC_joins (rN_ S) (rC S) a x w))) 0 0 (fun _ => False) := by
  refine g_pure (cc := cX3_joins) (maxL := 4) (ret := (some .int)) (by decide) rfl (Nat.le_of_ble_eq_true rfl) ?_
  intro p e s m args below meth c hx hb hrt hts hown hlocks hml hP hK ls hl
  show W p l e ({ frames := 3, cells := 0, slots := 0, locals := 77 } : Room) s m args below meth c s.heap [] 0 0 _ _
  have hl : lv_has ls 4 [(0, .ref (ad (25))), (1, .int (a)), (2, .int (x)), (3, .int (w))] := hl
  refine lv_iload_n hx hb dX3_joins_0 rfl (lv_at hl 1 rfl) ?_
  refine g_callS (As := [.int (a)]) (rest := []) (c_X3_isSlot l hI (v := a)) (va_cwS 1 hts gX3_joins_X3_isSlot rfl rfl rfl (by decide +kernel) ⟨Nat.le_of_ble_eq_true rfl, Nat.le_of_ble_eq_true rfl⟩) hx hb hml hown hts hK hP  rfl hl.1 rfl (Nat.le_of_ble_eq_true rfl) (Nat.zero_le _) (Nat.zero_le _) dX3_joins_1 ?_
  refine n_ifeq_b (tgt := 16) hx hb dX3_joins_4 (by decide) (fun h_4 => ?_) (fun h_4 => ?_)
  · refine lv_iconst (v := (-1)) hx hb dX3_joins_16 (by decide) ?_
    exact g_iret hx hb hrt hlocks dX3_joins_17 (by unfold sC_joins; (try dsimp only [rN_]); rw [rg_n h_4])
  · obtain ⟨k, hk1, hk2, e9⟩ := rB_some (by omega) (by omega) h_4
    subst e9
    have hk5 : k < 5 := by omega
    have qk1 := (hRF.1 k (by omega)).1
    have h4k := qk1.2
    have hcbk := (hRF.1 k (by omega)).2
    have qk2 := pow4 h4k
    have qk3 : 0 < 2 ^ S 26 k := Nat.pow_pos (by decide)
    have qk4 := sq4 qk2
    refine lv_aload_n hx hb dX3_joins_7 rfl (lv_at hl 0 rfl) ?_
    refine lv_iload_n hx hb dX3_joins_8 rfl (lv_at hl 1 rfl) ?_
    refine lv_iload_n hx hb dX3_joins_9 rfl (lv_at hl 2 rfl) ?_
    refine g_callV (25) (C := RX3) (T := TX3) (N := 7) (ci := 2) (As := [.int (nI (k)), .int (x)]) (rest := []) (c_X3_isNumber l hI (k := k) hk5 h4k (v := x)) (cwV 2 hts gX3_joins_X3_isNumber rfl rfl rfl (by decide +kernel) ⟨Nat.le_of_ble_eq_true rfl, Nat.le_of_ble_eq_true rfl⟩) hx hb hml hown hts hK hP  (by decide) rfl rfl rfl hl.1 rfl (Nat.le_of_ble_eq_true rfl) (Nat.zero_le _) (Nat.zero_le _) dX3_joins_10 ?_
    refine n_ifne_b (tgt := 18) hx hb dX3_joins_13 (by decide) (fun h_13 => ?_) (fun h_13 => ?_)
    · obtain ⟨X, hX1, hX2, e9⟩ := rB_some (by omega) (by omega) h_13
      subst e9
      refine lv_iload_n hx hb dX3_joins_18 rfl (lv_at hl 3 rfl) ?_
      refine n_iconst 0 hx hb dX3_joins_19 ?_
      refine n_iconst 3 hx hb dX3_joins_20 ?_
      refine g_callS (As := [.int (w), .int (nI (0)), .int (nI (3))]) (rest := []) (c_X3_in l hI (v := w) (lo := 0) (hi := 3)) (va_cwS 3 hts gX3_joins_X3_in rfl rfl rfl (by decide +kernel) ⟨Nat.le_of_ble_eq_true rfl, Nat.le_of_ble_eq_true rfl⟩) hx hb hml hown hts hK hP  rfl hl.1 rfl (Nat.le_of_ble_eq_true rfl) (Nat.zero_le _) (Nat.zero_le _) dX3_joins_21 ?_
      refine n_ifne_b (tgt := 32) hx hb dX3_joins_24 (by decide) (fun h_24 => ?_) (fun h_24 => ?_)
      · obtain ⟨V, hV1, hV2, e9⟩ := rB_some (by omega) (by omega) h_24
        subst e9
        refine lv_aload_n hx hb dX3_joins_32 rfl (lv_at hl 0 rfl) ?_
        refine lv_iload_n hx hb dX3_joins_33 rfl (lv_at hl 1 rfl) ?_
        refine lv_iload_n hx hb dX3_joins_34 rfl (lv_at hl 2 rfl) ?_
        refine lv_iload_n hx hb dX3_joins_35 rfl (lv_at hl 3 rfl) ?_
        refine g_callV (25) (C := RX3) (T := TX3) (N := 7) (ci := 2) (As := [.int (nI (k)), .int (nI (X)), .int (nI (V))]) (rest := []) (c_X3_joinsAll l hI (k := k) hk5 h4k hcbk (X := X) (V := V) (by omega) (by omega)) (cwV 3 hts gX3_joins_X3_joinsAll rfl rfl rfl (by decide +kernel) ⟨Nat.le_of_ble_eq_true rfl, Nat.le_of_ble_eq_true rfl⟩) hx hb hml hown hts hK hP  (by decide) rfl rfl rfl hl.1 rfl (Nat.le_of_ble_eq_true rfl) (Nat.zero_le _) (Nat.zero_le _) dX3_joins_36 ?_
        refine n_ifeq_b (tgt := 46) hx hb dX3_joins_39 (by decide) (fun h_39 => ?_) (fun h_39 => ?_)
        · refine n_iconst 0 hx hb dX3_joins_46 ?_
          exact g_iret hx hb hrt hlocks dX3_joins_47 (by unfold sC_joins; (try dsimp only [rN_]); rw [rg_y (by omega) (by omega) (by omega), rg_y (by omega) (by omega) (by omega), rg_y (by omega) (by omega) (by omega), ← ja_eq (by omega), h_39]; rfl)
        · refine n_iconst 1 hx hb dX3_joins_42 ?_
          refine n_goto 47 hx hb dX3_joins_43 (by decide) ?_
          exact g_iret hx hb hrt hlocks dX3_joins_47 (by unfold sC_joins; (try dsimp only [rN_]); rw [rg_y (by omega) (by omega) (by omega), rg_y (by omega) (by omega) (by omega), rg_y (by omega) (by omega) (by omega), ← ja_eq (by omega), h_39]; rfl)
      · refine lv_bipush (v := (-2)) hx hb dX3_joins_27 (by decide) ?_
        refine n_goto 47 hx hb dX3_joins_29 (by decide) ?_
        exact g_iret hx hb hrt hlocks dX3_joins_47 (by unfold sC_joins; (try dsimp only [rN_]); rw [rg_y (by omega) (by omega) (by omega), rg_y (by omega) (by omega) (by omega), rg_n h_24])
    · refine lv_iconst (v := (-1)) hx hb dX3_joins_16 (by decide) ?_
      exact g_iret hx hb hrt hlocks dX3_joins_17 (by unfold sC_joins; (try dsimp only [rN_]); rw [rg_y (by omega) (by omega) (by omega), rg_n h_13])
set_option maxHeartbeats 4000000 in
set_option maxRecDepth 100000 in
theorem c_X3_many (l : Launch) {D : va_G} {tys : List (ClassId × FieldType)} {ad : Nat → Nat} {cI cW cM : ClassId} {tI : Nat} {S : Nat → Nat → Nat} (hI : tys[tI]? = some (cI, .int)) (hRF : RF S) {a w : Int32} : Met l yX3_many wsX3_many ({ frames := 3, cells := 0, slots := 0, locals := 77 } : Room) (va_Pc [.ref (ad (25)), .int (a), .int (w)] (PB D tys 33 ad (gE cI cW cM ad S))) (k2_QcV (.int (sC_many (rN_ S) (rC S) a w))) 0 0 (fun _ => False) := by
  refine g_pure (cc := cX3_many) (maxL := 5) (ret := (some .int)) (by decide) rfl (Nat.le_of_ble_eq_true rfl) ?_
  intro p e s m args below meth c hx hb hrt hts hown hlocks hml hP hK ls hl
  show W p l e ({ frames := 3, cells := 0, slots := 0, locals := 77 } : Room) s m args below meth c s.heap [] 0 0 _ _
  have hl : lv_has ls 5 [(0, .ref (ad (25))), (1, .int (a)), (2, .int (w))] := hl
  refine lv_iload_n hx hb dX3_many_0 rfl (lv_at hl 1 rfl) ?_
  refine g_callS (As := [.int (a)]) (rest := []) (c_X3_isSlot l hI (v := a)) (va_cwS 1 hts gX3_many_X3_isSlot rfl rfl rfl (by decide +kernel) ⟨Nat.le_of_ble_eq_true rfl, Nat.le_of_ble_eq_true rfl⟩) hx hb hml hown hts hK hP  rfl hl.1 rfl (Nat.le_of_ble_eq_true rfl) (Nat.zero_le _) (Nat.zero_le _) dX3_many_1 ?_
  refine n_ifne_b (tgt := 9) hx hb dX3_many_4 (by decide) (fun h_4 => ?_) (fun h_4 => ?_)
  · obtain ⟨k, hk1, hk2, e9⟩ := rB_some (by omega) (by omega) h_4
    subst e9
    have hk5 : k < 5 := by omega
    have qk1 := (hRF.1 k (by omega)).1
    have h4k := qk1.2
    have hcbk := (hRF.1 k (by omega)).2
    have qk2 := pow4 h4k
    have qk3 : 0 < 2 ^ S 26 k := Nat.pow_pos (by decide)
    have qk4 := sq4 qk2
    refine lv_iload_n hx hb dX3_many_9 rfl (lv_at hl 2 rfl) ?_
    refine n_iconst 0 hx hb dX3_many_10 ?_
    refine n_iconst 3 hx hb dX3_many_11 ?_
    refine g_callS (As := [.int (w), .int (nI (0)), .int (nI (3))]) (rest := []) (c_X3_in l hI (v := w) (lo := 0) (hi := 3)) (va_cwS 3 hts gX3_many_X3_in rfl rfl rfl (by decide +kernel) ⟨Nat.le_of_ble_eq_true rfl, Nat.le_of_ble_eq_true rfl⟩) hx hb hml hown hts hK hP  rfl hl.1 rfl (Nat.le_of_ble_eq_true rfl) (Nat.zero_le _) (Nat.zero_le _) dX3_many_12 ?_
    refine n_ifne_b (tgt := 21) hx hb dX3_many_15 (by decide) (fun h_15 => ?_) (fun h_15 => ?_)
    · obtain ⟨V, hV1, hV2, e9⟩ := rB_some (by omega) (by omega) h_15
      subst e9
      refine n_iconst 0 hx hb dX3_many_21 ?_
      refine lv_istore_n (lv' := [(3, .int (nI (0))), (0, .ref (ad (25))), (1, .int (nI (k))), (2, .int (nI (V)))]) hx hb dX3_many_22 rfl hl (by decide) rfl (fun ls hl => ?_)
      refine n_iconst 0 hx hb dX3_many_23 ?_
      refine lv_istore (lv' := [(4, .int (nI (0))), (3, .int (nI (0))), (0, .ref (ad (25))), (1, .int (nI (k))), (2, .int (nI (V)))]) hx hb dX3_many_24 hl (by decide) rfl (fun ls hl => ?_)
      have L_26 : ∀ (r : Nat) (acc : Nat) (y : Nat), (y ≤ 2 ^ S 26 k) → (2 ^ S 26 k < y + r) → (acc = cnt (fun x => jnB (S 26 k) (rC S k) x V) y) → ∀ (ls : Array Slot), lv_has ls 5 [(0, .ref (ad (25))), (1, .int (nI (k))), (2, .int (nI (V))), (3, .int (nI (acc))), (4, .int (nI (y)))] → W p l e ({ frames := 3, cells := 0, slots := 0, locals := 77 } : Room) s m args below meth c s.heap [] 0 0 (MQ below (k2_QcV (.int (sC_many (rN_ S) (rC S) ((nI k)) ((nI V))))) args s 0 0 (fun _ => False)) (F0 m 26 ls []) := by
        intro r
        induction r with
        | zero => intro acc y hy hr ha; intros; exact absurd hr (by omega)
        | succ r ih =>
          intro acc y hy hr ha ls hl
          have ih_26 := ih
          refine lv_iload hx hb dX3_many_26 (lv_at hl 4 rfl) ?_
          refine lv_aload_n hx hb dX3_many_28 rfl (lv_at hl 0 rfl) ?_
          refine lv_iload_n hx hb dX3_many_29 rfl (lv_at hl 1 rfl) ?_
          refine g_callV (25) (C := RX3) (T := TX3) (N := 7) (ci := 2) (As := [.int (nI (k))]) (rest := [.int (nI (y))]) (c_X3_numbers l hI (k := k) hk5 h4k) (cwV 1 hts gX3_many_X3_numbers rfl rfl rfl (by decide +kernel) ⟨Nat.le_of_ble_eq_true rfl, Nat.le_of_ble_eq_true rfl⟩) hx hb hml hown hts hK hP  (by decide) rfl rfl rfl hl.1 rfl (Nat.le_of_ble_eq_true rfl) (Nat.zero_le _) (Nat.zero_le _) dX3_many_30 ?_
          refine n_ge (tgt := 61) hx hb dX3_many_33 (by decide) (by omega) (by omega) (fun h_33 => ?_) (fun h_33 => ?_)
          · refine lv_iload_n hx hb dX3_many_61 rfl (lv_at hl 3 rfl) ?_
            exact g_iret hx hb hrt hlocks dX3_many_62 (by unfold sC_many; (try dsimp only [rN_]); rw [rg_y (by omega) (by omega) (by omega), rg_y (by omega) (by omega) (by omega), ha, show y = 2 ^ S 26 k by omega])
          · refine lv_iload_n hx hb dX3_many_36 rfl (lv_at hl 3 rfl) ?_
            refine lv_aload_n hx hb dX3_many_37 rfl (lv_at hl 0 rfl) ?_
            refine lv_iload_n hx hb dX3_many_38 rfl (lv_at hl 1 rfl) ?_
            refine lv_iload hx hb dX3_many_39 (lv_at hl 4 rfl) ?_
            refine lv_iload_n hx hb dX3_many_41 rfl (lv_at hl 2 rfl) ?_
            refine g_callV (25) (C := RX3) (T := TX3) (N := 7) (ci := 2) (As := [.int (nI (k)), .int (nI (y)), .int (nI (V))]) (rest := [.int (nI (acc))]) (c_X3_joinsAll l hI (k := k) hk5 h4k hcbk (X := y) (V := V) (by omega) (by omega)) (cwV 3 hts gX3_many_X3_joinsAll rfl rfl rfl (by decide +kernel) ⟨Nat.le_of_ble_eq_true rfl, Nat.le_of_ble_eq_true rfl⟩) hx hb hml hown hts hK hP  (by decide) rfl rfl rfl hl.1 rfl (Nat.le_of_ble_eq_true rfl) (Nat.zero_le _) (Nat.zero_le _) dX3_many_42 ?_
            refine n_ifeq_b (tgt := 52) hx hb dX3_many_45 (by decide) (fun h_45 => ?_) (fun h_45 => ?_)
            · refine n_iconst 0 hx hb dX3_many_52 ?_
              refine n_iadd hx hb dX3_many_53 ?_
              refine lv_istore_n (lv' := [(3, .int (nI (acc + 0))), (0, .ref (ad (25))), (1, .int (nI (k))), (2, .int (nI (V))), (4, .int (nI (y)))]) hx hb dX3_many_54 rfl hl (by decide) rfl (fun ls hl => ?_)
              refine n_iinc 4 1 (lv' := [(4, .int (nI (y + 1))), (3, .int (nI (acc + 0))), (0, .ref (ad (25))), (1, .int (nI (k))), (2, .int (nI (V)))]) hx hb dX3_many_55 hl rfl (by decide) rfl (fun ls hl => ?_)
              refine n_goto 26 hx hb dX3_many_58 (by decide) ?_
              exact ih_26 (acc + 0) (y + 1) (by omega) (by omega) (by rw [ha, cnt_n (p := fun x => jnB (S 26 k) (rC S k) x V) (by rw [← ja_eq (by omega)]; exact h_45)]; rfl) _ (lv_sub hl [2, 3, 4, 1, 0] rfl)
            · refine n_iconst 1 hx hb dX3_many_48 ?_
              refine n_goto 53 hx hb dX3_many_49 (by decide) ?_
              refine n_iadd hx hb dX3_many_53 ?_
              refine lv_istore_n (lv' := [(3, .int (nI (acc + 1))), (0, .ref (ad (25))), (1, .int (nI (k))), (2, .int (nI (V))), (4, .int (nI (y)))]) hx hb dX3_many_54 rfl hl (by decide) rfl (fun ls hl => ?_)
              refine n_iinc 4 1 (lv' := [(4, .int (nI (y + 1))), (3, .int (nI (acc + 1))), (0, .ref (ad (25))), (1, .int (nI (k))), (2, .int (nI (V)))]) hx hb dX3_many_55 hl rfl (by decide) rfl (fun ls hl => ?_)
              refine n_goto 26 hx hb dX3_many_58 (by decide) ?_
              exact ih_26 (acc + 1) (y + 1) (by omega) (by omega) (by rw [ha, cnt_y (p := fun x => jnB (S 26 k) (rC S k) x V) (by rw [← ja_eq (by omega)]; exact h_45)]) _ (lv_sub hl [2, 3, 4, 1, 0] rfl)
      exact L_26 (2 ^ S 26 k + 1) (0) (0) (Nat.zero_le _) (by omega) rfl _ (lv_sub hl [2, 3, 4, 1, 0] rfl)
    · refine lv_bipush (v := (-2)) hx hb dX3_many_18 (by decide) ?_
      exact g_iret hx hb hrt hlocks dX3_many_20 (by unfold sC_many; (try dsimp only [rN_]); rw [rg_y (by omega) (by omega) (by omega), rg_n h_15])
  · refine lv_iconst (v := (-1)) hx hb dX3_many_7 (by decide) ?_
    exact g_iret hx hb hrt hlocks dX3_many_8 (by unfold sC_many; (try dsimp only [rN_]); rw [rg_n h_4])
set_option maxHeartbeats 4000000 in
set_option maxRecDepth 100000 in
theorem c_X3_unlike (l : Launch) {D : va_G} {tys : List (ClassId × FieldType)} {ad : Nat → Nat} {cI cW cM : ClassId} {tI : Nat} {S : Nat → Nat → Nat} (hI : tys[tI]? = some (cI, .int)) (hRF : RF S) {a : Int32} : Met l yX3_unlike wsX3_unlike ({ frames := 2, cells := 0, slots := 0, locals := 42 } : Room) (va_Pc [.ref (ad (25)), .int (a)] (PB D tys 33 ad (gE cI cW cM ad S))) (k2_QcV (.int (sC_unlike (rN_ S) (rC S) a))) 0 0 (fun _ => False) := by
  refine g_pure (cc := cX3_unlike) (maxL := 5) (ret := (some .int)) (by decide) rfl (Nat.le_of_ble_eq_true rfl) ?_
  intro p e s m args below meth c hx hb hrt hts hown hlocks hml hP hK ls hl
  show W p l e ({ frames := 2, cells := 0, slots := 0, locals := 42 } : Room) s m args below meth c s.heap [] 0 0 _ _
  have hl : lv_has ls 5 [(0, .ref (ad (25))), (1, .int (a))] := hl
  refine lv_iload_n hx hb dX3_unlike_0 rfl (lv_at hl 1 rfl) ?_
  refine g_callS (As := [.int (a)]) (rest := []) (c_X3_isSlot l hI (v := a)) (va_cwS 1 hts gX3_unlike_X3_isSlot rfl rfl rfl (by decide +kernel) ⟨Nat.le_of_ble_eq_true rfl, Nat.le_of_ble_eq_true rfl⟩) hx hb hml hown hts hK hP  rfl hl.1 rfl (Nat.le_of_ble_eq_true rfl) (Nat.zero_le _) (Nat.zero_le _) dX3_unlike_1 ?_
  refine n_ifne_b (tgt := 9) hx hb dX3_unlike_4 (by decide) (fun h_4 => ?_) (fun h_4 => ?_)
  · obtain ⟨k, hk1, hk2, e9⟩ := rB_some (by omega) (by omega) h_4
    subst e9
    have hk5 : k < 5 := by omega
    have qk1 := (hRF.1 k (by omega)).1
    have h4k := qk1.2
    have hcbk := (hRF.1 k (by omega)).2
    have qk2 := pow4 h4k
    have qk3 : 0 < 2 ^ S 26 k := Nat.pow_pos (by decide)
    have qk4 := sq4 qk2
    refine n_iconst 0 hx hb dX3_unlike_9 ?_
    refine lv_istore_n (lv' := [(2, .int (nI (0))), (0, .ref (ad (25))), (1, .int (nI (k)))]) hx hb dX3_unlike_10 rfl hl (by decide) rfl (fun ls hl => ?_)
    refine n_iconst 0 hx hb dX3_unlike_11 ?_
    refine lv_istore_n (lv' := [(3, .int (nI (0))), (2, .int (nI (0))), (0, .ref (ad (25))), (1, .int (nI (k)))]) hx hb dX3_unlike_12 rfl hl (by decide) rfl (fun ls hl => ?_)
    have L_13 : ∀ (r : Nat) (acc : Nat) (x0 : Nat), (x0 ≤ 2 ^ S 26 k) → (2 ^ S 26 k < x0 + r) → (acc = sm (fun x => cnt (fun y => !(tm (S 26 k) (rC S k) x y == tm (S 26 k) (rC S k) y x)) (2 ^ S 26 k)) x0) → ∀ (ls : Array Slot), lv_has ls 5 [(0, .ref (ad (25))), (1, .int (nI (k))), (2, .int (nI (acc))), (3, .int (nI (x0)))] → W p l e ({ frames := 2, cells := 0, slots := 0, locals := 42 } : Room) s m args below meth c s.heap [] 0 0 (MQ below (k2_QcV (.int (sC_unlike (rN_ S) (rC S) ((nI k))))) args s 0 0 (fun _ => False)) (F0 m 13 ls []) := by
      intro r
      induction r with
      | zero => intro acc x0 hx0 hr ha; intros; exact absurd hr (by omega)
      | succ r ih =>
        intro acc x0 hx0 hr ha ls hl
        have ih_13 := ih
        refine lv_iload_n hx hb dX3_unlike_13 rfl (lv_at hl 3 rfl) ?_
        refine lv_aload_n hx hb dX3_unlike_14 rfl (lv_at hl 0 rfl) ?_
        refine lv_iload_n hx hb dX3_unlike_15 rfl (lv_at hl 1 rfl) ?_
        refine g_callV (25) (C := RX3) (T := TX3) (N := 7) (ci := 2) (As := [.int (nI (k))]) (rest := [.int (nI (x0))]) (c_X3_numbers l hI (k := k) hk5 h4k) (cwV 1 hts gX3_unlike_X3_numbers rfl rfl rfl (by decide +kernel) ⟨Nat.le_of_ble_eq_true rfl, Nat.le_of_ble_eq_true rfl⟩) hx hb hml hown hts hK hP  (by decide) rfl rfl rfl hl.1 rfl (Nat.le_of_ble_eq_true rfl) (Nat.zero_le _) (Nat.zero_le _) dX3_unlike_16 ?_
        refine n_ge (tgt := 74) hx hb dX3_unlike_19 (by decide) (by omega) (by omega) (fun h_19 => ?_) (fun h_19 => ?_)
        · refine lv_iload_n hx hb dX3_unlike_74 rfl (lv_at hl 2 rfl) ?_
          exact g_iret hx hb hrt hlocks dX3_unlike_75 (by unfold sC_unlike; (try dsimp only [rN_]); rw [rg_y (by omega) (by omega) (by omega), ha, show x0 = 2 ^ S 26 k by omega]; rfl)
        · refine n_iconst 0 hx hb dX3_unlike_22 ?_
          refine lv_istore (lv' := [(4, .int (nI (0))), (0, .ref (ad (25))), (1, .int (nI (k))), (2, .int (nI (acc))), (3, .int (nI (x0)))]) hx hb dX3_unlike_23 hl (by decide) rfl (fun ls hl => ?_)
          have L_25 : ∀ (r : Nat) (acc2 : Nat) (y : Nat), (y ≤ 2 ^ S 26 k) → (2 ^ S 26 k < y + r) → (acc2 = sm (fun x => cnt (fun y => !(tm (S 26 k) (rC S k) x y == tm (S 26 k) (rC S k) y x)) (2 ^ S 26 k)) x0 + cnt (fun y => !(tm (S 26 k) (rC S k) x0 y == tm (S 26 k) (rC S k) y x0)) y) → ∀ (ls : Array Slot), lv_has ls 5 [(0, .ref (ad (25))), (1, .int (nI (k))), (2, .int (nI (acc2))), (3, .int (nI (x0))), (4, .int (nI (y)))] → W p l e ({ frames := 2, cells := 0, slots := 0, locals := 42 } : Room) s m args below meth c s.heap [] 0 0 (MQ below (k2_QcV (.int (sC_unlike (rN_ S) (rC S) ((nI k))))) args s 0 0 (fun _ => False)) (F0 m 25 ls []) := by
            intro r
            induction r with
            | zero => intro acc2 y hy hr2 ha2; intros; exact absurd hr2 (by omega)
            | succ r ih =>
              intro acc2 y hy hr2 ha2 ls hl
              have ih_25 := ih
              refine lv_iload hx hb dX3_unlike_25 (lv_at hl 4 rfl) ?_
              refine lv_aload_n hx hb dX3_unlike_27 rfl (lv_at hl 0 rfl) ?_
              refine lv_iload_n hx hb dX3_unlike_28 rfl (lv_at hl 1 rfl) ?_
              refine g_callV (25) (C := RX3) (T := TX3) (N := 7) (ci := 2) (As := [.int (nI (k))]) (rest := [.int (nI (y))]) (c_X3_numbers l hI (k := k) hk5 h4k) (cwV 1 hts gX3_unlike_X3_numbers rfl rfl rfl (by decide +kernel) ⟨Nat.le_of_ble_eq_true rfl, Nat.le_of_ble_eq_true rfl⟩) hx hb hml hown hts hK hP  (by decide) rfl rfl rfl hl.1 rfl (Nat.le_of_ble_eq_true rfl) (Nat.zero_le _) (Nat.zero_le _) dX3_unlike_29 ?_
              refine n_ge (tgt := 68) hx hb dX3_unlike_32 (by decide) (by omega) (by omega) (fun h_32 => ?_) (fun h_32 => ?_)
              · refine n_iinc 3 1 (lv' := [(3, .int (nI (x0 + 1))), (0, .ref (ad (25))), (1, .int (nI (k))), (2, .int (nI (acc2))), (4, .int (nI (y)))]) hx hb dX3_unlike_68 hl rfl (by decide) rfl (fun ls hl => ?_)
                refine n_goto 13 hx hb dX3_unlike_71 (by decide) ?_
                exact ih_13 (acc2) (x0 + 1) (by omega) (by omega) (by rw [ha2, sm_s, show y = 2 ^ S 26 k by omega]) _ (lv_sub hl [1, 2, 3, 0] rfl)
              · refine lv_iload_n hx hb dX3_unlike_35 rfl (lv_at hl 2 rfl) ?_
                refine lv_aload_n hx hb dX3_unlike_36 rfl (lv_at hl 0 rfl) ?_
                refine lv_iload_n hx hb dX3_unlike_37 rfl (lv_at hl 1 rfl) ?_
                refine lv_iload_n hx hb dX3_unlike_38 rfl (lv_at hl 3 rfl) ?_
                refine lv_iload hx hb dX3_unlike_39 (lv_at hl 4 rfl) ?_
                refine g_callV (25) (C := RX3) (T := TX3) (N := 7) (ci := 2) (As := [.int (nI (k)), .int (nI (x0)), .int (nI (y))]) (rest := [.int (nI (acc2))]) (c_X3_times l hI (k := k) hk5 h4k (X := x0) (Y := y) (by omega) (by omega)) (cwV 3 hts gX3_unlike_X3_times rfl rfl rfl (by decide +kernel) ⟨Nat.le_of_ble_eq_true rfl, Nat.le_of_ble_eq_true rfl⟩) hx hb hml hown hts hK hP  (by decide) rfl rfl rfl hl.1 rfl (Nat.le_of_ble_eq_true rfl) (Nat.zero_le _) (Nat.zero_le _) dX3_unlike_41 ?_
                refine lv_aload_n hx hb dX3_unlike_44 rfl (lv_at hl 0 rfl) ?_
                refine lv_iload_n hx hb dX3_unlike_45 rfl (lv_at hl 1 rfl) ?_
                refine lv_iload hx hb dX3_unlike_46 (lv_at hl 4 rfl) ?_
                refine lv_iload_n hx hb dX3_unlike_48 rfl (lv_at hl 3 rfl) ?_
                refine g_callV (25) (C := RX3) (T := TX3) (N := 7) (ci := 2) (As := [.int (nI (k)), .int (nI (y)), .int (nI (x0))]) (rest := [.int (nI (tm (S 26 k) (rC S k) x0 y)), .int (nI (acc2))]) (c_X3_times l hI (k := k) hk5 h4k (X := y) (Y := x0) (by omega) (by omega)) (cwV 3 hts gX3_unlike_X3_times rfl rfl rfl (by decide +kernel) ⟨Nat.le_of_ble_eq_true rfl, Nat.le_of_ble_eq_true rfl⟩) hx hb hml hown hts hK hP  (by decide) rfl rfl rfl hl.1 rfl (Nat.le_of_ble_eq_true rfl) (Nat.zero_le _) (Nat.zero_le _) dX3_unlike_49 ?_
                have hm9 := tm_lt hcbk x0 y
                have hm8 := tm_lt hcbk y x0
                refine n_ceq (tgt := 59) hx hb dX3_unlike_52 (by decide) (by omega) (by omega) (fun h_52 => ?_) (fun h_52 => ?_)
                · refine n_iconst 0 hx hb dX3_unlike_59 ?_
                  refine n_iadd hx hb dX3_unlike_60 ?_
                  refine lv_istore_n (lv' := [(2, .int (nI (acc2 + 0))), (0, .ref (ad (25))), (1, .int (nI (k))), (3, .int (nI (x0))), (4, .int (nI (y)))]) hx hb dX3_unlike_61 rfl hl (by decide) rfl (fun ls hl => ?_)
                  refine n_iinc 4 1 (lv' := [(4, .int (nI (y + 1))), (2, .int (nI (acc2 + 0))), (0, .ref (ad (25))), (1, .int (nI (k))), (3, .int (nI (x0)))]) hx hb dX3_unlike_62 hl rfl (by decide) rfl (fun ls hl => ?_)
                  refine n_goto 25 hx hb dX3_unlike_65 (by decide) ?_
                  exact ih_25 (acc2 + 0) (y + 1) (by omega) (by omega) (by rw [ha2, cnt_n (p := (fun y => !(tm (S 26 k) (rC S k) x0 y == tm (S 26 k) (rC S k) y x0))) (by rw [bT h_52]; rfl)]; rfl) _ (lv_sub hl [2, 3, 1, 4, 0] rfl)
                · refine n_iconst 1 hx hb dX3_unlike_55 ?_
                  refine n_goto 60 hx hb dX3_unlike_56 (by decide) ?_
                  refine n_iadd hx hb dX3_unlike_60 ?_
                  refine lv_istore_n (lv' := [(2, .int (nI (acc2 + 1))), (0, .ref (ad (25))), (1, .int (nI (k))), (3, .int (nI (x0))), (4, .int (nI (y)))]) hx hb dX3_unlike_61 rfl hl (by decide) rfl (fun ls hl => ?_)
                  refine n_iinc 4 1 (lv' := [(4, .int (nI (y + 1))), (2, .int (nI (acc2 + 1))), (0, .ref (ad (25))), (1, .int (nI (k))), (3, .int (nI (x0)))]) hx hb dX3_unlike_62 hl rfl (by decide) rfl (fun ls hl => ?_)
                  refine n_goto 25 hx hb dX3_unlike_65 (by decide) ?_
                  exact ih_25 (acc2 + 1) (y + 1) (by omega) (by omega) (by rw [ha2, cnt_y (p := (fun y => !(tm (S 26 k) (rC S k) x0 y == tm (S 26 k) (rC S k) y x0))) (by rw [bF h_52]; rfl), Nat.add_assoc]) _ (lv_sub hl [2, 3, 1, 4, 0] rfl)
          exact L_25 (2 ^ S 26 k + 1) (acc) (0) (Nat.zero_le _) (by omega) (by rw [ha]; rfl) _ (lv_sub hl [1, 2, 3, 4, 0] rfl)
    exact L_13 (2 ^ S 26 k + 1) (0) (0) (Nat.zero_le _) (by omega) rfl _ (lv_sub hl [2, 3, 1, 0] rfl)
  · refine lv_iconst (v := (-1)) hx hb dX3_unlike_7 (by decide) ?_
    exact g_iret hx hb hrt hlocks dX3_unlike_8 (by unfold sC_unlike; (try dsimp only [rN_]); rw [rg_n h_4])
set_option maxHeartbeats 4000000 in
set_option maxRecDepth 100000 in
theorem c_X3_image (l : Launch) {D : va_G} {tys : List (ClassId × FieldType)} {ad : Nat → Nat} {cI cW cM : ClassId} {tI : Nat} {S : Nat → Nat → Nat} (hI : tys[tI]? = some (cI, .int)) {g : Nat} (hg : g < 3) {X : Nat} (hX : X < 2 ^ 31) : Met l yX3_image wsX3_image ({ frames := 0, cells := 0, slots := 0, locals := 0 } : Room) (va_Pc [.ref (ad (25)), .int (nI (g)), .int (nI (X))] (PB D tys 33 ad (gE cI cW cM ad S))) (k2_QcV (.int (nI (im (rM S g) X)))) 0 0 (fun _ => False) := by
  refine g_pure (cc := cX3_image) (maxL := 5) (ret := (some .int)) (by decide) rfl (Nat.le_of_ble_eq_true rfl) ?_
  intro p e s m args below meth c hx hb hrt hts hown hlocks hml hP hK ls hl
  show W p l e ({ frames := 0, cells := 0, slots := 0, locals := 0 } : Room) s m args below meth c s.heap [] 0 0 _ _
  have hl : lv_has ls 5 [(0, .ref (ad (25))), (1, .int (nI (g))), (2, .int (nI (X)))] := hl
  refine n_iconst 0 hx hb dX3_image_0 ?_
  refine lv_istore_n (lv' := [(3, .int (nI (0))), (0, .ref (ad (25))), (1, .int (nI (g))), (2, .int (nI (X)))]) hx hb dX3_image_1 rfl hl (by decide) rfl (fun ls hl => ?_)
  refine n_iconst 0 hx hb dX3_image_2 ?_
  refine lv_istore (lv' := [(4, .int (nI (0))), (3, .int (nI (0))), (0, .ref (ad (25))), (1, .int (nI (g))), (2, .int (nI (X)))]) hx hb dX3_image_3 hl (by decide) rfl (fun ls hl => ?_)
  have L_5 : ∀ (r : Nat) (acc : Nat) (i : Nat), (i ≤ 4) → (4 < i + r) → (acc = xs (fun i => if X.testBit i then rM S g i else 0) i) → ∀ (ls : Array Slot), lv_has ls 5 [(0, .ref (ad (25))), (1, .int (nI (g))), (2, .int (nI (X))), (3, .int (nI (acc))), (4, .int (nI (i)))] → W p l e ({ frames := 0, cells := 0, slots := 0, locals := 0 } : Room) s m args below meth c s.heap [] 0 0 (MQ below (k2_QcV (.int (nI (im (rM S g) X)))) args s 0 0 (fun _ => False)) (F0 m 5 ls []) := by
    intro r
    induction r with
    | zero => intro acc i hi hr ha; intros; exact absurd hr (by omega)
    | succ r ih =>
      intro acc i hi hr ha ls hl
      have ih_5 := ih
      refine lv_iload hx hb dX3_image_5 (lv_at hl 4 rfl) ?_
      refine n_iconst 4 hx hb dX3_image_7 ?_
      refine n_ge (tgt := 45) hx hb dX3_image_8 (by decide) (by omega) (by omega) (fun h_8 => ?_) (fun h_8 => ?_)
      · refine lv_iload_n hx hb dX3_image_45 rfl (lv_at hl 3 rfl) ?_
        exact g_iret hx hb hrt hlocks dX3_image_46 (by rw [ha, show i = 4 by omega]; rfl)
      · refine lv_iload_n hx hb dX3_image_11 rfl (lv_at hl 3 rfl) ?_
        refine lv_iload_n hx hb dX3_image_12 rfl (lv_at hl 2 rfl) ?_
        refine lv_iload hx hb dX3_image_13 (lv_at hl 4 rfl) ?_
        refine n_ishr hx hb dX3_image_15 hX (by omega) ?_
        refine n_iconst 1 hx hb dX3_image_16 ?_
        refine n_iand hx hb dX3_image_17 ?_
        refine n_iconst 1 hx hb dX3_image_18 ?_
        refine n_cne (tgt := 36) hx hb dX3_image_19 (by decide) (and1_lt _) (by decide) (fun h_19 => ?_) (fun h_19 => ?_)
        · refine n_iconst 0 hx hb dX3_image_36 ?_
          refine n_ixor hx hb dX3_image_37 ?_
          refine lv_istore_n (lv' := [(3, .int (nI (acc ^^^ 0))), (0, .ref (ad (25))), (1, .int (nI (g))), (2, .int (nI (X))), (4, .int (nI (i)))]) hx hb dX3_image_38 rfl hl (by decide) rfl (fun ls hl => ?_)
          refine n_iinc 4 1 (lv' := [(4, .int (nI (i + 1))), (3, .int (nI (acc ^^^ 0))), (0, .ref (ad (25))), (1, .int (nI (g))), (2, .int (nI (X)))]) hx hb dX3_image_39 hl rfl (by decide) rfl (fun ls hl => ?_)
          refine n_goto 5 hx hb dX3_image_42 (by decide) ?_
          exact ih_5 (acc ^^^ 0) (i + 1) (by omega) (by omega) (by rw [ha, im_n (fun z => h_19 ((bit1' X i).mpr z)), Nat.xor_zero]) _ (lv_sub hl [2, 3, 4, 1, 0] rfl)
        · refine lv_aload_n hx hb dX3_image_22 rfl (lv_at hl 0 rfl) ?_
          refine g_get (25) 2 (C := RX3) (T := TX3) (N := 7) (ci := 2) (ref := "CubeWorldsModel") hx hb hts (by decide +kernel) hown hK hP (by decide) rfl rfl (by decide) (by decide +kernel) rfl rfl dX3_image_23 ?_
          refine n_iconst 4 hx hb dX3_image_26 ?_
          refine lv_iload_n hx hb dX3_image_27 rfl (lv_at hl 1 rfl) ?_
          refine n_imul hx hb dX3_image_28 ?_
          refine lv_iload hx hb dX3_image_29 (lv_at hl 4 rfl) ?_
          refine n_iadd hx hb dX3_image_31 ?_
          refine g_iald (28) ((4 * g) + i) (t0 := _) hx hb hK hP (by decide) (gI (S := S) 28 12 rfl (by decide)) hI (by omega) (by decide) dX3_image_32 ?_
          refine n_eq (show nI ((S 28) ((4 * g) + i)) = nI (rM S g i) from rfl) ?_
          refine n_goto 37 hx hb dX3_image_33 (by decide) ?_
          refine n_ixor hx hb dX3_image_37 ?_
          refine lv_istore_n (lv' := [(3, .int (nI (acc ^^^ (rM S g i)))), (0, .ref (ad (25))), (1, .int (nI (g))), (2, .int (nI (X))), (4, .int (nI (i)))]) hx hb dX3_image_38 rfl hl (by decide) rfl (fun ls hl => ?_)
          refine n_iinc 4 1 (lv' := [(4, .int (nI (i + 1))), (3, .int (nI (acc ^^^ (rM S g i)))), (0, .ref (ad (25))), (1, .int (nI (g))), (2, .int (nI (X)))]) hx hb dX3_image_39 hl rfl (by decide) rfl (fun ls hl => ?_)
          refine n_goto 5 hx hb dX3_image_42 (by decide) ?_
          exact ih_5 (acc ^^^ (rM S g i)) (i + 1) (by omega) (by omega) (by rw [ha, im_y ((bit1' X i).mp h_19)]) _ (lv_sub hl [2, 3, 4, 1, 0] rfl)
  exact L_5 5 (0) (0) (Nat.zero_le _) (by omega) rfl _ (lv_sub hl [2, 3, 4, 1, 0] rfl)
set_option maxHeartbeats 4000000 in
set_option maxRecDepth 100000 in
theorem c_X3_gives (l : Launch) {D : va_G} {tys : List (ClassId × FieldType)} {ad : Nat → Nat} {cI cW cM : ClassId} {tI : Nat} {S : Nat → Nat → Nat} (hI : tys[tI]? = some (cI, .int)) (hRF : RF S) {a x : Int32} : Met l yX3_gives wsX3_gives ({ frames := 2, cells := 0, slots := 0, locals := 42 } : Room) (va_Pc [.ref (ad (25)), .int (a), .int (x)] (PB D tys 33 ad (gE cI cW cM ad S))) (k2_QcV (.int (sC_gives (rM S) a x))) 0 0 (fun _ => False) := by
  refine g_pure (cc := cX3_gives) (maxL := 3) (ret := (some .int)) (by decide) rfl (Nat.le_of_ble_eq_true rfl) ?_
  intro p e s m args below meth c hx hb hrt hts hown hlocks hml hP hK ls hl
  show W p l e ({ frames := 2, cells := 0, slots := 0, locals := 42 } : Room) s m args below meth c s.heap [] 0 0 _ _
  have hl : lv_has ls 3 [(0, .ref (ad (25))), (1, .int (a)), (2, .int (x))] := hl
  refine lv_iload_n hx hb dX3_gives_0 rfl (lv_at hl 1 rfl) ?_
  refine g_callS (As := [.int (a)]) (rest := []) (c_X3_isMap l hI (v := a)) (va_cwS 1 hts gX3_gives_X3_isMap rfl rfl rfl (by decide +kernel) ⟨Nat.le_of_ble_eq_true rfl, Nat.le_of_ble_eq_true rfl⟩) hx hb hml hown hts hK hP  rfl hl.1 rfl (Nat.le_of_ble_eq_true rfl) (Nat.zero_le _) (Nat.zero_le _) dX3_gives_1 ?_
  refine n_ifne_b (tgt := 9) hx hb dX3_gives_4 (by decide) (fun h_4 => ?_) (fun h_4 => ?_)
  · obtain ⟨g, hg1, hg2, e9⟩ := rB_some (by omega) (by omega) h_4
    subst e9
    refine lv_iload_n hx hb dX3_gives_9 rfl (lv_at hl 2 rfl) ?_
    refine n_iconst 0 hx hb dX3_gives_10 ?_
    refine lv_bipush (v := nI 15) hx hb dX3_gives_11 (by decide) ?_
    refine g_callS (As := [.int (x), .int (nI (0)), .int (nI (15))]) (rest := []) (c_X3_in l hI (v := x) (lo := 0) (hi := 15)) (va_cwS 3 hts gX3_gives_X3_in rfl rfl rfl (by decide +kernel) ⟨Nat.le_of_ble_eq_true rfl, Nat.le_of_ble_eq_true rfl⟩) hx hb hml hown hts hK hP  rfl hl.1 rfl (Nat.le_of_ble_eq_true rfl) (Nat.zero_le _) (Nat.zero_le _) dX3_gives_13 ?_
    refine n_ifeq_b (tgt := 28) hx hb dX3_gives_16 (by decide) (fun h_16 => ?_) (fun h_16 => ?_)
    · refine lv_bipush (v := (-2)) hx hb dX3_gives_28 (by decide) ?_
      exact g_iret hx hb hrt hlocks dX3_gives_30 (by unfold sC_gives; (try dsimp only [rN_]); rw [rg_y (by omega) (by omega) (by omega), rg_n h_16])
    · obtain ⟨X, hX1, hX2, e9⟩ := rB_some (by omega) (by omega) h_16
      subst e9
      refine lv_aload_n hx hb dX3_gives_19 rfl (lv_at hl 0 rfl) ?_
      refine lv_iload_n hx hb dX3_gives_20 rfl (lv_at hl 1 rfl) ?_
      refine lv_iload_n hx hb dX3_gives_21 rfl (lv_at hl 2 rfl) ?_
      refine g_callV (25) (C := RX3) (T := TX3) (N := 7) (ci := 2) (As := [.int (nI (g)), .int (nI (X))]) (rest := []) (c_X3_image l hI (g := g) (by omega) (X := X) (by omega)) (cwV 2 hts gX3_gives_X3_image rfl rfl rfl (by decide +kernel) ⟨Nat.le_of_ble_eq_true rfl, Nat.le_of_ble_eq_true rfl⟩) hx hb hml hown hts hK hP  (by decide) rfl rfl rfl hl.1 rfl (Nat.le_of_ble_eq_true rfl) (Nat.zero_le _) (Nat.zero_le _) dX3_gives_22 ?_
      refine n_goto 30 hx hb dX3_gives_25 (by decide) ?_
      exact g_iret hx hb hrt hlocks dX3_gives_30 (by unfold sC_gives; (try dsimp only [rN_]); rw [rg_y (by omega) (by omega) (by omega), rg_y (by omega) (by omega) (by omega)])
  · refine lv_iconst (v := (-1)) hx hb dX3_gives_7 (by decide) ?_
    exact g_iret hx hb hrt hlocks dX3_gives_8 (by unfold sC_gives; (try dsimp only [rN_]); rw [rg_n h_4])
set_option maxHeartbeats 4000000 in
set_option maxRecDepth 100000 in
theorem c_X3_isFit (l : Launch) {D : va_G} {tys : List (ClassId × FieldType)} {ad : Nat → Nat} {cI cW cM : ClassId} {tI : Nat} {S : Nat → Nat → Nat} (hI : tys[tI]? = some (cI, .int)) {g : Nat} (hg : g < 3) {N : Nat} (hN : N ≤ 4) (hf : ∀ i, i < 4 → rM S g i < 16) : Met l yX3_isFit wsX3_isFit ({ frames := 1, cells := 0, slots := 0, locals := 24 } : Room) (va_Pc [.ref (ad (25)), .int (nI (g)), .int (nI (N))] (PB D tys 33 ad (gE cI cW cM ad S))) (k2_QcV (.int (bI (fitB (rM S g) N)))) 0 0 (fun _ => False) := by
  have p4 := pow4 hN
  have p6 := p16 p4
  have p8 : 0 < 2 ^ 2 ^ N := Nat.pow_pos (by decide)
  refine g_pure (cc := cX3_isFit) (maxL := 5) (ret := (some .boolean)) (by decide) rfl (Nat.le_of_ble_eq_true rfl) ?_
  intro p e s m args below meth c hx hb hrt hts hown hlocks hml hP hK ls hl
  show W p l e ({ frames := 1, cells := 0, slots := 0, locals := 24 } : Room) s m args below meth c s.heap [] 0 0 _ _
  have hl : lv_has ls 5 [(0, .ref (ad (25))), (1, .int (nI (g))), (2, .int (nI (N)))] := hl
  refine n_iconst 0 hx hb dX3_isFit_0 ?_
  refine lv_istore_n (lv' := [(3, .int (nI (0))), (0, .ref (ad (25))), (1, .int (nI (g))), (2, .int (nI (N)))]) hx hb dX3_isFit_1 rfl hl (by decide) rfl (fun ls hl => ?_)
  refine n_iconst 0 hx hb dX3_isFit_2 ?_
  refine lv_istore (lv' := [(4, .int (nI (0))), (3, .int (nI (0))), (0, .ref (ad (25))), (1, .int (nI (g))), (2, .int (nI (N)))]) hx hb dX3_isFit_3 hl (by decide) rfl (fun ls hl => ?_)
  have L_5 : ∀ (r : Nat) (acc : Nat) (x : Nat), (x ≤ 2 ^ N) → (2 ^ N < x + r) → (acc = os (fun x => 1 <<< im (rM S g) x) x) → ∀ (ls : Array Slot), lv_has ls 5 [(0, .ref (ad (25))), (1, .int (nI (g))), (2, .int (nI (N))), (3, .int (nI (acc))), (4, .int (nI (x)))] → W p l e ({ frames := 1, cells := 0, slots := 0, locals := 24 } : Room) s m args below meth c s.heap [] 0 0 (MQ below (k2_QcV (.int (bI (fitB (rM S g) N)))) args s 0 0 (fun _ => False)) (F0 m 5 ls []) := by
    intro r
    induction r with
    | zero => intro acc x hx9 hr ha; intros; exact absurd hr (by omega)
    | succ r ih =>
      intro acc x hx9 hr ha ls hl
      have ih_5 := ih
      refine lv_iload hx hb dX3_isFit_5 (lv_at hl 4 rfl) ?_
      refine n_iconst 1 hx hb dX3_isFit_7 ?_
      refine lv_iload_n hx hb dX3_isFit_8 rfl (lv_at hl 2 rfl) ?_
      refine n_ishl hx hb dX3_isFit_9 (by omega) ?_
      refine n_eq (show nI (1 <<< N) = nI (2 ^ N) from by rw [shl1]) ?_
      refine n_ge (tgt := 31) hx hb dX3_isFit_10 (by decide) (by omega) (by omega) (fun h_10 => ?_) (fun h_10 => ?_)
      · refine lv_iload_n hx hb dX3_isFit_31 rfl (lv_at hl 3 rfl) ?_
        refine n_iconst 1 hx hb dX3_isFit_32 ?_
        refine n_iconst 1 hx hb dX3_isFit_33 ?_
        refine lv_iload_n hx hb dX3_isFit_34 rfl (lv_at hl 2 rfl) ?_
        refine n_ishl hx hb dX3_isFit_35 (by omega) ?_
        refine n_eq (show nI (1 <<< N) = nI (2 ^ N) from by rw [shl1]) ?_
        refine n_ishl hx hb dX3_isFit_36 (by omega) ?_
        refine n_eq (show nI (1 <<< (2 ^ N)) = nI (2 ^ 2 ^ N) from by rw [shl1]) ?_
        refine n_iconst 1 hx hb dX3_isFit_37 ?_
        refine n_isub hx hb dX3_isFit_38 (by omega) ?_
        have hos : acc < 2 ^ 16 := by rw [ha]; exact os_lt (fun i hi => shl1_lt (im16 hf i))
        refine n_cne (tgt := 46) hx hb dX3_isFit_39 (by decide) (by omega) (by omega) (fun h_39 => ?_) (fun h_39 => ?_)
        · refine n_iconst 0 hx hb dX3_isFit_46 ?_
          exact g_zret (false) hx hb hrt hlocks dX3_isFit_47 rfl (by rw [← fit_eq, show fitR (rM S g) N = false from decide_eq_false (by have e9 : x = 2 ^ N := (by omega); rw [e9] at ha; rw [← ha]; exact h_39)])
        · refine n_iconst 1 hx hb dX3_isFit_42 ?_
          refine n_goto 47 hx hb dX3_isFit_43 (by decide) ?_
          exact g_zret (true) hx hb hrt hlocks dX3_isFit_47 rfl (by rw [← fit_eq, show fitR (rM S g) N = true from decide_eq_true (by have e9 : x = 2 ^ N := (by omega); rw [e9] at ha; rw [← ha]; exact h_39)])
      · refine lv_iload_n hx hb dX3_isFit_13 rfl (lv_at hl 3 rfl) ?_
        refine n_iconst 1 hx hb dX3_isFit_14 ?_
        refine lv_aload_n hx hb dX3_isFit_15 rfl (lv_at hl 0 rfl) ?_
        refine lv_iload_n hx hb dX3_isFit_16 rfl (lv_at hl 1 rfl) ?_
        refine lv_iload hx hb dX3_isFit_17 (lv_at hl 4 rfl) ?_
        refine g_callV (25) (C := RX3) (T := TX3) (N := 7) (ci := 2) (As := [.int (nI (g)), .int (nI (x))]) (rest := [.int (nI (1)), .int (nI (acc))]) (c_X3_image l hI (g := g) (by omega) (X := x) (by omega)) (cwV 2 hts gX3_isFit_X3_image rfl rfl rfl (by decide +kernel) ⟨Nat.le_of_ble_eq_true rfl, Nat.le_of_ble_eq_true rfl⟩) hx hb hml hown hts hK hP  (by decide) rfl rfl rfl hl.1 rfl (Nat.le_of_ble_eq_true rfl) (Nat.zero_le _) (Nat.zero_le _) dX3_isFit_19 ?_
        have hm9 := im16 hf x
        refine n_ishl hx hb dX3_isFit_22 (by omega) ?_
        refine n_ior hx hb dX3_isFit_23 ?_
        refine lv_istore_n (lv' := [(3, .int (nI (acc ||| (1 <<< (im (rM S g) x))))), (0, .ref (ad (25))), (1, .int (nI (g))), (2, .int (nI (N))), (4, .int (nI (x)))]) hx hb dX3_isFit_24 rfl hl (by decide) rfl (fun ls hl => ?_)
        refine n_iinc 4 1 (lv' := [(4, .int (nI (x + 1))), (3, .int (nI (acc ||| (1 <<< (im (rM S g) x))))), (0, .ref (ad (25))), (1, .int (nI (g))), (2, .int (nI (N)))]) hx hb dX3_isFit_25 hl rfl (by decide) rfl (fun ls hl => ?_)
        refine n_goto 5 hx hb dX3_isFit_28 (by decide) ?_
        exact ih_5 (acc ||| (1 <<< (im (rM S g) x))) (x + 1) (by omega) (by omega) (by rw [ha]; rfl) _ (lv_sub hl [2, 3, 4, 1, 0] rfl)
  exact L_5 (2 ^ N + 1) (0) (0) (Nat.zero_le _) (by omega) rfl _ (lv_sub hl [2, 3, 4, 1, 0] rfl)
set_option maxHeartbeats 4000000 in
set_option maxRecDepth 100000 in
theorem c_X3_fits (l : Launch) {D : va_G} {tys : List (ClassId × FieldType)} {ad : Nat → Nat} {cI cW cM : ClassId} {tI : Nat} {S : Nat → Nat → Nat} (hI : tys[tI]? = some (cI, .int)) (hRF : RF S) {a x : Int32} : Met l yX3_fits wsX3_fits ({ frames := 2, cells := 0, slots := 0, locals := 48 } : Room) (va_Pc [.ref (ad (25)), .int (a), .int (x)] (PB D tys 33 ad (gE cI cW cM ad S))) (k2_QcV (.int (sC_fits (rM S) a x))) 0 0 (fun _ => False) := by
  refine g_pure (cc := cX3_fits) (maxL := 3) (ret := (some .int)) (by decide) rfl (Nat.le_of_ble_eq_true rfl) ?_
  intro p e s m args below meth c hx hb hrt hts hown hlocks hml hP hK ls hl
  show W p l e ({ frames := 2, cells := 0, slots := 0, locals := 48 } : Room) s m args below meth c s.heap [] 0 0 _ _
  have hl : lv_has ls 3 [(0, .ref (ad (25))), (1, .int (a)), (2, .int (x))] := hl
  refine lv_iload_n hx hb dX3_fits_0 rfl (lv_at hl 1 rfl) ?_
  refine g_callS (As := [.int (a)]) (rest := []) (c_X3_isMap l hI (v := a)) (va_cwS 1 hts gX3_fits_X3_isMap rfl rfl rfl (by decide +kernel) ⟨Nat.le_of_ble_eq_true rfl, Nat.le_of_ble_eq_true rfl⟩) hx hb hml hown hts hK hP  rfl hl.1 rfl (Nat.le_of_ble_eq_true rfl) (Nat.zero_le _) (Nat.zero_le _) dX3_fits_1 ?_
  refine n_ifne_b (tgt := 9) hx hb dX3_fits_4 (by decide) (fun h_4 => ?_) (fun h_4 => ?_)
  · obtain ⟨g, hg1, hg2, e9⟩ := rB_some (by omega) (by omega) h_4
    subst e9
    refine lv_iload_n hx hb dX3_fits_9 rfl (lv_at hl 2 rfl) ?_
    refine n_iconst 1 hx hb dX3_fits_10 ?_
    refine n_iconst 4 hx hb dX3_fits_11 ?_
    refine g_callS (As := [.int (x), .int (nI (1)), .int (nI (4))]) (rest := []) (c_X3_in l hI (v := x) (lo := 1) (hi := 4)) (va_cwS 3 hts gX3_fits_X3_in rfl rfl rfl (by decide +kernel) ⟨Nat.le_of_ble_eq_true rfl, Nat.le_of_ble_eq_true rfl⟩) hx hb hml hown hts hK hP  rfl hl.1 rfl (Nat.le_of_ble_eq_true rfl) (Nat.zero_le _) (Nat.zero_le _) dX3_fits_12 ?_
    refine n_ifne_b (tgt := 23) hx hb dX3_fits_15 (by decide) (fun h_15 => ?_) (fun h_15 => ?_)
    · obtain ⟨N, hN1, hN2, e9⟩ := rB_some (by omega) (by omega) h_15
      subst e9
      refine lv_aload_n hx hb dX3_fits_23 rfl (lv_at hl 0 rfl) ?_
      refine lv_iload_n hx hb dX3_fits_24 rfl (lv_at hl 1 rfl) ?_
      refine lv_iload_n hx hb dX3_fits_25 rfl (lv_at hl 2 rfl) ?_
      refine g_callV (25) (C := RX3) (T := TX3) (N := 7) (ci := 2) (As := [.int (nI (g)), .int (nI (N))]) (rest := []) (c_X3_isFit l hI (g := g) (by omega) (N := N) (by omega) (fun i hi => hRF.2 g (by omega) i hi)) (cwV 2 hts gX3_fits_X3_isFit rfl rfl rfl (by decide +kernel) ⟨Nat.le_of_ble_eq_true rfl, Nat.le_of_ble_eq_true rfl⟩) hx hb hml hown hts hK hP  (by decide) rfl rfl rfl hl.1 rfl (Nat.le_of_ble_eq_true rfl) (Nat.zero_le _) (Nat.zero_le _) dX3_fits_26 ?_
      refine n_ifeq_b (tgt := 36) hx hb dX3_fits_29 (by decide) (fun h_29 => ?_) (fun h_29 => ?_)
      · refine n_iconst 0 hx hb dX3_fits_36 ?_
        exact g_iret hx hb hrt hlocks dX3_fits_37 (by unfold sC_fits; (try dsimp only [rN_]); rw [rg_y (by omega) (by omega) (by omega), rg_y (by omega) (by omega) (by omega), h_29]; rfl)
      · refine n_iconst 1 hx hb dX3_fits_32 ?_
        refine n_goto 37 hx hb dX3_fits_33 (by decide) ?_
        exact g_iret hx hb hrt hlocks dX3_fits_37 (by unfold sC_fits; (try dsimp only [rN_]); rw [rg_y (by omega) (by omega) (by omega), rg_y (by omega) (by omega) (by omega), h_29]; rfl)
    · refine lv_bipush (v := (-2)) hx hb dX3_fits_18 (by decide) ?_
      refine n_goto 37 hx hb dX3_fits_20 (by decide) ?_
      exact g_iret hx hb hrt hlocks dX3_fits_37 (by unfold sC_fits; (try dsimp only [rN_]); rw [rg_y (by omega) (by omega) (by omega), rg_n h_15])
  · refine lv_iconst (v := (-1)) hx hb dX3_fits_7 (by decide) ?_
    exact g_iret hx hb hrt hlocks dX3_fits_8 (by unfold sC_fits; (try dsimp only [rN_]); rw [rg_n h_4])
set_option maxHeartbeats 4000000 in
set_option maxRecDepth 100000 in
theorem c_X3_isPlace (l : Launch) {D : va_G} {tys : List (ClassId × FieldType)} {ad : Nat → Nat} {cI cW cM : ClassId} {tI : Nat} {S : Nat → Nat → Nat} (hI : tys[tI]? = some (cI, .int)) {k : Nat} (hk5 : k < 5) (h4k : S 26 k ≤ 4) {v : Int32} : Met l yX3_isPlace wsX3_isPlace ({ frames := 1, cells := 0, slots := 0, locals := 22 } : Room) (va_Pc [.ref (ad (25)), .int (nI (k)), .int (v)] (PB D tys 33 ad (gE cI cW cM ad S))) (k2_QcV (.int (bI (rB 0 (2 ^ S 26 k * 2 ^ S 26 k + 2 ^ S 26 k) v)))) 0 0 (fun _ => False) := by
  refine g_pure (cc := cX3_isPlace) (maxL := 4) (ret := (some .boolean)) (by decide) rfl (Nat.le_of_ble_eq_true rfl) ?_
  intro p e s m args below meth c hx hb hrt hts hown hlocks hml hP hK ls hl
  show W p l e ({ frames := 1, cells := 0, slots := 0, locals := 22 } : Room) s m args below meth c s.heap [] 0 0 _ _
  have hl : lv_has ls 4 [(0, .ref (ad (25))), (1, .int (nI (k))), (2, .int (v))] := hl
  refine lv_aload_n hx hb dX3_isPlace_0 rfl (lv_at hl 0 rfl) ?_
  refine lv_iload_n hx hb dX3_isPlace_1 rfl (lv_at hl 1 rfl) ?_
  refine g_callV (25) (C := RX3) (T := TX3) (N := 7) (ci := 2) (As := [.int (nI (k))]) (rest := []) (c_X3_numbers l hI (k := k) hk5 h4k) (cwV 1 hts gX3_isPlace_X3_numbers rfl rfl rfl (by decide +kernel) ⟨Nat.le_of_ble_eq_true rfl, Nat.le_of_ble_eq_true rfl⟩) hx hb hml hown hts hK hP  (by decide) rfl rfl rfl hl.1 rfl (Nat.le_of_ble_eq_true rfl) (Nat.zero_le _) (Nat.zero_le _) dX3_isPlace_2 ?_
  refine lv_istore_n (lv' := [(3, .int (nI (2 ^ S 26 k))), (0, .ref (ad (25))), (1, .int (nI (k))), (2, .int (v))]) hx hb dX3_isPlace_5 rfl hl (by decide) rfl (fun ls hl => ?_)
  refine lv_iload_n hx hb dX3_isPlace_6 rfl (lv_at hl 3 rfl) ?_
  refine n_iconst 0 hx hb dX3_isPlace_7 ?_
  refine lv_iload_n hx hb dX3_isPlace_8 rfl (lv_at hl 0 rfl) ?_
  refine lv_iload_n hx hb dX3_isPlace_9 rfl (lv_at hl 0 rfl) ?_
  refine n_imul hx hb dX3_isPlace_10 ?_
  refine lv_iload_n hx hb dX3_isPlace_11 rfl (lv_at hl 0 rfl) ?_
  refine n_iadd hx hb dX3_isPlace_12 ?_
  refine g_callS (As := [.int (v), .int (nI (0)), .int (nI (((2 ^ S 26 k) * (2 ^ S 26 k)) + (2 ^ S 26 k)))]) (rest := []) (c_X3_in l hI (v := v) (lo := 0) (hi := ((2 ^ S 26 k) * (2 ^ S 26 k)) + (2 ^ S 26 k))) (va_cwS 3 hts gX3_isPlace_X3_in rfl rfl rfl (by decide +kernel) ⟨Nat.le_of_ble_eq_true rfl, Nat.le_of_ble_eq_true rfl⟩) hx hb hml hown hts hK hP  rfl hl.1 rfl (Nat.le_of_ble_eq_true rfl) (Nat.zero_le _) (Nat.zero_le _) dX3_isPlace_13 ?_
  exact g_zret (rB 0 (((2 ^ S 26 k) * (2 ^ S 26 k)) + (2 ^ S 26 k)) v) hx hb hrt hlocks dX3_isPlace_16 rfl rfl
set_option maxHeartbeats 4000000 in
set_option maxRecDepth 100000 in
theorem c_X3_isOn (l : Launch) {D : va_G} {tys : List (ClassId × FieldType)} {ad : Nat → Nat} {cI cW cM : ClassId} {tI : Nat} {S : Nat → Nat → Nat} (hI : tys[tI]? = some (cI, .int)) {k : Nat} (hk5 : k < 5) (h4k : S 26 k ≤ 4) (hcb : CB (S 26 k) (rC S k)) {A0 B0 : Nat} (hA0 : A0 ≤ 2 ^ S 26 k * 2 ^ S 26 k + 2 ^ S 26 k) (hB0 : B0 ≤ 2 ^ S 26 k * 2 ^ S 26 k + 2 ^ S 26 k) : Met l yX3_isOn wsX3_isOn ({ frames := 1, cells := 0, slots := 0, locals := 26 } : Room) (va_Pc [.ref (ad (25)), .int (nI (k)), .int (nI (A0)), .int (nI (B0))] (PB D tys 33 ad (gE cI cW cM ad S))) (k2_QcV (.int (bI (lsB (S 26 k) (rC S k) A0 B0)))) 0 0 (fun _ => False) := by
  have p4 := pow4 h4k
  have p0 : 0 < 2 ^ S 26 k := Nat.pow_pos (by decide)
  have p16 := sq4 p4
  have r1 := shr_le A0 (S 26 k)
  have r2 := shr_le B0 (S 26 k)
  have w1 := lw_lt (S 26 k) A0
  have w2 := lw_lt (S 26 k) B0
  have w3 := tm_lt hcb (B0 >>> S 26 k) (A0 >>> S 26 k)
  have w4 := Nat.xor_lt_two_pow w3 w2
  refine g_pure (cc := cX3_isOn) (maxL := 6) (ret := (some .boolean)) (by decide) rfl (Nat.le_of_ble_eq_true rfl) ?_
  intro p e s m args below meth c hx hb hrt hts hown hlocks hml hP hK ls hl
  show W p l e ({ frames := 1, cells := 0, slots := 0, locals := 26 } : Room) s m args below meth c s.heap [] 0 0 _ _
  have hl : lv_has ls 6 [(0, .ref (ad (25))), (1, .int (nI (k))), (2, .int (nI (A0))), (3, .int (nI (B0)))] := hl
  refine lv_aload_n hx hb dX3_isOn_0 rfl (lv_at hl 0 rfl) ?_
  refine lv_iload_n hx hb dX3_isOn_1 rfl (lv_at hl 1 rfl) ?_
  refine g_callV (25) (C := RX3) (T := TX3) (N := 7) (ci := 2) (As := [.int (nI (k))]) (rest := []) (c_X3_numbers l hI (k := k) hk5 h4k) (cwV 1 hts gX3_isOn_X3_numbers rfl rfl rfl (by decide +kernel) ⟨Nat.le_of_ble_eq_true rfl, Nat.le_of_ble_eq_true rfl⟩) hx hb hml hown hts hK hP  (by decide) rfl rfl rfl hl.1 rfl (Nat.le_of_ble_eq_true rfl) (Nat.zero_le _) (Nat.zero_le _) dX3_isOn_2 ?_
  refine lv_istore (lv' := [(4, .int (nI (2 ^ S 26 k))), (0, .ref (ad (25))), (1, .int (nI (k))), (2, .int (nI (A0))), (3, .int (nI (B0)))]) hx hb dX3_isOn_5 hl (by decide) rfl (fun ls hl => ?_)
  refine lv_iload hx hb dX3_isOn_7 (lv_at hl 0 rfl) ?_
  refine lv_iload hx hb dX3_isOn_9 (lv_at hl 0 rfl) ?_
  refine n_imul hx hb dX3_isOn_11 ?_
  refine lv_istore (lv' := [(5, .int (nI ((2 ^ S 26 k) * (2 ^ S 26 k)))), (4, .int (nI (2 ^ S 26 k))), (0, .ref (ad (25))), (1, .int (nI (k))), (2, .int (nI (A0))), (3, .int (nI (B0)))]) hx hb dX3_isOn_12 hl (by decide) rfl (fun ls hl => ?_)
  refine lv_iload_n hx hb dX3_isOn_14 rfl (lv_at hl 5 rfl) ?_
  refine lv_iload hx hb dX3_isOn_15 (lv_at hl 0 rfl) ?_
  refine lv_iload hx hb dX3_isOn_17 (lv_at hl 1 rfl) ?_
  refine n_iadd hx hb dX3_isOn_19 ?_
  refine n_cne (tgt := 35) hx hb dX3_isOn_20 (by decide) (by omega) (by omega) (fun h_20 => ?_) (fun h_20 => ?_)
  · refine lv_iload_n hx hb dX3_isOn_35 rfl (lv_at hl 5 rfl) ?_
    refine lv_iload hx hb dX3_isOn_36 (lv_at hl 0 rfl) ?_
    refine n_lt (tgt := 73) hx hb dX3_isOn_38 (by decide) (by omega) (by omega) (fun h_38 => ?_) (fun h_38 => ?_)
    · refine lv_iload_n hx hb dX3_isOn_73 rfl (lv_at hl 4 rfl) ?_
      refine lv_iload hx hb dX3_isOn_74 (lv_at hl 0 rfl) ?_
      refine n_ge (tgt := 112) hx hb dX3_isOn_76 (by decide) (by omega) (by omega) (fun h_76 => ?_) (fun h_76 => ?_)
      · refine lv_iload_n hx hb dX3_isOn_112 rfl (lv_at hl 4 rfl) ?_
        refine lv_iload hx hb dX3_isOn_113 (lv_at hl 0 rfl) ?_
        refine lv_iload_n hx hb dX3_isOn_115 rfl (lv_at hl 5 rfl) ?_
        refine lv_iload hx hb dX3_isOn_116 (lv_at hl 1 rfl) ?_
        refine n_idiv hx hb dX3_isOn_118 (by omega) p0 (by omega) ?_
        refine n_eq (show nI (B0 / (2 ^ S 26 k)) = nI (B0 >>> S 26 k) from by rw [shr_pw]) ?_
        refine n_iadd hx hb dX3_isOn_119 ?_
        refine n_cne (tgt := 127) hx hb dX3_isOn_120 (by decide) (by omega) (by omega) (fun h_120 => ?_) (fun h_120 => ?_)
        · refine n_iconst 0 hx hb dX3_isOn_127 ?_
          exact g_zret (false) hx hb hrt hlocks dX3_isOn_128 rfl (by rw [show lsB (S 26 k) (rC S k) A0 B0 = false from by unfold lsB; rw [if_neg h_20, if_neg (Nat.not_le.mpr h_38), if_pos h_76, decide_eq_false h_120]])
        · refine n_iconst 1 hx hb dX3_isOn_123 ?_
          refine n_goto 128 hx hb dX3_isOn_124 (by decide) ?_
          exact g_zret (true) hx hb hrt hlocks dX3_isOn_128 rfl (by rw [show lsB (S 26 k) (rC S k) A0 B0 = true from by unfold lsB; rw [if_neg h_20, if_neg (Nat.not_le.mpr h_38), if_pos h_76, decide_eq_true h_120]])
      · refine lv_aload_n hx hb dX3_isOn_79 rfl (lv_at hl 2 rfl) ?_
        refine lv_iload_n hx hb dX3_isOn_80 rfl (lv_at hl 3 rfl) ?_
        refine lv_iload_n hx hb dX3_isOn_81 rfl (lv_at hl 5 rfl) ?_
        refine lv_iload hx hb dX3_isOn_82 (lv_at hl 1 rfl) ?_
        refine n_idiv hx hb dX3_isOn_84 (by omega) p0 (by omega) ?_
        refine n_eq (show nI (B0 / (2 ^ S 26 k)) = nI (B0 >>> S 26 k) from by rw [shr_pw]) ?_
        refine lv_iload_n hx hb dX3_isOn_85 rfl (lv_at hl 4 rfl) ?_
        refine lv_iload hx hb dX3_isOn_86 (lv_at hl 1 rfl) ?_
        refine n_idiv hx hb dX3_isOn_88 (by omega) p0 (by omega) ?_
        refine n_eq (show nI (A0 / (2 ^ S 26 k)) = nI (A0 >>> S 26 k) from by rw [shr_pw]) ?_
        refine g_callV (25) (C := RX3) (T := TX3) (N := 7) (ci := 2) (As := [.int (nI (k)), .int (nI (B0 >>> S 26 k)), .int (nI (A0 >>> S 26 k))]) (rest := []) (c_X3_times l hI (k := k) hk5 h4k (X := B0 >>> S 26 k) (Y := A0 >>> S 26 k) (by omega) (by omega)) (cwV 3 hts gX3_isOn_X3_times rfl rfl rfl (by decide +kernel) ⟨Nat.le_of_ble_eq_true rfl, Nat.le_of_ble_eq_true rfl⟩) hx hb hml hown hts hK hP  (by decide) rfl rfl rfl hl.1 rfl (Nat.le_of_ble_eq_true rfl) (Nat.zero_le _) (Nat.zero_le _) dX3_isOn_89 ?_
        refine lv_iload_n hx hb dX3_isOn_92 rfl (lv_at hl 5 rfl) ?_
        refine lv_iload hx hb dX3_isOn_93 (lv_at hl 1 rfl) ?_
        refine n_irem hx hb dX3_isOn_95 (by omega) p0 (by omega) ?_
        refine n_eq (show nI (B0 % (2 ^ S 26 k)) = nI (B0 &&& (2 ^ S 26 k - 1)) from by rw [mod_pw]) ?_
        refine n_ixor hx hb dX3_isOn_96 ?_
        refine lv_iload_n hx hb dX3_isOn_97 rfl (lv_at hl 4 rfl) ?_
        refine lv_iload hx hb dX3_isOn_98 (lv_at hl 1 rfl) ?_
        refine n_irem hx hb dX3_isOn_100 (by omega) p0 (by omega) ?_
        refine n_eq (show nI (A0 % (2 ^ S 26 k)) = nI (A0 &&& (2 ^ S 26 k - 1)) from by rw [mod_pw]) ?_
        refine n_cne (tgt := 108) hx hb dX3_isOn_101 (by decide) (by omega) (by omega) (fun h_101 => ?_) (fun h_101 => ?_)
        · refine n_iconst 0 hx hb dX3_isOn_108 ?_
          refine n_goto 128 hx hb dX3_isOn_109 (by decide) ?_
          exact g_zret (false) hx hb hrt hlocks dX3_isOn_128 rfl (by rw [show lsB (S 26 k) (rC S k) A0 B0 = false from by unfold lsB; rw [if_neg h_20, if_neg (Nat.not_le.mpr h_38), if_neg (Nat.not_le.mpr h_76), decide_eq_false h_101]])
        · refine n_iconst 1 hx hb dX3_isOn_104 ?_
          refine n_goto 128 hx hb dX3_isOn_105 (by decide) ?_
          exact g_zret (true) hx hb hrt hlocks dX3_isOn_128 rfl (by rw [show lsB (S 26 k) (rC S k) A0 B0 = true from by unfold lsB; rw [if_neg h_20, if_neg (Nat.not_le.mpr h_38), if_neg (Nat.not_le.mpr h_76), decide_eq_true h_101]])
    · refine lv_iload_n hx hb dX3_isOn_41 rfl (lv_at hl 4 rfl) ?_
      refine lv_iload hx hb dX3_isOn_42 (lv_at hl 0 rfl) ?_
      refine lv_iload hx hb dX3_isOn_44 (lv_at hl 1 rfl) ?_
      refine n_iadd hx hb dX3_isOn_46 ?_
      refine n_ceq (tgt := 67) hx hb dX3_isOn_47 (by decide) (by omega) (by omega) (fun h_47 => ?_) (fun h_47 => ?_)
      · refine n_iconst 1 hx hb dX3_isOn_67 ?_
        refine n_goto 72 hx hb dX3_isOn_68 (by decide) ?_
        exact g_zret (true) hx hb hrt hlocks dX3_isOn_72 rfl (by rw [show lsB (S 26 k) (rC S k) A0 B0 = true from by unfold lsB; rw [if_neg h_20, if_pos h_38, decide_eq_true h_47, Bool.true_or]])
      · refine lv_iload_n hx hb dX3_isOn_50 rfl (lv_at hl 4 rfl) ?_
        refine lv_iload hx hb dX3_isOn_51 (lv_at hl 0 rfl) ?_
        refine n_ge (tgt := 71) hx hb dX3_isOn_53 (by decide) (by omega) (by omega) (fun h_53 => ?_) (fun h_53 => ?_)
        · refine n_iconst 0 hx hb dX3_isOn_71 ?_
          exact g_zret (false) hx hb hrt hlocks dX3_isOn_72 rfl (by rw [show lsB (S 26 k) (rC S k) A0 B0 = false from by unfold lsB; rw [if_neg h_20, if_pos h_38, decide_eq_false h_47, Bool.false_or, decide_eq_false (by have := hp_ge h_53; omega)]])
        · refine lv_iload_n hx hb dX3_isOn_56 rfl (lv_at hl 4 rfl) ?_
          refine lv_iload hx hb dX3_isOn_57 (lv_at hl 1 rfl) ?_
          refine n_idiv hx hb dX3_isOn_59 (by omega) p0 (by omega) ?_
          refine n_eq (show nI (A0 / (2 ^ S 26 k)) = nI (A0 >>> S 26 k) from by rw [shr_pw]) ?_
          refine lv_iload_n hx hb dX3_isOn_60 rfl (lv_at hl 5 rfl) ?_
          refine lv_iload hx hb dX3_isOn_61 (lv_at hl 0 rfl) ?_
          refine n_isub hx hb dX3_isOn_63 (by omega) ?_
          refine n_cne (tgt := 71) hx hb dX3_isOn_64 (by decide) (by omega) (by omega) (fun h_64 => ?_) (fun h_64 => ?_)
          · refine n_iconst 0 hx hb dX3_isOn_71 ?_
            exact g_zret (false) hx hb hrt hlocks dX3_isOn_72 rfl (by rw [show lsB (S 26 k) (rC S k) A0 B0 = false from by unfold lsB; rw [if_neg h_20, if_pos h_38, decide_eq_false h_47, Bool.false_or, decide_eq_false h_64]])
          · refine n_iconst 1 hx hb dX3_isOn_67 ?_
            refine n_goto 72 hx hb dX3_isOn_68 (by decide) ?_
            exact g_zret (true) hx hb hrt hlocks dX3_isOn_72 rfl (by rw [show lsB (S 26 k) (rC S k) A0 B0 = true from by unfold lsB; rw [if_neg h_20, if_pos h_38, decide_eq_false h_47, Bool.false_or, decide_eq_true h_64]])
  · refine lv_iload_n hx hb dX3_isOn_23 rfl (lv_at hl 4 rfl) ?_
    refine lv_iload hx hb dX3_isOn_24 (lv_at hl 0 rfl) ?_
    refine n_lt (tgt := 33) hx hb dX3_isOn_26 (by decide) (by omega) (by omega) (fun h_26 => ?_) (fun h_26 => ?_)
    · refine n_iconst 0 hx hb dX3_isOn_33 ?_
      exact g_zret (false) hx hb hrt hlocks dX3_isOn_34 rfl (by rw [show lsB (S 26 k) (rC S k) A0 B0 = false from by unfold lsB; rw [if_pos h_20, decide_eq_false (Nat.not_le.mpr h_26)]])
    · refine n_iconst 1 hx hb dX3_isOn_29 ?_
      refine n_goto 34 hx hb dX3_isOn_30 (by decide) ?_
      exact g_zret (true) hx hb hrt hlocks dX3_isOn_34 rfl (by rw [show lsB (S 26 k) (rC S k) A0 B0 = true from by unfold lsB; rw [if_pos h_20, decide_eq_true h_26]])
set_option maxHeartbeats 4000000 in
set_option maxRecDepth 100000 in
theorem c_X3_on (l : Launch) {D : va_G} {tys : List (ClassId × FieldType)} {ad : Nat → Nat} {cI cW cM : ClassId} {tI : Nat} {S : Nat → Nat → Nat} (hI : tys[tI]? = some (cI, .int)) (hRF : RF S) {a x y : Int32} : Met l yX3_on wsX3_on ({ frames := 2, cells := 0, slots := 0, locals := 51 } : Room) (va_Pc [.ref (ad (25)), .int (a), .int (x), .int (y)] (PB D tys 33 ad (gE cI cW cM ad S))) (k2_QcV (.int (sC_on (rN_ S) (rC S) a x y))) 0 0 (fun _ => False) := by
  refine g_pure (cc := cX3_on) (maxL := 4) (ret := (some .int)) (by decide) rfl (Nat.le_of_ble_eq_true rfl) ?_
  intro p e s m args below meth c hx hb hrt hts hown hlocks hml hP hK ls hl
  show W p l e ({ frames := 2, cells := 0, slots := 0, locals := 51 } : Room) s m args below meth c s.heap [] 0 0 _ _
  have hl : lv_has ls 4 [(0, .ref (ad (25))), (1, .int (a)), (2, .int (x)), (3, .int (y))] := hl
  refine lv_iload_n hx hb dX3_on_0 rfl (lv_at hl 1 rfl) ?_
  refine g_callS (As := [.int (a)]) (rest := []) (c_X3_isSlot l hI (v := a)) (va_cwS 1 hts gX3_on_X3_isSlot rfl rfl rfl (by decide +kernel) ⟨Nat.le_of_ble_eq_true rfl, Nat.le_of_ble_eq_true rfl⟩) hx hb hml hown hts hK hP  rfl hl.1 rfl (Nat.le_of_ble_eq_true rfl) (Nat.zero_le _) (Nat.zero_le _) dX3_on_1 ?_
  refine n_ifeq_b (tgt := 25) hx hb dX3_on_4 (by decide) (fun h_4 => ?_) (fun h_4 => ?_)
  · refine lv_iconst (v := (-1)) hx hb dX3_on_25 (by decide) ?_
    exact g_iret hx hb hrt hlocks dX3_on_26 (by unfold sC_on; (try dsimp only [rN_]); rw [rg_n h_4])
  · obtain ⟨k, hk1, hk2, e9⟩ := rB_some (by omega) (by omega) h_4
    subst e9
    have hk5 : k < 5 := by omega
    have qk1 := (hRF.1 k (by omega)).1
    have h4k := qk1.2
    have hcbk := (hRF.1 k (by omega)).2
    have qk2 := pow4 h4k
    have qk3 : 0 < 2 ^ S 26 k := Nat.pow_pos (by decide)
    have qk4 := sq4 qk2
    refine lv_aload_n hx hb dX3_on_7 rfl (lv_at hl 0 rfl) ?_
    refine lv_iload_n hx hb dX3_on_8 rfl (lv_at hl 1 rfl) ?_
    refine lv_iload_n hx hb dX3_on_9 rfl (lv_at hl 2 rfl) ?_
    refine g_callV (25) (C := RX3) (T := TX3) (N := 7) (ci := 2) (As := [.int (nI (k)), .int (x)]) (rest := []) (c_X3_isPlace l hI (k := k) hk5 h4k (v := x)) (cwV 2 hts gX3_on_X3_isPlace rfl rfl rfl (by decide +kernel) ⟨Nat.le_of_ble_eq_true rfl, Nat.le_of_ble_eq_true rfl⟩) hx hb hml hown hts hK hP  (by decide) rfl rfl rfl hl.1 rfl (Nat.le_of_ble_eq_true rfl) (Nat.zero_le _) (Nat.zero_le _) dX3_on_10 ?_
    refine n_ifeq_b (tgt := 25) hx hb dX3_on_13 (by decide) (fun h_13 => ?_) (fun h_13 => ?_)
    · refine lv_iconst (v := (-1)) hx hb dX3_on_25 (by decide) ?_
      exact g_iret hx hb hrt hlocks dX3_on_26 (by unfold sC_on; (try dsimp only [rN_]); rw [rg_y (by omega) (by omega) (by omega), rg_n h_13])
    · obtain ⟨X, hX1, hX2, e9⟩ := rB_some (by omega) (by omega) h_13
      subst e9
      refine lv_aload_n hx hb dX3_on_16 rfl (lv_at hl 0 rfl) ?_
      refine lv_iload_n hx hb dX3_on_17 rfl (lv_at hl 1 rfl) ?_
      refine lv_iload_n hx hb dX3_on_18 rfl (lv_at hl 3 rfl) ?_
      refine g_callV (25) (C := RX3) (T := TX3) (N := 7) (ci := 2) (As := [.int (nI (k)), .int (y)]) (rest := []) (c_X3_isPlace l hI (k := k) hk5 h4k (v := y)) (cwV 2 hts gX3_on_X3_isPlace rfl rfl rfl (by decide +kernel) ⟨Nat.le_of_ble_eq_true rfl, Nat.le_of_ble_eq_true rfl⟩) hx hb hml hown hts hK hP  (by decide) rfl rfl rfl hl.1 rfl (Nat.le_of_ble_eq_true rfl) (Nat.zero_le _) (Nat.zero_le _) dX3_on_19 ?_
      refine n_ifne_b (tgt := 27) hx hb dX3_on_22 (by decide) (fun h_22 => ?_) (fun h_22 => ?_)
      · obtain ⟨Y, hY1, hY2, e9⟩ := rB_some (by omega) (by omega) h_22
        subst e9
        refine lv_aload_n hx hb dX3_on_27 rfl (lv_at hl 0 rfl) ?_
        refine lv_iload_n hx hb dX3_on_28 rfl (lv_at hl 1 rfl) ?_
        refine lv_iload_n hx hb dX3_on_29 rfl (lv_at hl 2 rfl) ?_
        refine lv_iload_n hx hb dX3_on_30 rfl (lv_at hl 3 rfl) ?_
        refine g_callV (25) (C := RX3) (T := TX3) (N := 7) (ci := 2) (As := [.int (nI (k)), .int (nI (X)), .int (nI (Y))]) (rest := []) (c_X3_isOn l hI (k := k) hk5 h4k hcbk (A0 := X) (B0 := Y) (by omega) (by omega)) (cwV 3 hts gX3_on_X3_isOn rfl rfl rfl (by decide +kernel) ⟨Nat.le_of_ble_eq_true rfl, Nat.le_of_ble_eq_true rfl⟩) hx hb hml hown hts hK hP  (by decide) rfl rfl rfl hl.1 rfl (Nat.le_of_ble_eq_true rfl) (Nat.zero_le _) (Nat.zero_le _) dX3_on_31 ?_
        refine n_ifeq_b (tgt := 41) hx hb dX3_on_34 (by decide) (fun h_34 => ?_) (fun h_34 => ?_)
        · refine n_iconst 0 hx hb dX3_on_41 ?_
          exact g_iret hx hb hrt hlocks dX3_on_42 (by unfold sC_on; (try dsimp only [rN_]); rw [rg_y (by omega) (by omega) (by omega), rg_y (by omega) (by omega) (by omega), rg_y (by omega) (by omega) (by omega), h_34]; rfl)
        · refine n_iconst 1 hx hb dX3_on_37 ?_
          refine n_goto 42 hx hb dX3_on_38 (by decide) ?_
          exact g_iret hx hb hrt hlocks dX3_on_42 (by unfold sC_on; (try dsimp only [rN_]); rw [rg_y (by omega) (by omega) (by omega), rg_y (by omega) (by omega) (by omega), rg_y (by omega) (by omega) (by omega), h_34]; rfl)
      · refine lv_iconst (v := (-1)) hx hb dX3_on_25 (by decide) ?_
        exact g_iret hx hb hrt hlocks dX3_on_26 (by unfold sC_on; (try dsimp only [rN_]); rw [rg_y (by omega) (by omega) (by omega), rg_y (by omega) (by omega) (by omega), rg_n h_22])
set_option maxHeartbeats 4000000 in
set_option maxRecDepth 100000 in
theorem c_X3_common (l : Launch) {D : va_G} {tys : List (ClassId × FieldType)} {ad : Nat → Nat} {cI cW cM : ClassId} {tI : Nat} {S : Nat → Nat → Nat} (hI : tys[tI]? = some (cI, .int)) {k : Nat} (hk5 : k < 5) (h4k : S 26 k ≤ 4) (hcb : CB (S 26 k) (rC S k)) {A0 B0 : Nat} (hA0 : A0 ≤ 2 ^ S 26 k * 2 ^ S 26 k + 2 ^ S 26 k) (hB0 : B0 ≤ 2 ^ S 26 k * 2 ^ S 26 k + 2 ^ S 26 k) {L : Bool} : Met l yX3_common wsX3_common ({ frames := 2, cells := 0, slots := 0, locals := 51 } : Room) (va_Pc [.ref (ad (25)), .int (nI (k)), .int (nI (A0)), .int (nI (B0)), .int (bI (L))] (PB D tys 33 ad (gE cI cW cM ad S))) (k2_QcV (.int (oI (cmS (S 26 k) (rC S k) L A0 B0)))) 0 0 (fun _ => False) := by
  have p4 := pow4 h4k
  have p0 : 0 < 2 ^ S 26 k := Nat.pow_pos (by decide)
  have p16 := sq4 p4
  refine g_pure (cc := cX3_common) (maxL := 8) (ret := (some .int)) (by decide) rfl (Nat.le_of_ble_eq_true rfl) ?_
  intro p e s m args below meth c hx hb hrt hts hown hlocks hml hP hK ls hl
  show W p l e ({ frames := 2, cells := 0, slots := 0, locals := 51 } : Room) s m args below meth c s.heap [] 0 0 _ _
  have hl : lv_has ls 8 [(0, .ref (ad (25))), (1, .int (nI (k))), (2, .int (nI (A0))), (3, .int (nI (B0))), (4, .int (bI (L)))] := hl
  refine lv_bipush (v := (-9)) hx hb dX3_common_0 (by decide) ?_
  refine lv_istore (lv' := [(5, .int ((-9))), (0, .ref (ad (25))), (1, .int (nI (k))), (2, .int (nI (A0))), (3, .int (nI (B0))), (4, .int (bI (L)))]) hx hb dX3_common_2 hl (by decide) rfl (fun ls hl => ?_)
  refine n_iconst 0 hx hb dX3_common_4 ?_
  refine lv_istore (lv' := [(6, .int (nI (0))), (5, .int ((-9))), (0, .ref (ad (25))), (1, .int (nI (k))), (2, .int (nI (A0))), (3, .int (nI (B0))), (4, .int (bI (L)))]) hx hb dX3_common_5 hl (by decide) rfl (fun ls hl => ?_)
  refine n_iconst 0 hx hb dX3_common_7 ?_
  refine lv_istore (lv' := [(7, .int (nI (0))), (6, .int (nI (0))), (5, .int ((-9))), (0, .ref (ad (25))), (1, .int (nI (k))), (2, .int (nI (A0))), (3, .int (nI (B0))), (4, .int (bI (L)))]) hx hb dX3_common_8 hl (by decide) rfl (fun ls hl => ?_)
  have L_10 : ∀ (r : Nat) (fo : Option Nat) (mc : Nat) (y : Nat), (y ≤ 2 ^ S 26 k * 2 ^ S 26 k + 2 ^ S 26 k + 1) → (2 ^ S 26 k * 2 ^ S 26 k + 2 ^ S 26 k + 1 < y + r) → (fo = la (ptB (S 26 k) (rC S k) L A0 B0) y) → (mc = cnt (ptB (S 26 k) (rC S k) L A0 B0) y) → ∀ (ls : Array Slot), lv_has ls 8 [(0, .ref (ad (25))), (1, .int (nI (k))), (2, .int (nI (A0))), (3, .int (nI (B0))), (4, .int (bI (L))), (5, .int (oI (fo))), (6, .int (nI (mc))), (7, .int (nI (y)))] → W p l e ({ frames := 2, cells := 0, slots := 0, locals := 51 } : Room) s m args below meth c s.heap [] 0 0 (MQ below (k2_QcV (.int (oI (cmS (S 26 k) (rC S k) L A0 B0)))) args s 0 0 (fun _ => False)) (F0 m 10 ls []) := by
    intro r
    induction r with
    | zero => intro fo mc y hy hr hf hc; intros; exact absurd hr (by omega)
    | succ r ih =>
      intro fo mc y hy hr hf hc ls hl
      have ih_10 := ih
      refine lv_aload_n hx hb dX3_common_10 rfl (lv_at hl 0 rfl) ?_
      refine lv_iload_n hx hb dX3_common_11 rfl (lv_at hl 1 rfl) ?_
      refine lv_iload hx hb dX3_common_12 (lv_at hl 7 rfl) ?_
      refine g_callV (25) (C := RX3) (T := TX3) (N := 7) (ci := 2) (As := [.int (nI (k)), .int (nI (y))]) (rest := []) (c_X3_isPlace l hI (k := k) hk5 h4k (v := nI (y))) (cwV 2 hts gX3_common_X3_isPlace rfl rfl rfl (by decide +kernel) ⟨Nat.le_of_ble_eq_true rfl, Nat.le_of_ble_eq_true rfl⟩) hx hb hml hown hts hK hP  (by decide) rfl rfl rfl hl.1 rfl (Nat.le_of_ble_eq_true rfl) (Nat.zero_le _) (Nat.zero_le _) dX3_common_14 ?_
      refine n_ifeq_b (tgt := 85) hx hb dX3_common_17 (by decide) (fun h_17 => ?_) (fun h_17 => ?_)
      · have hq9 := rB_nf (by omega) (by omega) h_17
        refine lv_iload hx hb dX3_common_85 (lv_at hl 6 rfl) ?_
        refine n_iconst 1 hx hb dX3_common_87 ?_
        refine n_cne (tgt := 96) hx hb dX3_common_88 (by decide) (by rw [hc]; have := cnt_le (ptB (S 26 k) (rC S k) L A0 B0) y; omega) (by decide) (fun h_88 => ?_) (fun h_88 => ?_)
        · refine lv_bipush (v := (-9)) hx hb dX3_common_96 (by decide) ?_
          exact g_iret hx hb hrt hlocks dX3_common_98 (by unfold cmS; rw [uq_la, ← show y = 2 ^ S 26 k * 2 ^ S 26 k + 2 ^ S 26 k + 1 by omega, ← hc, ← hf, if_neg h_88]; try rfl)
        · refine lv_iload hx hb dX3_common_91 (lv_at hl 5 rfl) ?_
          refine n_goto 98 hx hb dX3_common_93 (by decide) ?_
          exact g_iret hx hb hrt hlocks dX3_common_98 (by unfold cmS; rw [uq_la, ← show y = 2 ^ S 26 k * 2 ^ S 26 k + 2 ^ S 26 k + 1 by omega, ← hc, ← hf, if_pos h_88]; try rfl)
      · have hq9 := rB_nt (by omega) (by omega) h_17
        refine lv_iload hx hb dX3_common_20 (lv_at hl 4 rfl) ?_
        refine n_ifeq_b (tgt := 50) hx hb dX3_common_22 (by decide) (fun h_22 => ?_) (fun h_22 => ?_)
        · refine lv_aload_n hx hb dX3_common_50 rfl (lv_at hl 0 rfl) ?_
          refine lv_iload_n hx hb dX3_common_51 rfl (lv_at hl 1 rfl) ?_
          refine lv_iload hx hb dX3_common_52 (lv_at hl 7 rfl) ?_
          refine lv_iload_n hx hb dX3_common_54 rfl (lv_at hl 2 rfl) ?_
          refine g_callV (25) (C := RX3) (T := TX3) (N := 7) (ci := 2) (As := [.int (nI (k)), .int (nI (y)), .int (nI (A0))]) (rest := []) (c_X3_isOn l hI (k := k) hk5 h4k hcb (A0 := y) (B0 := A0) (by omega) (by omega)) (cwV 3 hts gX3_common_X3_isOn rfl rfl rfl (by decide +kernel) ⟨Nat.le_of_ble_eq_true rfl, Nat.le_of_ble_eq_true rfl⟩) hx hb hml hown hts hK hP  (by decide) rfl rfl rfl hl.1 rfl (Nat.le_of_ble_eq_true rfl) (Nat.zero_le _) (Nat.zero_le _) dX3_common_55 ?_
          refine n_ifeq_b (tgt := 79) hx hb dX3_common_58 (by decide) (fun h_58 => ?_) (fun h_58 => ?_)
          · refine n_iinc 7 1 (lv' := [(7, .int (nI (y + 1))), (0, .ref (ad (25))), (1, .int (nI (k))), (2, .int (nI (A0))), (3, .int (nI (B0))), (4, .int (bI (L))), (5, .int (oI (fo))), (6, .int (nI (mc)))]) hx hb dX3_common_79 hl rfl (by decide) rfl (fun ls hl => ?_)
            refine n_goto 10 hx hb dX3_common_82 (by decide) ?_
            exact ih_10 (fo) (mc) (y + 1) (by omega) (by omega) (by rw [hf, la_n (p := ptB (S 26 k) (rC S k) L A0 B0) (by unfold ptB; rw [if_neg (by rw [h_22]; decide), h_58]; first | rfl | simp)]) (by rw [hc, cnt_n (p := ptB (S 26 k) (rC S k) L A0 B0) (by unfold ptB; rw [if_neg (by rw [h_22]; decide), h_58]; first | rfl | simp)]) _ (lv_sub hl [1, 2, 3, 4, 5, 6, 7, 0] rfl)
          · refine lv_aload_n hx hb dX3_common_61 rfl (lv_at hl 0 rfl) ?_
            refine lv_iload_n hx hb dX3_common_62 rfl (lv_at hl 1 rfl) ?_
            refine lv_iload hx hb dX3_common_63 (lv_at hl 7 rfl) ?_
            refine lv_iload_n hx hb dX3_common_65 rfl (lv_at hl 3 rfl) ?_
            refine g_callV (25) (C := RX3) (T := TX3) (N := 7) (ci := 2) (As := [.int (nI (k)), .int (nI (y)), .int (nI (B0))]) (rest := []) (c_X3_isOn l hI (k := k) hk5 h4k hcb (A0 := y) (B0 := B0) (by omega) (by omega)) (cwV 3 hts gX3_common_X3_isOn rfl rfl rfl (by decide +kernel) ⟨Nat.le_of_ble_eq_true rfl, Nat.le_of_ble_eq_true rfl⟩) hx hb hml hown hts hK hP  (by decide) rfl rfl rfl hl.1 rfl (Nat.le_of_ble_eq_true rfl) (Nat.zero_le _) (Nat.zero_le _) dX3_common_66 ?_
            refine n_ifeq_b (tgt := 79) hx hb dX3_common_69 (by decide) (fun h_69 => ?_) (fun h_69 => ?_)
            · refine n_iinc 7 1 (lv' := [(7, .int (nI (y + 1))), (0, .ref (ad (25))), (1, .int (nI (k))), (2, .int (nI (A0))), (3, .int (nI (B0))), (4, .int (bI (L))), (5, .int (oI (fo))), (6, .int (nI (mc)))]) hx hb dX3_common_79 hl rfl (by decide) rfl (fun ls hl => ?_)
              refine n_goto 10 hx hb dX3_common_82 (by decide) ?_
              exact ih_10 (fo) (mc) (y + 1) (by omega) (by omega) (by rw [hf, la_n (p := ptB (S 26 k) (rC S k) L A0 B0) (by unfold ptB; rw [if_neg (by rw [h_22]; decide), h_58, h_69]; first | rfl | simp)]) (by rw [hc, cnt_n (p := ptB (S 26 k) (rC S k) L A0 B0) (by unfold ptB; rw [if_neg (by rw [h_22]; decide), h_58, h_69]; first | rfl | simp)]) _ (lv_sub hl [1, 2, 3, 4, 5, 6, 7, 0] rfl)
            · refine lv_iload hx hb dX3_common_72 (lv_at hl 7 rfl) ?_
              refine n_eq (show nI y = oI (some y) from rfl) ?_
              refine lv_istore (lv' := [(5, .int (oI (some y))), (0, .ref (ad (25))), (1, .int (nI (k))), (2, .int (nI (A0))), (3, .int (nI (B0))), (4, .int (bI (L))), (6, .int (nI (mc))), (7, .int (nI (y)))]) hx hb dX3_common_74 hl (by decide) rfl (fun ls hl => ?_)
              refine n_iinc 6 1 (lv' := [(6, .int (nI (mc + 1))), (5, .int (oI (some y))), (0, .ref (ad (25))), (1, .int (nI (k))), (2, .int (nI (A0))), (3, .int (nI (B0))), (4, .int (bI (L))), (7, .int (nI (y)))]) hx hb dX3_common_76 hl rfl (by decide) rfl (fun ls hl => ?_)
              refine n_iinc 7 1 (lv' := [(7, .int (nI (y + 1))), (6, .int (nI (mc + 1))), (5, .int (oI (some y))), (0, .ref (ad (25))), (1, .int (nI (k))), (2, .int (nI (A0))), (3, .int (nI (B0))), (4, .int (bI (L)))]) hx hb dX3_common_79 hl rfl (by decide) rfl (fun ls hl => ?_)
              refine n_goto 10 hx hb dX3_common_82 (by decide) ?_
              exact ih_10 (some y) (mc + 1) (y + 1) (by omega) (by omega) (la_y (p := ptB (S 26 k) (rC S k) L A0 B0) (by unfold ptB; rw [if_neg (by rw [h_22]; decide), h_58, h_69]; first | rfl | simp)).symm (by rw [hc, cnt_y (p := ptB (S 26 k) (rC S k) L A0 B0) (by unfold ptB; rw [if_neg (by rw [h_22]; decide), h_58, h_69]; first | rfl | simp)]) _ (lv_sub hl [3, 4, 5, 6, 7, 2, 1, 0] rfl)
        · refine lv_aload_n hx hb dX3_common_25 rfl (lv_at hl 0 rfl) ?_
          refine lv_iload_n hx hb dX3_common_26 rfl (lv_at hl 1 rfl) ?_
          refine lv_iload_n hx hb dX3_common_27 rfl (lv_at hl 2 rfl) ?_
          refine lv_iload hx hb dX3_common_28 (lv_at hl 7 rfl) ?_
          refine g_callV (25) (C := RX3) (T := TX3) (N := 7) (ci := 2) (As := [.int (nI (k)), .int (nI (A0)), .int (nI (y))]) (rest := []) (c_X3_isOn l hI (k := k) hk5 h4k hcb (A0 := A0) (B0 := y) (by omega) (by omega)) (cwV 3 hts gX3_common_X3_isOn rfl rfl rfl (by decide +kernel) ⟨Nat.le_of_ble_eq_true rfl, Nat.le_of_ble_eq_true rfl⟩) hx hb hml hown hts hK hP  (by decide) rfl rfl rfl hl.1 rfl (Nat.le_of_ble_eq_true rfl) (Nat.zero_le _) (Nat.zero_le _) dX3_common_30 ?_
          refine n_ifeq_b (tgt := 79) hx hb dX3_common_33 (by decide) (fun h_33 => ?_) (fun h_33 => ?_)
          · refine n_iinc 7 1 (lv' := [(7, .int (nI (y + 1))), (0, .ref (ad (25))), (1, .int (nI (k))), (2, .int (nI (A0))), (3, .int (nI (B0))), (4, .int (bI (L))), (5, .int (oI (fo))), (6, .int (nI (mc)))]) hx hb dX3_common_79 hl rfl (by decide) rfl (fun ls hl => ?_)
            refine n_goto 10 hx hb dX3_common_82 (by decide) ?_
            exact ih_10 (fo) (mc) (y + 1) (by omega) (by omega) (by rw [hf, la_n (p := ptB (S 26 k) (rC S k) L A0 B0) (by unfold ptB; rw [if_pos h_22, h_33]; first | rfl | simp)]) (by rw [hc, cnt_n (p := ptB (S 26 k) (rC S k) L A0 B0) (by unfold ptB; rw [if_pos h_22, h_33]; first | rfl | simp)]) _ (lv_sub hl [1, 2, 3, 4, 5, 6, 7, 0] rfl)
          · refine lv_aload_n hx hb dX3_common_36 rfl (lv_at hl 0 rfl) ?_
            refine lv_iload_n hx hb dX3_common_37 rfl (lv_at hl 1 rfl) ?_
            refine lv_iload_n hx hb dX3_common_38 rfl (lv_at hl 3 rfl) ?_
            refine lv_iload hx hb dX3_common_39 (lv_at hl 7 rfl) ?_
            refine g_callV (25) (C := RX3) (T := TX3) (N := 7) (ci := 2) (As := [.int (nI (k)), .int (nI (B0)), .int (nI (y))]) (rest := []) (c_X3_isOn l hI (k := k) hk5 h4k hcb (A0 := B0) (B0 := y) (by omega) (by omega)) (cwV 3 hts gX3_common_X3_isOn rfl rfl rfl (by decide +kernel) ⟨Nat.le_of_ble_eq_true rfl, Nat.le_of_ble_eq_true rfl⟩) hx hb hml hown hts hK hP  (by decide) rfl rfl rfl hl.1 rfl (Nat.le_of_ble_eq_true rfl) (Nat.zero_le _) (Nat.zero_le _) dX3_common_41 ?_
            refine n_ifeq_b (tgt := 79) hx hb dX3_common_44 (by decide) (fun h_44 => ?_) (fun h_44 => ?_)
            · refine n_iinc 7 1 (lv' := [(7, .int (nI (y + 1))), (0, .ref (ad (25))), (1, .int (nI (k))), (2, .int (nI (A0))), (3, .int (nI (B0))), (4, .int (bI (L))), (5, .int (oI (fo))), (6, .int (nI (mc)))]) hx hb dX3_common_79 hl rfl (by decide) rfl (fun ls hl => ?_)
              refine n_goto 10 hx hb dX3_common_82 (by decide) ?_
              exact ih_10 (fo) (mc) (y + 1) (by omega) (by omega) (by rw [hf, la_n (p := ptB (S 26 k) (rC S k) L A0 B0) (by unfold ptB; rw [if_pos h_22, h_33, h_44]; first | rfl | simp)]) (by rw [hc, cnt_n (p := ptB (S 26 k) (rC S k) L A0 B0) (by unfold ptB; rw [if_pos h_22, h_33, h_44]; first | rfl | simp)]) _ (lv_sub hl [1, 2, 3, 4, 5, 6, 7, 0] rfl)
            · refine n_goto 72 hx hb dX3_common_47 (by decide) ?_
              refine lv_iload hx hb dX3_common_72 (lv_at hl 7 rfl) ?_
              refine n_eq (show nI y = oI (some y) from rfl) ?_
              refine lv_istore (lv' := [(5, .int (oI (some y))), (0, .ref (ad (25))), (1, .int (nI (k))), (2, .int (nI (A0))), (3, .int (nI (B0))), (4, .int (bI (L))), (6, .int (nI (mc))), (7, .int (nI (y)))]) hx hb dX3_common_74 hl (by decide) rfl (fun ls hl => ?_)
              refine n_iinc 6 1 (lv' := [(6, .int (nI (mc + 1))), (5, .int (oI (some y))), (0, .ref (ad (25))), (1, .int (nI (k))), (2, .int (nI (A0))), (3, .int (nI (B0))), (4, .int (bI (L))), (7, .int (nI (y)))]) hx hb dX3_common_76 hl rfl (by decide) rfl (fun ls hl => ?_)
              refine n_iinc 7 1 (lv' := [(7, .int (nI (y + 1))), (6, .int (nI (mc + 1))), (5, .int (oI (some y))), (0, .ref (ad (25))), (1, .int (nI (k))), (2, .int (nI (A0))), (3, .int (nI (B0))), (4, .int (bI (L)))]) hx hb dX3_common_79 hl rfl (by decide) rfl (fun ls hl => ?_)
              refine n_goto 10 hx hb dX3_common_82 (by decide) ?_
              exact ih_10 (some y) (mc + 1) (y + 1) (by omega) (by omega) (la_y (p := ptB (S 26 k) (rC S k) L A0 B0) (by unfold ptB; rw [if_pos h_22, h_33, h_44]; first | rfl | simp)).symm (by rw [hc, cnt_y (p := ptB (S 26 k) (rC S k) L A0 B0) (by unfold ptB; rw [if_pos h_22, h_33, h_44]; first | rfl | simp)]) _ (lv_sub hl [3, 4, 5, 6, 7, 2, 1, 0] rfl)
  exact L_10 (2 ^ S 26 k * 2 ^ S 26 k + 2 ^ S 26 k + 2) (none) (0) (0) (Nat.zero_le _) (by omega) rfl rfl _ (lv_sub hl [3, 4, 5, 6, 7, 2, 1, 0] rfl)
set_option maxHeartbeats 4000000 in
set_option maxRecDepth 100000 in
theorem c_X3_join (l : Launch) {D : va_G} {tys : List (ClassId × FieldType)} {ad : Nat → Nat} {cI cW cM : ClassId} {tI : Nat} {S : Nat → Nat → Nat} (hI : tys[tI]? = some (cI, .int)) (hRF : RF S) {a x y : Int32} : Met l yX3_join wsX3_join ({ frames := 3, cells := 0, slots := 0, locals := 78 } : Room) (va_Pc [.ref (ad (25)), .int (a), .int (x), .int (y)] (PB D tys 33 ad (gE cI cW cM ad S))) (k2_QcV (.int (sR_join (rN_ S) (rC S) true a x y))) 0 0 (fun _ => False) := by
  refine g_pure (cc := cX3_join) (maxL := 4) (ret := (some .int)) (by decide) rfl (Nat.le_of_ble_eq_true rfl) ?_
  intro p e s m args below meth c hx hb hrt hts hown hlocks hml hP hK ls hl
  show W p l e ({ frames := 3, cells := 0, slots := 0, locals := 78 } : Room) s m args below meth c s.heap [] 0 0 _ _
  have hl : lv_has ls 4 [(0, .ref (ad (25))), (1, .int (a)), (2, .int (x)), (3, .int (y))] := hl
  refine lv_iload_n hx hb dX3_join_0 rfl (lv_at hl 1 rfl) ?_
  refine g_callS (As := [.int (a)]) (rest := []) (c_X3_isSlot l hI (v := a)) (va_cwS 1 hts gX3_join_X3_isSlot rfl rfl rfl (by decide +kernel) ⟨Nat.le_of_ble_eq_true rfl, Nat.le_of_ble_eq_true rfl⟩) hx hb hml hown hts hK hP  rfl hl.1 rfl (Nat.le_of_ble_eq_true rfl) (Nat.zero_le _) (Nat.zero_le _) dX3_join_1 ?_
  refine n_ifeq_b (tgt := 25) hx hb dX3_join_4 (by decide) (fun h_4 => ?_) (fun h_4 => ?_)
  · refine lv_iconst (v := (-1)) hx hb dX3_join_25 (by decide) ?_
    exact g_iret hx hb hrt hlocks dX3_join_26 (by unfold sR_join; (try dsimp only [rN_]); rw [rg_n h_4])
  · obtain ⟨k, hk1, hk2, e9⟩ := rB_some (by omega) (by omega) h_4
    subst e9
    have hk5 : k < 5 := by omega
    have qk1 := (hRF.1 k (by omega)).1
    have h4k := qk1.2
    have hcbk := (hRF.1 k (by omega)).2
    have qk2 := pow4 h4k
    have qk3 : 0 < 2 ^ S 26 k := Nat.pow_pos (by decide)
    have qk4 := sq4 qk2
    refine lv_aload_n hx hb dX3_join_7 rfl (lv_at hl 0 rfl) ?_
    refine lv_iload_n hx hb dX3_join_8 rfl (lv_at hl 1 rfl) ?_
    refine lv_iload_n hx hb dX3_join_9 rfl (lv_at hl 2 rfl) ?_
    refine g_callV (25) (C := RX3) (T := TX3) (N := 7) (ci := 2) (As := [.int (nI (k)), .int (x)]) (rest := []) (c_X3_isPlace l hI (k := k) hk5 h4k (v := x)) (cwV 2 hts gX3_join_X3_isPlace rfl rfl rfl (by decide +kernel) ⟨Nat.le_of_ble_eq_true rfl, Nat.le_of_ble_eq_true rfl⟩) hx hb hml hown hts hK hP  (by decide) rfl rfl rfl hl.1 rfl (Nat.le_of_ble_eq_true rfl) (Nat.zero_le _) (Nat.zero_le _) dX3_join_10 ?_
    refine n_ifeq_b (tgt := 25) hx hb dX3_join_13 (by decide) (fun h_13 => ?_) (fun h_13 => ?_)
    · refine lv_iconst (v := (-1)) hx hb dX3_join_25 (by decide) ?_
      exact g_iret hx hb hrt hlocks dX3_join_26 (by unfold sR_join; (try dsimp only [rN_]); rw [rg_y (by omega) (by omega) (by omega), rg_n h_13])
    · obtain ⟨X, hX1, hX2, e9⟩ := rB_some (by omega) (by omega) h_13
      subst e9
      refine lv_aload_n hx hb dX3_join_16 rfl (lv_at hl 0 rfl) ?_
      refine lv_iload_n hx hb dX3_join_17 rfl (lv_at hl 1 rfl) ?_
      refine lv_iload_n hx hb dX3_join_18 rfl (lv_at hl 3 rfl) ?_
      refine g_callV (25) (C := RX3) (T := TX3) (N := 7) (ci := 2) (As := [.int (nI (k)), .int (y)]) (rest := []) (c_X3_isPlace l hI (k := k) hk5 h4k (v := y)) (cwV 2 hts gX3_join_X3_isPlace rfl rfl rfl (by decide +kernel) ⟨Nat.le_of_ble_eq_true rfl, Nat.le_of_ble_eq_true rfl⟩) hx hb hml hown hts hK hP  (by decide) rfl rfl rfl hl.1 rfl (Nat.le_of_ble_eq_true rfl) (Nat.zero_le _) (Nat.zero_le _) dX3_join_19 ?_
      refine n_ifne_b (tgt := 27) hx hb dX3_join_22 (by decide) (fun h_22 => ?_) (fun h_22 => ?_)
      · obtain ⟨Y, hY1, hY2, e9⟩ := rB_some (by omega) (by omega) h_22
        subst e9
        refine lv_iload_n hx hb dX3_join_27 rfl (lv_at hl 2 rfl) ?_
        refine lv_iload_n hx hb dX3_join_28 rfl (lv_at hl 3 rfl) ?_
        refine n_cne (tgt := 37) hx hb dX3_join_29 (by decide) (by omega) (by omega) (fun h_29 => ?_) (fun h_29 => ?_)
        · refine lv_aload_n hx hb dX3_join_37 rfl (lv_at hl 0 rfl) ?_
          refine lv_iload_n hx hb dX3_join_38 rfl (lv_at hl 1 rfl) ?_
          refine lv_iload_n hx hb dX3_join_39 rfl (lv_at hl 2 rfl) ?_
          refine lv_iload_n hx hb dX3_join_40 rfl (lv_at hl 3 rfl) ?_
          refine n_iconst 1 hx hb dX3_join_41 ?_
          refine n_eq (show nI 1 = bI true from rfl) ?_
          refine g_callV (25) (C := RX3) (T := TX3) (N := 7) (ci := 2) (As := [.int (nI (k)), .int (nI (X)), .int (nI (Y)), .int (bI (true))]) (rest := []) (c_X3_common l hI (k := k) hk5 h4k hcbk (A0 := X) (B0 := Y) (L := true) (by omega) (by omega)) (cwV 4 hts gX3_join_X3_common rfl rfl rfl (by decide +kernel) ⟨Nat.le_of_ble_eq_true rfl, Nat.le_of_ble_eq_true rfl⟩) hx hb hml hown hts hK hP  (by decide) rfl rfl rfl hl.1 rfl (Nat.le_of_ble_eq_true rfl) (Nat.zero_le _) (Nat.zero_le _) dX3_join_42 ?_
          exact g_iret hx hb hrt hlocks dX3_join_45 (by unfold sR_join; (try dsimp only [rN_]); rw [rg_y (by omega) (by omega) (by omega), rg_y (by omega) (by omega) (by omega), rg_y (by omega) (by omega) (by omega), if_neg h_29])
        · refine lv_bipush (v := (-3)) hx hb dX3_join_32 (by decide) ?_
          refine n_goto 45 hx hb dX3_join_34 (by decide) ?_
          exact g_iret hx hb hrt hlocks dX3_join_45 (by unfold sR_join; (try dsimp only [rN_]); rw [rg_y (by omega) (by omega) (by omega), rg_y (by omega) (by omega) (by omega), rg_y (by omega) (by omega) (by omega), if_pos h_29])
      · refine lv_iconst (v := (-1)) hx hb dX3_join_25 (by decide) ?_
        exact g_iret hx hb hrt hlocks dX3_join_26 (by unfold sR_join; (try dsimp only [rN_]); rw [rg_y (by omega) (by omega) (by omega), rg_y (by omega) (by omega) (by omega), rg_n h_22])
set_option maxHeartbeats 4000000 in
set_option maxRecDepth 100000 in
theorem c_X3_meet (l : Launch) {D : va_G} {tys : List (ClassId × FieldType)} {ad : Nat → Nat} {cI cW cM : ClassId} {tI : Nat} {S : Nat → Nat → Nat} (hI : tys[tI]? = some (cI, .int)) (hRF : RF S) {a x y : Int32} : Met l yX3_meet wsX3_meet ({ frames := 3, cells := 0, slots := 0, locals := 78 } : Room) (va_Pc [.ref (ad (25)), .int (a), .int (x), .int (y)] (PB D tys 33 ad (gE cI cW cM ad S))) (k2_QcV (.int (sR_join (rN_ S) (rC S) false a x y))) 0 0 (fun _ => False) := by
  refine g_pure (cc := cX3_meet) (maxL := 4) (ret := (some .int)) (by decide) rfl (Nat.le_of_ble_eq_true rfl) ?_
  intro p e s m args below meth c hx hb hrt hts hown hlocks hml hP hK ls hl
  show W p l e ({ frames := 3, cells := 0, slots := 0, locals := 78 } : Room) s m args below meth c s.heap [] 0 0 _ _
  have hl : lv_has ls 4 [(0, .ref (ad (25))), (1, .int (a)), (2, .int (x)), (3, .int (y))] := hl
  refine lv_iload_n hx hb dX3_meet_0 rfl (lv_at hl 1 rfl) ?_
  refine g_callS (As := [.int (a)]) (rest := []) (c_X3_isSlot l hI (v := a)) (va_cwS 1 hts gX3_meet_X3_isSlot rfl rfl rfl (by decide +kernel) ⟨Nat.le_of_ble_eq_true rfl, Nat.le_of_ble_eq_true rfl⟩) hx hb hml hown hts hK hP  rfl hl.1 rfl (Nat.le_of_ble_eq_true rfl) (Nat.zero_le _) (Nat.zero_le _) dX3_meet_1 ?_
  refine n_ifeq_b (tgt := 25) hx hb dX3_meet_4 (by decide) (fun h_4 => ?_) (fun h_4 => ?_)
  · refine lv_iconst (v := (-1)) hx hb dX3_meet_25 (by decide) ?_
    exact g_iret hx hb hrt hlocks dX3_meet_26 (by unfold sR_join; (try dsimp only [rN_]); rw [rg_n h_4])
  · obtain ⟨k, hk1, hk2, e9⟩ := rB_some (by omega) (by omega) h_4
    subst e9
    have hk5 : k < 5 := by omega
    have qk1 := (hRF.1 k (by omega)).1
    have h4k := qk1.2
    have hcbk := (hRF.1 k (by omega)).2
    have qk2 := pow4 h4k
    have qk3 : 0 < 2 ^ S 26 k := Nat.pow_pos (by decide)
    have qk4 := sq4 qk2
    refine lv_aload_n hx hb dX3_meet_7 rfl (lv_at hl 0 rfl) ?_
    refine lv_iload_n hx hb dX3_meet_8 rfl (lv_at hl 1 rfl) ?_
    refine lv_iload_n hx hb dX3_meet_9 rfl (lv_at hl 2 rfl) ?_
    refine g_callV (25) (C := RX3) (T := TX3) (N := 7) (ci := 2) (As := [.int (nI (k)), .int (x)]) (rest := []) (c_X3_isPlace l hI (k := k) hk5 h4k (v := x)) (cwV 2 hts gX3_meet_X3_isPlace rfl rfl rfl (by decide +kernel) ⟨Nat.le_of_ble_eq_true rfl, Nat.le_of_ble_eq_true rfl⟩) hx hb hml hown hts hK hP  (by decide) rfl rfl rfl hl.1 rfl (Nat.le_of_ble_eq_true rfl) (Nat.zero_le _) (Nat.zero_le _) dX3_meet_10 ?_
    refine n_ifeq_b (tgt := 25) hx hb dX3_meet_13 (by decide) (fun h_13 => ?_) (fun h_13 => ?_)
    · refine lv_iconst (v := (-1)) hx hb dX3_meet_25 (by decide) ?_
      exact g_iret hx hb hrt hlocks dX3_meet_26 (by unfold sR_join; (try dsimp only [rN_]); rw [rg_y (by omega) (by omega) (by omega), rg_n h_13])
    · obtain ⟨X, hX1, hX2, e9⟩ := rB_some (by omega) (by omega) h_13
      subst e9
      refine lv_aload_n hx hb dX3_meet_16 rfl (lv_at hl 0 rfl) ?_
      refine lv_iload_n hx hb dX3_meet_17 rfl (lv_at hl 1 rfl) ?_
      refine lv_iload_n hx hb dX3_meet_18 rfl (lv_at hl 3 rfl) ?_
      refine g_callV (25) (C := RX3) (T := TX3) (N := 7) (ci := 2) (As := [.int (nI (k)), .int (y)]) (rest := []) (c_X3_isPlace l hI (k := k) hk5 h4k (v := y)) (cwV 2 hts gX3_meet_X3_isPlace rfl rfl rfl (by decide +kernel) ⟨Nat.le_of_ble_eq_true rfl, Nat.le_of_ble_eq_true rfl⟩) hx hb hml hown hts hK hP  (by decide) rfl rfl rfl hl.1 rfl (Nat.le_of_ble_eq_true rfl) (Nat.zero_le _) (Nat.zero_le _) dX3_meet_19 ?_
      refine n_ifne_b (tgt := 27) hx hb dX3_meet_22 (by decide) (fun h_22 => ?_) (fun h_22 => ?_)
      · obtain ⟨Y, hY1, hY2, e9⟩ := rB_some (by omega) (by omega) h_22
        subst e9
        refine lv_iload_n hx hb dX3_meet_27 rfl (lv_at hl 2 rfl) ?_
        refine lv_iload_n hx hb dX3_meet_28 rfl (lv_at hl 3 rfl) ?_
        refine n_cne (tgt := 37) hx hb dX3_meet_29 (by decide) (by omega) (by omega) (fun h_29 => ?_) (fun h_29 => ?_)
        · refine lv_aload_n hx hb dX3_meet_37 rfl (lv_at hl 0 rfl) ?_
          refine lv_iload_n hx hb dX3_meet_38 rfl (lv_at hl 1 rfl) ?_
          refine lv_iload_n hx hb dX3_meet_39 rfl (lv_at hl 2 rfl) ?_
          refine lv_iload_n hx hb dX3_meet_40 rfl (lv_at hl 3 rfl) ?_
          refine n_iconst 0 hx hb dX3_meet_41 ?_
          refine n_eq (show nI 0 = bI false from rfl) ?_
          refine g_callV (25) (C := RX3) (T := TX3) (N := 7) (ci := 2) (As := [.int (nI (k)), .int (nI (X)), .int (nI (Y)), .int (bI (false))]) (rest := []) (c_X3_common l hI (k := k) hk5 h4k hcbk (A0 := X) (B0 := Y) (L := false) (by omega) (by omega)) (cwV 4 hts gX3_meet_X3_common rfl rfl rfl (by decide +kernel) ⟨Nat.le_of_ble_eq_true rfl, Nat.le_of_ble_eq_true rfl⟩) hx hb hml hown hts hK hP  (by decide) rfl rfl rfl hl.1 rfl (Nat.le_of_ble_eq_true rfl) (Nat.zero_le _) (Nat.zero_le _) dX3_meet_42 ?_
          exact g_iret hx hb hrt hlocks dX3_meet_45 (by unfold sR_join; (try dsimp only [rN_]); rw [rg_y (by omega) (by omega) (by omega), rg_y (by omega) (by omega) (by omega), rg_y (by omega) (by omega) (by omega), if_neg h_29])
        · refine lv_bipush (v := (-3)) hx hb dX3_meet_32 (by decide) ?_
          refine n_goto 45 hx hb dX3_meet_34 (by decide) ?_
          exact g_iret hx hb hrt hlocks dX3_meet_45 (by unfold sR_join; (try dsimp only [rN_]); rw [rg_y (by omega) (by omega) (by omega), rg_y (by omega) (by omega) (by omega), rg_y (by omega) (by omega) (by omega), if_pos h_29])
      · refine lv_iconst (v := (-1)) hx hb dX3_meet_25 (by decide) ?_
        exact g_iret hx hb hrt hlocks dX3_meet_26 (by unfold sR_join; (try dsimp only [rN_]); rw [rg_y (by omega) (by omega) (by omega), rg_y (by omega) (by omega) (by omega), rg_n h_22])
set_option maxHeartbeats 4000000 in
set_option maxRecDepth 100000 in
theorem c_X3_bad (l : Launch) {D : va_G} {tys : List (ClassId × FieldType)} {ad : Nat → Nat} {cI cW cM : ClassId} {tI : Nat} {S : Nat → Nat → Nat} (hI : tys[tI]? = some (cI, .int)) (hRF : RF S) {a : Int32} : Met l yX3_bad wsX3_bad ({ frames := 2, cells := 0, slots := 0, locals := 42 } : Room) (va_Pc [.ref (ad (25)), .int (a)] (PB D tys 33 ad (gE cI cW cM ad S))) (k2_QcV (.int (sR_bad (rN_ S) (rC S) a))) 0 0 (fun _ => False) := by
  refine g_pure (cc := cX3_bad) (maxL := 8) (ret := (some .int)) (by decide) rfl (Nat.le_of_ble_eq_true rfl) ?_
  intro p e s m args below meth c hx hb hrt hts hown hlocks hml hP hK ls hl
  show W p l e ({ frames := 2, cells := 0, slots := 0, locals := 42 } : Room) s m args below meth c s.heap [] 0 0 _ _
  have hl : lv_has ls 8 [(0, .ref (ad (25))), (1, .int (a))] := hl
  refine lv_iload_n hx hb dX3_bad_0 rfl (lv_at hl 1 rfl) ?_
  refine g_callS (As := [.int (a)]) (rest := []) (c_X3_isSlot l hI (v := a)) (va_cwS 1 hts gX3_bad_X3_isSlot rfl rfl rfl (by decide +kernel) ⟨Nat.le_of_ble_eq_true rfl, Nat.le_of_ble_eq_true rfl⟩) hx hb hml hown hts hK hP  rfl hl.1 rfl (Nat.le_of_ble_eq_true rfl) (Nat.zero_le _) (Nat.zero_le _) dX3_bad_1 ?_
  refine n_ifne_b (tgt := 9) hx hb dX3_bad_4 (by decide) (fun h_4 => ?_) (fun h_4 => ?_)
  · obtain ⟨k, hk1, hk2, e9⟩ := rB_some (by omega) (by omega) h_4
    subst e9
    have hk5 : k < 5 := by omega
    have qk1 := (hRF.1 k (by omega)).1
    have h4k := qk1.2
    have hcbk := (hRF.1 k (by omega)).2
    have qk2 := pow4 h4k
    have qk3 : 0 < 2 ^ S 26 k := Nat.pow_pos (by decide)
    have qk4 := sq4 qk2
    refine lv_aload_n hx hb dX3_bad_9 rfl (lv_at hl 0 rfl) ?_
    refine lv_iload_n hx hb dX3_bad_10 rfl (lv_at hl 1 rfl) ?_
    refine g_callV (25) (C := RX3) (T := TX3) (N := 7) (ci := 2) (As := [.int (nI (k))]) (rest := []) (c_X3_numbers l hI (k := k) hk5 h4k) (cwV 1 hts gX3_bad_X3_numbers rfl rfl rfl (by decide +kernel) ⟨Nat.le_of_ble_eq_true rfl, Nat.le_of_ble_eq_true rfl⟩) hx hb hml hown hts hK hP  (by decide) rfl rfl rfl hl.1 rfl (Nat.le_of_ble_eq_true rfl) (Nat.zero_le _) (Nat.zero_le _) dX3_bad_11 ?_
    refine lv_istore_n (lv' := [(2, .int (nI (2 ^ S 26 k))), (0, .ref (ad (25))), (1, .int (nI (k)))]) hx hb dX3_bad_14 rfl hl (by decide) rfl (fun ls hl => ?_)
    refine n_iconst 0 hx hb dX3_bad_15 ?_
    refine lv_istore_n (lv' := [(3, .int (nI (0))), (2, .int (nI (2 ^ S 26 k))), (0, .ref (ad (25))), (1, .int (nI (k)))]) hx hb dX3_bad_16 rfl hl (by decide) rfl (fun ls hl => ?_)
    refine n_iconst 1 hx hb dX3_bad_17 ?_
    refine lv_istore (lv' := [(4, .int (nI (1))), (3, .int (nI (0))), (2, .int (nI (2 ^ S 26 k))), (0, .ref (ad (25))), (1, .int (nI (k)))]) hx hb dX3_bad_18 hl (by decide) rfl (fun ls hl => ?_)
    have L_20 : ∀ (r : Nat) (acc : Nat) (d : Nat), (1 ≤ d) → (d ≤ 2 ^ S 26 k) → (2 ^ S 26 k < d + r) → (acc = sm (bdF (S 26 k) (rC S k)) d) → ∀ (ls : Array Slot), lv_has ls 8 [(0, .ref (ad (25))), (1, .int (nI (k))), (2, .int (nI (2 ^ S 26 k))), (3, .int (nI (acc))), (4, .int (nI (d)))] → W p l e ({ frames := 2, cells := 0, slots := 0, locals := 42 } : Room) s m args below meth c s.heap [] 0 0 (MQ below (k2_QcV (.int (sR_bad (rN_ S) (rC S) ((nI k))))) args s 0 0 (fun _ => False)) (F0 m 20 ls []) := by
      intro r
      induction r with
      | zero => intro acc d hd1 hd hr ha; intros; exact absurd hr (by omega)
      | succ r ih =>
        intro acc d hd1 hd hr ha ls hl
        have ih_20 := ih
        refine lv_iload hx hb dX3_bad_20 (lv_at hl 4 rfl) ?_
        refine lv_iload_n hx hb dX3_bad_22 rfl (lv_at hl 2 rfl) ?_
        refine n_ge (tgt := 107) hx hb dX3_bad_23 (by decide) (by omega) (by omega) (fun h_23 => ?_) (fun h_23 => ?_)
        · refine lv_iload_n hx hb dX3_bad_107 rfl (lv_at hl 3 rfl) ?_
          exact g_iret hx hb hrt hlocks dX3_bad_108 (by unfold sR_bad; (try dsimp only [rN_]); rw [rg_y (by omega) (by omega) (by omega), ha, show d = 2 ^ S 26 k by omega]; rfl)
        · refine n_iconst 0 hx hb dX3_bad_26 ?_
          refine lv_istore (lv' := [(5, .int (nI (0))), (0, .ref (ad (25))), (1, .int (nI (k))), (2, .int (nI (2 ^ S 26 k))), (3, .int (nI (acc))), (4, .int (nI (d)))]) hx hb dX3_bad_27 hl (by decide) rfl (fun ls hl => ?_)
          have L_29 : ∀ (r : Nat) (acc2 : Nat) (e0 : Nat), (e0 ≤ 2 ^ S 26 k) → (2 ^ S 26 k < e0 + r) → (acc2 = sm (bdF (S 26 k) (rC S k)) d + sm (bdG (S 26 k) (rC S k) d) e0) → ∀ (ls : Array Slot), lv_has ls 8 [(0, .ref (ad (25))), (1, .int (nI (k))), (2, .int (nI (2 ^ S 26 k))), (3, .int (nI (acc2))), (4, .int (nI (d))), (5, .int (nI (e0)))] → W p l e ({ frames := 2, cells := 0, slots := 0, locals := 42 } : Room) s m args below meth c s.heap [] 0 0 (MQ below (k2_QcV (.int (sR_bad (rN_ S) (rC S) ((nI k))))) args s 0 0 (fun _ => False)) (F0 m 29 ls []) := by
            intro r
            induction r with
            | zero => intro acc2 e0 he hr2 ha2; intros; exact absurd hr2 (by omega)
            | succ r ih =>
              intro acc2 e0 he hr2 ha2 ls hl
              have ih_29 := ih
              refine lv_iload hx hb dX3_bad_29 (lv_at hl 5 rfl) ?_
              refine lv_iload_n hx hb dX3_bad_31 rfl (lv_at hl 2 rfl) ?_
              refine n_ge (tgt := 101) hx hb dX3_bad_32 (by decide) (by omega) (by omega) (fun h_32 => ?_) (fun h_32 => ?_)
              · refine n_iinc 4 1 (lv' := [(4, .int (nI (d + 1))), (0, .ref (ad (25))), (1, .int (nI (k))), (2, .int (nI (2 ^ S 26 k))), (3, .int (nI (acc2))), (5, .int (nI (e0)))]) hx hb dX3_bad_101 hl rfl (by decide) rfl (fun ls hl => ?_)
                refine n_goto 20 hx hb dX3_bad_104 (by decide) ?_
                exact ih_20 (acc2) (d + 1) (by omega) (by omega) (by omega) (by rw [ha2, sm_s, show bdF (S 26 k) (rC S k) d = _ from if_neg (by omega), show e0 = 2 ^ S 26 k by omega]) _ (lv_sub hl [1, 2, 3, 4, 0] rfl)
              · refine n_iconst 0 hx hb dX3_bad_35 ?_
                refine lv_istore (lv' := [(6, .int (nI (0))), (0, .ref (ad (25))), (1, .int (nI (k))), (2, .int (nI (2 ^ S 26 k))), (3, .int (nI (acc2))), (4, .int (nI (d))), (5, .int (nI (e0)))]) hx hb dX3_bad_36 hl (by decide) rfl (fun ls hl => ?_)
                refine n_iconst 0 hx hb dX3_bad_38 ?_
                refine lv_istore (lv' := [(7, .int (nI (0))), (6, .int (nI (0))), (0, .ref (ad (25))), (1, .int (nI (k))), (2, .int (nI (2 ^ S 26 k))), (3, .int (nI (acc2))), (4, .int (nI (d))), (5, .int (nI (e0)))]) hx hb dX3_bad_39 hl (by decide) rfl (fun ls hl => ?_)
                have L_41 : ∀ (r : Nat) (mc : Nat) (x0 : Nat), (x0 ≤ 2 ^ S 26 k) → (2 ^ S 26 k < x0 + r) → (mc = cnt (fun x => tm (S 26 k) (rC S k) d x == e0) x0) → ∀ (ls : Array Slot), lv_has ls 8 [(0, .ref (ad (25))), (1, .int (nI (k))), (2, .int (nI (2 ^ S 26 k))), (3, .int (nI (acc2))), (4, .int (nI (d))), (5, .int (nI (e0))), (6, .int (nI (mc))), (7, .int (nI (x0)))] → W p l e ({ frames := 2, cells := 0, slots := 0, locals := 42 } : Room) s m args below meth c s.heap [] 0 0 (MQ below (k2_QcV (.int (sR_bad (rN_ S) (rC S) ((nI k))))) args s 0 0 (fun _ => False)) (F0 m 41 ls []) := by
                  intro r
                  induction r with
                  | zero => intro mc x0 hx0 hr3 hc; intros; exact absurd hr3 (by omega)
                  | succ r ih =>
                    intro mc x0 hx0 hr3 hc ls hl
                    have ih_41 := ih
                    refine lv_iload hx hb dX3_bad_41 (lv_at hl 7 rfl) ?_
                    refine lv_iload_n hx hb dX3_bad_43 rfl (lv_at hl 2 rfl) ?_
                    refine n_ge (tgt := 77) hx hb dX3_bad_44 (by decide) (by omega) (by omega) (fun h_44 => ?_) (fun h_44 => ?_)
                    · refine lv_iload_n hx hb dX3_bad_77 rfl (lv_at hl 3 rfl) ?_
                      refine lv_iload hx hb dX3_bad_78 (lv_at hl 6 rfl) ?_
                      refine n_iconst 1 hx hb dX3_bad_80 ?_
                      refine n_ceq (tgt := 92) hx hb dX3_bad_81 (by decide) (by rw [hc]; have := cnt_le (fun x => tm (S 26 k) (rC S k) d x == e0) x0; omega) (by decide) (fun h_81 => ?_) (fun h_81 => ?_)
                      · refine n_iconst 0 hx hb dX3_bad_92 ?_
                        refine n_iadd hx hb dX3_bad_93 ?_
                        refine lv_istore_n (lv' := [(3, .int (nI (acc2 + 0))), (0, .ref (ad (25))), (1, .int (nI (k))), (2, .int (nI (2 ^ S 26 k))), (4, .int (nI (d))), (5, .int (nI (e0))), (6, .int (nI (mc))), (7, .int (nI (x0)))]) hx hb dX3_bad_94 rfl hl (by decide) rfl (fun ls hl => ?_)
                        refine n_iinc 5 1 (lv' := [(5, .int (nI (e0 + 1))), (3, .int (nI (acc2 + 0))), (0, .ref (ad (25))), (1, .int (nI (k))), (2, .int (nI (2 ^ S 26 k))), (4, .int (nI (d))), (6, .int (nI (mc))), (7, .int (nI (x0)))]) hx hb dX3_bad_95 hl rfl (by decide) rfl (fun ls hl => ?_)
                        refine n_goto 29 hx hb dX3_bad_98 (by decide) ?_
                        exact ih_29 (acc2 + 0) (e0 + 1) (by omega) (by omega) (by rw [ha2, sm_s, show bdG (S 26 k) (rC S k) d e0 = 0 from if_pos (by rw [← show x0 = 2 ^ S 26 k by omega, ← hc]; exact h_81)]; rfl) _ (lv_sub hl [2, 3, 4, 1, 5, 0] rfl)
                      · refine lv_iload_n hx hb dX3_bad_84 rfl (lv_at hl 2 rfl) ?_
                        refine n_iconst 2 hx hb dX3_bad_85 ?_
                        refine n_idiv hx hb dX3_bad_86 (by omega) (by decide) (by decide) ?_
                        refine lv_iload_n hx hb dX3_bad_87 rfl (lv_at hl 2 rfl) ?_
                        refine n_imul hx hb dX3_bad_88 ?_
                        refine n_goto 93 hx hb dX3_bad_89 (by decide) ?_
                        refine n_iadd hx hb dX3_bad_93 ?_
                        refine lv_istore_n (lv' := [(3, .int (nI (acc2 + (((2 ^ S 26 k) / 2) * (2 ^ S 26 k))))), (0, .ref (ad (25))), (1, .int (nI (k))), (2, .int (nI (2 ^ S 26 k))), (4, .int (nI (d))), (5, .int (nI (e0))), (6, .int (nI (mc))), (7, .int (nI (x0)))]) hx hb dX3_bad_94 rfl hl (by decide) rfl (fun ls hl => ?_)
                        refine n_iinc 5 1 (lv' := [(5, .int (nI (e0 + 1))), (3, .int (nI (acc2 + (((2 ^ S 26 k) / 2) * (2 ^ S 26 k))))), (0, .ref (ad (25))), (1, .int (nI (k))), (2, .int (nI (2 ^ S 26 k))), (4, .int (nI (d))), (6, .int (nI (mc))), (7, .int (nI (x0)))]) hx hb dX3_bad_95 hl rfl (by decide) rfl (fun ls hl => ?_)
                        refine n_goto 29 hx hb dX3_bad_98 (by decide) ?_
                        exact ih_29 (acc2 + (((2 ^ S 26 k) / 2) * (2 ^ S 26 k))) (e0 + 1) (by omega) (by omega) (by rw [ha2, sm_s, show bdG (S 26 k) (rC S k) d e0 = 2 ^ S 26 k / 2 * 2 ^ S 26 k from if_neg (by rw [← show x0 = 2 ^ S 26 k by omega, ← hc]; exact h_81), Nat.add_assoc]) _ (lv_sub hl [2, 3, 4, 1, 5, 0] rfl)
                    · refine lv_iload hx hb dX3_bad_47 (lv_at hl 6 rfl) ?_
                      refine lv_aload_n hx hb dX3_bad_49 rfl (lv_at hl 0 rfl) ?_
                      refine lv_iload_n hx hb dX3_bad_50 rfl (lv_at hl 1 rfl) ?_
                      refine lv_iload hx hb dX3_bad_51 (lv_at hl 4 rfl) ?_
                      refine lv_iload hx hb dX3_bad_53 (lv_at hl 7 rfl) ?_
                      refine g_callV (25) (C := RX3) (T := TX3) (N := 7) (ci := 2) (As := [.int (nI (k)), .int (nI (d)), .int (nI (x0))]) (rest := [.int (nI (mc))]) (c_X3_times l hI (k := k) hk5 h4k (X := d) (Y := x0) (by omega) (by omega)) (cwV 3 hts gX3_bad_X3_times rfl rfl rfl (by decide +kernel) ⟨Nat.le_of_ble_eq_true rfl, Nat.le_of_ble_eq_true rfl⟩) hx hb hml hown hts hK hP  (by decide) rfl rfl rfl hl.1 rfl (Nat.le_of_ble_eq_true rfl) (Nat.zero_le _) (Nat.zero_le _) dX3_bad_55 ?_
                      refine lv_iload hx hb dX3_bad_58 (lv_at hl 5 rfl) ?_
                      have hm9 := tm_lt hcbk d x0
                      refine n_cne (tgt := 67) hx hb dX3_bad_60 (by decide) (by omega) (by omega) (fun h_60 => ?_) (fun h_60 => ?_)
                      · refine n_iconst 0 hx hb dX3_bad_67 ?_
                        refine n_iadd hx hb dX3_bad_68 ?_
                        refine lv_istore (lv' := [(6, .int (nI (mc + 0))), (0, .ref (ad (25))), (1, .int (nI (k))), (2, .int (nI (2 ^ S 26 k))), (3, .int (nI (acc2))), (4, .int (nI (d))), (5, .int (nI (e0))), (7, .int (nI (x0)))]) hx hb dX3_bad_69 hl (by decide) rfl (fun ls hl => ?_)
                        refine n_iinc 7 1 (lv' := [(7, .int (nI (x0 + 1))), (6, .int (nI (mc + 0))), (0, .ref (ad (25))), (1, .int (nI (k))), (2, .int (nI (2 ^ S 26 k))), (3, .int (nI (acc2))), (4, .int (nI (d))), (5, .int (nI (e0)))]) hx hb dX3_bad_71 hl rfl (by decide) rfl (fun ls hl => ?_)
                        refine n_goto 41 hx hb dX3_bad_74 (by decide) ?_
                        exact ih_41 (mc + 0) (x0 + 1) (by omega) (by omega) (by rw [hc, cnt_n (p := (fun x => tm (S 26 k) (rC S k) d x == e0)) (bF h_60)]; rfl) _ (lv_sub hl [2, 3, 4, 5, 6, 7, 1, 0] rfl)
                      · refine n_iconst 1 hx hb dX3_bad_63 ?_
                        refine n_goto 68 hx hb dX3_bad_64 (by decide) ?_
                        refine n_iadd hx hb dX3_bad_68 ?_
                        refine lv_istore (lv' := [(6, .int (nI (mc + 1))), (0, .ref (ad (25))), (1, .int (nI (k))), (2, .int (nI (2 ^ S 26 k))), (3, .int (nI (acc2))), (4, .int (nI (d))), (5, .int (nI (e0))), (7, .int (nI (x0)))]) hx hb dX3_bad_69 hl (by decide) rfl (fun ls hl => ?_)
                        refine n_iinc 7 1 (lv' := [(7, .int (nI (x0 + 1))), (6, .int (nI (mc + 1))), (0, .ref (ad (25))), (1, .int (nI (k))), (2, .int (nI (2 ^ S 26 k))), (3, .int (nI (acc2))), (4, .int (nI (d))), (5, .int (nI (e0)))]) hx hb dX3_bad_71 hl rfl (by decide) rfl (fun ls hl => ?_)
                        refine n_goto 41 hx hb dX3_bad_74 (by decide) ?_
                        exact ih_41 (mc + 1) (x0 + 1) (by omega) (by omega) (by rw [hc, cnt_y (p := (fun x => tm (S 26 k) (rC S k) d x == e0)) (bT h_60)]) _ (lv_sub hl [2, 3, 4, 5, 6, 7, 1, 0] rfl)
                exact L_41 (2 ^ S 26 k + 1) (0) (0) (Nat.zero_le _) (by omega) rfl _ (lv_sub hl [2, 3, 4, 5, 6, 7, 1, 0] rfl)
          exact L_29 (2 ^ S 26 k + 1) (acc) (0) (Nat.zero_le _) (by omega) (by rw [ha]; rfl) _ (lv_sub hl [1, 2, 3, 4, 5, 0] rfl)
    exact L_20 (2 ^ S 26 k + 1) (0) (1) (Nat.le_refl _) (by omega) (by omega) rfl _ (lv_sub hl [3, 4, 2, 1, 0] rfl)
  · refine lv_iconst (v := (-1)) hx hb dX3_bad_7 (by decide) ?_
    exact g_iret hx hb hrt hlocks dX3_bad_8 (by unfold sR_bad; (try dsimp only [rN_]); rw [rg_n h_4])
set_option maxHeartbeats 4000000 in
set_option maxRecDepth 100000 in
theorem c_X3_rankOf (l : Launch) {D : va_G} {tys : List (ClassId × FieldType)} {ad : Nat → Nat} {cI cW cM : ClassId} {tI : Nat} {S : Nat → Nat → Nat} (hI : tys[tI]? = some (cI, .int)) {k : Nat} (hk5 : k < 5) (h4k : S 26 k ≤ 4) (hcb : CB (S 26 k) (rC S k)) {Y : Nat} (hY : Y < 2 ^ S 26 k) : Met l yX3_rankOf wsX3_rankOf ({ frames := 1, cells := 0, slots := 0, locals := 26 } : Room) (va_Pc [.ref (ad (25)), .int (nI (k)), .int (nI (Y))] (PB D tys 33 ad (gE cI cW cM ad S))) (k2_QcV (.int (nI (rnk (S 26 k) (rC S k) Y)))) 0 0 (fun _ => False) := by
  have p4 := pow4 h4k
  have p0 : 0 < 2 ^ S 26 k := Nat.pow_pos (by decide)
  have hs := rk_seen hcb Y (2 ^ S 26 k)
  have hp := p16 p4
  have hq := pcn_le hs p4
  refine g_pure (cc := cX3_rankOf) (maxL := 6) (ret := (some .int)) (by decide) rfl (Nat.le_of_ble_eq_true rfl) ?_
  intro p e s m args below meth c hx hb hrt hts hown hlocks hml hP hK ls hl
  show W p l e ({ frames := 1, cells := 0, slots := 0, locals := 26 } : Room) s m args below meth c s.heap [] 0 0 _ _
  have hl : lv_has ls 6 [(0, .ref (ad (25))), (1, .int (nI (k))), (2, .int (nI (Y)))] := hl
  refine n_iconst 0 hx hb dX3_rankOf_0 ?_
  refine lv_istore_n (lv' := [(3, .int (nI (0))), (0, .ref (ad (25))), (1, .int (nI (k))), (2, .int (nI (Y)))]) hx hb dX3_rankOf_1 rfl hl (by decide) rfl (fun ls hl => ?_)
  refine n_iconst 0 hx hb dX3_rankOf_2 ?_
  refine lv_istore (lv' := [(4, .int (nI (0))), (3, .int (nI (0))), (0, .ref (ad (25))), (1, .int (nI (k))), (2, .int (nI (Y)))]) hx hb dX3_rankOf_3 hl (by decide) rfl (fun ls hl => ?_)
  have L_5 : ∀ (r : Nat) (acc : Nat) (x0 : Nat), (x0 ≤ 2 ^ S 26 k) → (2 ^ S 26 k < x0 + r) → (acc = os (fun x => 1 <<< tm (S 26 k) (rC S k) x Y) x0) → ∀ (ls : Array Slot), lv_has ls 6 [(0, .ref (ad (25))), (1, .int (nI (k))), (2, .int (nI (Y))), (3, .int (nI (acc))), (4, .int (nI (x0)))] → W p l e ({ frames := 1, cells := 0, slots := 0, locals := 26 } : Room) s m args below meth c s.heap [] 0 0 (MQ below (k2_QcV (.int (nI (rnk (S 26 k) (rC S k) Y)))) args s 0 0 (fun _ => False)) (F0 m 5 ls []) := by
    intro r
    induction r with
    | zero => intro acc x0 hx0 hr ha; intros; exact absurd hr (by omega)
    | succ r ih =>
      intro acc x0 hx0 hr ha ls hl
      have ih_5 := ih
      refine lv_iload hx hb dX3_rankOf_5 (lv_at hl 4 rfl) ?_
      refine lv_aload_n hx hb dX3_rankOf_7 rfl (lv_at hl 0 rfl) ?_
      refine lv_iload_n hx hb dX3_rankOf_8 rfl (lv_at hl 1 rfl) ?_
      refine g_callV (25) (C := RX3) (T := TX3) (N := 7) (ci := 2) (As := [.int (nI (k))]) (rest := [.int (nI (x0))]) (c_X3_numbers l hI (k := k) hk5 h4k) (cwV 1 hts gX3_rankOf_X3_numbers rfl rfl rfl (by decide +kernel) ⟨Nat.le_of_ble_eq_true rfl, Nat.le_of_ble_eq_true rfl⟩) hx hb hml hown hts hK hP  (by decide) rfl rfl rfl hl.1 rfl (Nat.le_of_ble_eq_true rfl) (Nat.zero_le _) (Nat.zero_le _) dX3_rankOf_9 ?_
      refine n_ge (tgt := 34) hx hb dX3_rankOf_12 (by decide) (by omega) (by omega) (fun h_12 => ?_) (fun h_12 => ?_)
      · rw [ha, show x0 = 2 ^ S 26 k by omega] at hl
        refine n_iconst 0 hx hb dX3_rankOf_34 ?_
        refine lv_istore (lv' := [(4, .int (nI (0))), (0, .ref (ad (25))), (1, .int (nI (k))), (2, .int (nI (Y))), (3, .int (nI (os (fun x => 1 <<< tm (S 26 k) (rC S k) x Y) (2 ^ S 26 k))))]) hx hb dX3_rankOf_35 hl (by decide) rfl (fun ls hl => ?_)
        refine n_iconst 0 hx hb dX3_rankOf_37 ?_
        refine lv_istore (lv' := [(5, .int (nI (0))), (4, .int (nI (0))), (0, .ref (ad (25))), (1, .int (nI (k))), (2, .int (nI (Y))), (3, .int (nI (os (fun x => 1 <<< tm (S 26 k) (rC S k) x Y) (2 ^ S 26 k))))]) hx hb dX3_rankOf_38 hl (by decide) rfl (fun ls hl => ?_)
        have L_40 : ∀ (r : Nat) (mc : Nat) (q : Nat), (q ≤ 16) → (16 < q + r) → (mc = cnt (fun j => (os (fun x => 1 <<< tm (S 26 k) (rC S k) x Y) (2 ^ S 26 k)).testBit j) q) → ∀ (ls : Array Slot), lv_has ls 6 [(0, .ref (ad (25))), (1, .int (nI (k))), (2, .int (nI (Y))), (3, .int (nI (os (fun x => 1 <<< tm (S 26 k) (rC S k) x Y) (2 ^ S 26 k)))), (4, .int (nI (mc))), (5, .int (nI (q)))] → W p l e ({ frames := 1, cells := 0, slots := 0, locals := 26 } : Room) s m args below meth c s.heap [] 0 0 (MQ below (k2_QcV (.int (nI (rnk (S 26 k) (rC S k) Y)))) args s 0 0 (fun _ => False)) (F0 m 40 ls []) := by
          intro r
          induction r with
          | zero => intro mc q hq1 hr2 hc; intros; exact absurd hr2 (by omega)
          | succ r ih =>
            intro mc q hq1 hr2 hc ls hl
            have ih_40 := ih
            refine lv_iload hx hb dX3_rankOf_40 (lv_at hl 5 rfl) ?_
            refine lv_bipush (v := nI 16) hx hb dX3_rankOf_42 (by decide) ?_
            refine n_ge (tgt := 64) hx hb dX3_rankOf_44 (by decide) (by omega) (by omega) (fun h_44 => ?_) (fun h_44 => ?_)
            · rw [show mc = pcn (os (fun x => 1 <<< tm (S 26 k) (rC S k) x Y) (2 ^ S 26 k)) from by rw [hc, show q = 16 by omega]; rfl] at hl
              refine n_iconst 0 hx hb dX3_rankOf_64 ?_
              refine lv_istore (lv' := [(5, .int (nI (0))), (0, .ref (ad (25))), (1, .int (nI (k))), (2, .int (nI (Y))), (3, .int (nI (os (fun x => 1 <<< tm (S 26 k) (rC S k) x Y) (2 ^ S 26 k)))), (4, .int (nI (pcn (os (fun x => 1 <<< tm (S 26 k) (rC S k) x Y) (2 ^ S 26 k)))))]) hx hb dX3_rankOf_65 hl (by decide) rfl (fun ls hl => ?_)
              have L_67 : ∀ (r : Nat) (t : Nat), (t ≤ 4) → (4 < t + r) → (∀ j, j < t → 2 ^ j < pcn (os (fun x => 1 <<< tm (S 26 k) (rC S k) x Y) (2 ^ S 26 k))) → ∀ (ls : Array Slot), lv_has ls 6 [(0, .ref (ad (25))), (1, .int (nI (k))), (2, .int (nI (Y))), (4, .int (nI (pcn (os (fun x => 1 <<< tm (S 26 k) (rC S k) x Y) (2 ^ S 26 k))))), (5, .int (nI (t)))] → W p l e ({ frames := 1, cells := 0, slots := 0, locals := 26 } : Room) s m args below meth c s.heap [] 0 0 (MQ below (k2_QcV (.int (nI (rnk (S 26 k) (rC S k) Y)))) args s 0 0 (fun _ => False)) (F0 m 67 ls []) := by
                intro r
                induction r with
                | zero => intro t ht hr3 hno; intros; exact absurd hr3 (by omega)
                | succ r ih =>
                  intro t ht hr3 hno ls hl
                  have ih_67 := ih
                  refine n_iconst 1 hx hb dX3_rankOf_67 ?_
                  refine lv_iload hx hb dX3_rankOf_68 (lv_at hl 4 rfl) ?_
                  refine n_ishl hx hb dX3_rankOf_70 (by omega) ?_
                  have hq2 := shl1_lt (k := t) (n := 5) (by omega)
                  refine lv_iload hx hb dX3_rankOf_71 (lv_at hl 3 rfl) ?_
                  refine n_ge (tgt := 82) hx hb dX3_rankOf_73 (by decide) (by omega) (by omega) (fun h_73 => ?_) (fun h_73 => ?_)
                  · refine lv_iload hx hb dX3_rankOf_82 (lv_at hl 4 rfl) ?_
                    exact g_iret hx hb hrt hlocks dX3_rankOf_84 (by rw [show rnk (S 26 k) (rC S k) Y = t from lgn_at ((shl1 t) ▸ h_73) hno (by omega)])
                  · refine n_iinc 4 1 (lv' := [(5, .int (nI (t + 1))), (0, .ref (ad (25))), (1, .int (nI (k))), (2, .int (nI (Y))), (4, .int (nI (pcn (os (fun x => 1 <<< tm (S 26 k) (rC S k) x Y) (2 ^ S 26 k)))))]) hx hb dX3_rankOf_76 hl rfl (by decide) rfl (fun ls hl => ?_)
                    refine n_goto 67 hx hb dX3_rankOf_79 (by decide) ?_
                    exact ih_67 (t + 1) (t4 (by omega) (pw_s hno h_73) ht) (by omega) (pw_s hno h_73) _ (lv_sub hl [1, 2, 3, 4, 0] rfl)
              exact L_67 5 (0) (Nat.zero_le _) (by omega) (fun j h => absurd h (by omega)) _ (lv_sub hl [1, 2, 3, 5, 0] rfl)
            · refine lv_iload hx hb dX3_rankOf_47 (lv_at hl 4 rfl) ?_
              refine lv_iload_n hx hb dX3_rankOf_49 rfl (lv_at hl 3 rfl) ?_
              refine lv_iload hx hb dX3_rankOf_50 (lv_at hl 5 rfl) ?_
              refine n_ishr hx hb dX3_rankOf_52 (by omega) (by omega) ?_
              refine n_iconst 1 hx hb dX3_rankOf_53 ?_
              refine n_iand hx hb dX3_rankOf_54 ?_
              refine n_iadd hx hb dX3_rankOf_55 ?_
              refine lv_istore (lv' := [(4, .int (nI (mc + (((os (fun x => 1 <<< tm (S 26 k) (rC S k) x Y) (2 ^ S 26 k)) >>> q) &&& 1)))), (0, .ref (ad (25))), (1, .int (nI (k))), (2, .int (nI (Y))), (3, .int (nI (os (fun x => 1 <<< tm (S 26 k) (rC S k) x Y) (2 ^ S 26 k)))), (5, .int (nI (q)))]) hx hb dX3_rankOf_56 hl (by decide) rfl (fun ls hl => ?_)
              refine n_iinc 5 1 (lv' := [(5, .int (nI (q + 1))), (4, .int (nI (mc + (((os (fun x => 1 <<< tm (S 26 k) (rC S k) x Y) (2 ^ S 26 k)) >>> q) &&& 1)))), (0, .ref (ad (25))), (1, .int (nI (k))), (2, .int (nI (Y))), (3, .int (nI (os (fun x => 1 <<< tm (S 26 k) (rC S k) x Y) (2 ^ S 26 k))))]) hx hb dX3_rankOf_58 hl rfl (by decide) rfl (fun ls hl => ?_)
              refine n_goto 40 hx hb dX3_rankOf_61 (by decide) ?_
              exact ih_40 (mc + (((os (fun x => 1 <<< tm (S 26 k) (rC S k) x Y) (2 ^ S 26 k)) >>> q) &&& 1)) (q + 1) (by omega) (by omega) (by rw [hc, and1_tb]; rfl) _ (lv_sub hl [2, 3, 4, 5, 1, 0] rfl)
        exact L_40 17 (0) (0) (Nat.zero_le _) (by omega) rfl _ (lv_sub hl [2, 3, 4, 5, 1, 0] rfl)
      · refine lv_iload_n hx hb dX3_rankOf_15 rfl (lv_at hl 3 rfl) ?_
        refine n_iconst 1 hx hb dX3_rankOf_16 ?_
        refine lv_aload_n hx hb dX3_rankOf_17 rfl (lv_at hl 0 rfl) ?_
        refine lv_iload_n hx hb dX3_rankOf_18 rfl (lv_at hl 1 rfl) ?_
        refine lv_iload hx hb dX3_rankOf_19 (lv_at hl 4 rfl) ?_
        refine lv_iload_n hx hb dX3_rankOf_21 rfl (lv_at hl 2 rfl) ?_
        refine g_callV (25) (C := RX3) (T := TX3) (N := 7) (ci := 2) (As := [.int (nI (k)), .int (nI (x0)), .int (nI (Y))]) (rest := [.int (nI (1)), .int (nI (acc))]) (c_X3_times l hI (k := k) hk5 h4k (X := x0) (Y := Y) (by omega) (by omega)) (cwV 3 hts gX3_rankOf_X3_times rfl rfl rfl (by decide +kernel) ⟨Nat.le_of_ble_eq_true rfl, Nat.le_of_ble_eq_true rfl⟩) hx hb hml hown hts hK hP  (by decide) rfl rfl rfl hl.1 rfl (Nat.le_of_ble_eq_true rfl) (Nat.zero_le _) (Nat.zero_le _) dX3_rankOf_22 ?_
        have hm9 := tm_lt hcb x0 Y
        refine n_ishl hx hb dX3_rankOf_25 (by omega) ?_
        refine n_ior hx hb dX3_rankOf_26 ?_
        refine lv_istore_n (lv' := [(3, .int (nI (acc ||| (1 <<< (tm (S 26 k) (rC S k) x0 Y))))), (0, .ref (ad (25))), (1, .int (nI (k))), (2, .int (nI (Y))), (4, .int (nI (x0)))]) hx hb dX3_rankOf_27 rfl hl (by decide) rfl (fun ls hl => ?_)
        refine n_iinc 4 1 (lv' := [(4, .int (nI (x0 + 1))), (3, .int (nI (acc ||| (1 <<< (tm (S 26 k) (rC S k) x0 Y))))), (0, .ref (ad (25))), (1, .int (nI (k))), (2, .int (nI (Y)))]) hx hb dX3_rankOf_28 hl rfl (by decide) rfl (fun ls hl => ?_)
        refine n_goto 5 hx hb dX3_rankOf_31 (by decide) ?_
        exact ih_5 (acc ||| (1 <<< (tm (S 26 k) (rC S k) x0 Y))) (x0 + 1) (by omega) (by omega) (by rw [ha]; rfl) _ (lv_sub hl [2, 3, 4, 1, 0] rfl)
  exact L_5 (2 ^ S 26 k + 1) (0) (0) (Nat.zero_le _) (by omega) rfl _ (lv_sub hl [2, 3, 4, 1, 0] rfl)
set_option maxHeartbeats 4000000 in
set_option maxRecDepth 100000 in
theorem c_X3_rank (l : Launch) {D : va_G} {tys : List (ClassId × FieldType)} {ad : Nat → Nat} {cI cW cM : ClassId} {tI : Nat} {S : Nat → Nat → Nat} (hI : tys[tI]? = some (cI, .int)) (hRF : RF S) {a y : Int32} : Met l yX3_rank wsX3_rank ({ frames := 2, cells := 0, slots := 0, locals := 51 } : Room) (va_Pc [.ref (ad (25)), .int (a), .int (y)] (PB D tys 33 ad (gE cI cW cM ad S))) (k2_QcV (.int (sC_rank (rN_ S) (rC S) a y))) 0 0 (fun _ => False) := by
  refine g_pure (cc := cX3_rank) (maxL := 3) (ret := (some .int)) (by decide) rfl (Nat.le_of_ble_eq_true rfl) ?_
  intro p e s m args below meth c hx hb hrt hts hown hlocks hml hP hK ls hl
  show W p l e ({ frames := 2, cells := 0, slots := 0, locals := 51 } : Room) s m args below meth c s.heap [] 0 0 _ _
  have hl : lv_has ls 3 [(0, .ref (ad (25))), (1, .int (a)), (2, .int (y))] := hl
  refine lv_iload_n hx hb dX3_rank_0 rfl (lv_at hl 1 rfl) ?_
  refine g_callS (As := [.int (a)]) (rest := []) (c_X3_isSlot l hI (v := a)) (va_cwS 1 hts gX3_rank_X3_isSlot rfl rfl rfl (by decide +kernel) ⟨Nat.le_of_ble_eq_true rfl, Nat.le_of_ble_eq_true rfl⟩) hx hb hml hown hts hK hP  rfl hl.1 rfl (Nat.le_of_ble_eq_true rfl) (Nat.zero_le _) (Nat.zero_le _) dX3_rank_1 ?_
  refine n_ifeq_b (tgt := 25) hx hb dX3_rank_4 (by decide) (fun h_4 => ?_) (fun h_4 => ?_)
  · refine lv_iconst (v := (-1)) hx hb dX3_rank_25 (by decide) ?_
    exact g_iret hx hb hrt hlocks dX3_rank_26 (by unfold sC_rank; (try dsimp only [rN_]); rw [rg_n h_4])
  · obtain ⟨k, hk1, hk2, e9⟩ := rB_some (by omega) (by omega) h_4
    subst e9
    have hk5 : k < 5 := by omega
    have qk1 := (hRF.1 k (by omega)).1
    have h4k := qk1.2
    have hcbk := (hRF.1 k (by omega)).2
    have qk2 := pow4 h4k
    have qk3 : 0 < 2 ^ S 26 k := Nat.pow_pos (by decide)
    have qk4 := sq4 qk2
    refine lv_aload_n hx hb dX3_rank_7 rfl (lv_at hl 0 rfl) ?_
    refine lv_iload_n hx hb dX3_rank_8 rfl (lv_at hl 1 rfl) ?_
    refine lv_iload_n hx hb dX3_rank_9 rfl (lv_at hl 2 rfl) ?_
    refine g_callV (25) (C := RX3) (T := TX3) (N := 7) (ci := 2) (As := [.int (nI (k)), .int (y)]) (rest := []) (c_X3_isNumber l hI (k := k) hk5 h4k (v := y)) (cwV 2 hts gX3_rank_X3_isNumber rfl rfl rfl (by decide +kernel) ⟨Nat.le_of_ble_eq_true rfl, Nat.le_of_ble_eq_true rfl⟩) hx hb hml hown hts hK hP  (by decide) rfl rfl rfl hl.1 rfl (Nat.le_of_ble_eq_true rfl) (Nat.zero_le _) (Nat.zero_le _) dX3_rank_10 ?_
    refine n_ifeq_b (tgt := 25) hx hb dX3_rank_13 (by decide) (fun h_13 => ?_) (fun h_13 => ?_)
    · refine lv_iconst (v := (-1)) hx hb dX3_rank_25 (by decide) ?_
      exact g_iret hx hb hrt hlocks dX3_rank_26 (by unfold sC_rank; (try dsimp only [rN_]); rw [rg_y (by omega) (by omega) (by omega), rg_n h_13])
    · obtain ⟨Y, hY1, hY2, e9⟩ := rB_some (by omega) (by omega) h_13
      subst e9
      refine lv_aload_n hx hb dX3_rank_16 rfl (lv_at hl 0 rfl) ?_
      refine lv_iload_n hx hb dX3_rank_17 rfl (lv_at hl 1 rfl) ?_
      refine lv_iload_n hx hb dX3_rank_18 rfl (lv_at hl 2 rfl) ?_
      refine g_callV (25) (C := RX3) (T := TX3) (N := 7) (ci := 2) (As := [.int (nI (k)), .int (nI (Y))]) (rest := []) (c_X3_rankOf l hI (k := k) hk5 h4k hcbk (Y := Y) (by omega)) (cwV 2 hts gX3_rank_X3_rankOf rfl rfl rfl (by decide +kernel) ⟨Nat.le_of_ble_eq_true rfl, Nat.le_of_ble_eq_true rfl⟩) hx hb hml hown hts hK hP  (by decide) rfl rfl rfl hl.1 rfl (Nat.le_of_ble_eq_true rfl) (Nat.zero_le _) (Nat.zero_le _) dX3_rank_19 ?_
      refine n_goto 26 hx hb dX3_rank_22 (by decide) ?_
      exact g_iret hx hb hrt hlocks dX3_rank_26 (by unfold sC_rank; (try dsimp only [rN_]); rw [rg_y (by omega) (by omega) (by omega), rg_y (by omega) (by omega) (by omega)])
set_option maxHeartbeats 4000000 in
set_option maxRecDepth 100000 in
theorem c_X3_ranks (l : Launch) {D : va_G} {tys : List (ClassId × FieldType)} {ad : Nat → Nat} {cI cW cM : ClassId} {tI : Nat} {S : Nat → Nat → Nat} (hI : tys[tI]? = some (cI, .int)) (hRF : RF S) {a x : Int32} : Met l yX3_ranks wsX3_ranks ({ frames := 2, cells := 0, slots := 0, locals := 51 } : Room) (va_Pc [.ref (ad (25)), .int (a), .int (x)] (PB D tys 33 ad (gE cI cW cM ad S))) (k2_QcV (.int (sC_ranks (rN_ S) (rC S) a x))) 0 0 (fun _ => False) := by
  refine g_pure (cc := cX3_ranks) (maxL := 5) (ret := (some .int)) (by decide) rfl (Nat.le_of_ble_eq_true rfl) ?_
  intro p e s m args below meth c hx hb hrt hts hown hlocks hml hP hK ls hl
  show W p l e ({ frames := 2, cells := 0, slots := 0, locals := 51 } : Room) s m args below meth c s.heap [] 0 0 _ _
  have hl : lv_has ls 5 [(0, .ref (ad (25))), (1, .int (a)), (2, .int (x))] := hl
  refine lv_iload_n hx hb dX3_ranks_0 rfl (lv_at hl 1 rfl) ?_
  refine g_callS (As := [.int (a)]) (rest := []) (c_X3_isSlot l hI (v := a)) (va_cwS 1 hts gX3_ranks_X3_isSlot rfl rfl rfl (by decide +kernel) ⟨Nat.le_of_ble_eq_true rfl, Nat.le_of_ble_eq_true rfl⟩) hx hb hml hown hts hK hP  rfl hl.1 rfl (Nat.le_of_ble_eq_true rfl) (Nat.zero_le _) (Nat.zero_le _) dX3_ranks_1 ?_
  refine n_ifne_b (tgt := 9) hx hb dX3_ranks_4 (by decide) (fun h_4 => ?_) (fun h_4 => ?_)
  · obtain ⟨k, hk1, hk2, e9⟩ := rB_some (by omega) (by omega) h_4
    subst e9
    have hk5 : k < 5 := by omega
    have qk1 := (hRF.1 k (by omega)).1
    have h4k := qk1.2
    have hcbk := (hRF.1 k (by omega)).2
    have qk2 := pow4 h4k
    have qk3 : 0 < 2 ^ S 26 k := Nat.pow_pos (by decide)
    have qk4 := sq4 qk2
    refine lv_iload_n hx hb dX3_ranks_9 rfl (lv_at hl 2 rfl) ?_
    refine n_iconst 0 hx hb dX3_ranks_10 ?_
    refine n_iconst 4 hx hb dX3_ranks_11 ?_
    refine g_callS (As := [.int (x), .int (nI (0)), .int (nI (4))]) (rest := []) (c_X3_in l hI (v := x) (lo := 0) (hi := 4)) (va_cwS 3 hts gX3_ranks_X3_in rfl rfl rfl (by decide +kernel) ⟨Nat.le_of_ble_eq_true rfl, Nat.le_of_ble_eq_true rfl⟩) hx hb hml hown hts hK hP  rfl hl.1 rfl (Nat.le_of_ble_eq_true rfl) (Nat.zero_le _) (Nat.zero_le _) dX3_ranks_12 ?_
    refine n_ifne_b (tgt := 21) hx hb dX3_ranks_15 (by decide) (fun h_15 => ?_) (fun h_15 => ?_)
    · obtain ⟨X, hX1, hX2, e9⟩ := rB_some (by omega) (by omega) h_15
      subst e9
      refine n_iconst 0 hx hb dX3_ranks_21 ?_
      refine lv_istore_n (lv' := [(3, .int (nI (0))), (0, .ref (ad (25))), (1, .int (nI (k))), (2, .int (nI (X)))]) hx hb dX3_ranks_22 rfl hl (by decide) rfl (fun ls hl => ?_)
      refine n_iconst 0 hx hb dX3_ranks_23 ?_
      refine lv_istore (lv' := [(4, .int (nI (0))), (3, .int (nI (0))), (0, .ref (ad (25))), (1, .int (nI (k))), (2, .int (nI (X)))]) hx hb dX3_ranks_24 hl (by decide) rfl (fun ls hl => ?_)
      have L_26 : ∀ (r : Nat) (acc : Nat) (y : Nat), (y ≤ 2 ^ S 26 k) → (2 ^ S 26 k < y + r) → (acc = cnt (fun y => rnk (S 26 k) (rC S k) y == X) y) → ∀ (ls : Array Slot), lv_has ls 5 [(0, .ref (ad (25))), (1, .int (nI (k))), (2, .int (nI (X))), (3, .int (nI (acc))), (4, .int (nI (y)))] → W p l e ({ frames := 2, cells := 0, slots := 0, locals := 51 } : Room) s m args below meth c s.heap [] 0 0 (MQ below (k2_QcV (.int (sC_ranks (rN_ S) (rC S) ((nI k)) ((nI X))))) args s 0 0 (fun _ => False)) (F0 m 26 ls []) := by
        intro r
        induction r with
        | zero => intro acc y hy hr ha; intros; exact absurd hr (by omega)
        | succ r ih =>
          intro acc y hy hr ha ls hl
          have ih_26 := ih
          refine lv_iload hx hb dX3_ranks_26 (lv_at hl 4 rfl) ?_
          refine lv_aload_n hx hb dX3_ranks_28 rfl (lv_at hl 0 rfl) ?_
          refine lv_iload_n hx hb dX3_ranks_29 rfl (lv_at hl 1 rfl) ?_
          refine g_callV (25) (C := RX3) (T := TX3) (N := 7) (ci := 2) (As := [.int (nI (k))]) (rest := [.int (nI (y))]) (c_X3_numbers l hI (k := k) hk5 h4k) (cwV 1 hts gX3_ranks_X3_numbers rfl rfl rfl (by decide +kernel) ⟨Nat.le_of_ble_eq_true rfl, Nat.le_of_ble_eq_true rfl⟩) hx hb hml hown hts hK hP  (by decide) rfl rfl rfl hl.1 rfl (Nat.le_of_ble_eq_true rfl) (Nat.zero_le _) (Nat.zero_le _) dX3_ranks_30 ?_
          refine n_ge (tgt := 61) hx hb dX3_ranks_33 (by decide) (by omega) (by omega) (fun h_33 => ?_) (fun h_33 => ?_)
          · refine lv_iload_n hx hb dX3_ranks_61 rfl (lv_at hl 3 rfl) ?_
            exact g_iret hx hb hrt hlocks dX3_ranks_62 (by unfold sC_ranks; (try dsimp only [rN_]); rw [rg_y (by omega) (by omega) (by omega), rg_y (by omega) (by omega) (by omega), ha, show y = 2 ^ S 26 k by omega])
          · refine lv_iload_n hx hb dX3_ranks_36 rfl (lv_at hl 3 rfl) ?_
            refine lv_aload_n hx hb dX3_ranks_37 rfl (lv_at hl 0 rfl) ?_
            refine lv_iload_n hx hb dX3_ranks_38 rfl (lv_at hl 1 rfl) ?_
            refine lv_iload hx hb dX3_ranks_39 (lv_at hl 4 rfl) ?_
            refine g_callV (25) (C := RX3) (T := TX3) (N := 7) (ci := 2) (As := [.int (nI (k)), .int (nI (y))]) (rest := [.int (nI (acc))]) (c_X3_rankOf l hI (k := k) hk5 h4k hcbk (Y := y) (by omega)) (cwV 2 hts gX3_ranks_X3_rankOf rfl rfl rfl (by decide +kernel) ⟨Nat.le_of_ble_eq_true rfl, Nat.le_of_ble_eq_true rfl⟩) hx hb hml hown hts hK hP  (by decide) rfl rfl rfl hl.1 rfl (Nat.le_of_ble_eq_true rfl) (Nat.zero_le _) (Nat.zero_le _) dX3_ranks_41 ?_
            refine lv_iload_n hx hb dX3_ranks_44 rfl (lv_at hl 2 rfl) ?_
            have hl9 : rnk (S 26 k) (rC S k) y ≤ 4 := lgn_le _
            refine n_cne (tgt := 52) hx hb dX3_ranks_45 (by decide) (by omega) (by omega) (fun h_45 => ?_) (fun h_45 => ?_)
            · refine n_iconst 0 hx hb dX3_ranks_52 ?_
              refine n_iadd hx hb dX3_ranks_53 ?_
              refine lv_istore_n (lv' := [(3, .int (nI (acc + 0))), (0, .ref (ad (25))), (1, .int (nI (k))), (2, .int (nI (X))), (4, .int (nI (y)))]) hx hb dX3_ranks_54 rfl hl (by decide) rfl (fun ls hl => ?_)
              refine n_iinc 4 1 (lv' := [(4, .int (nI (y + 1))), (3, .int (nI (acc + 0))), (0, .ref (ad (25))), (1, .int (nI (k))), (2, .int (nI (X)))]) hx hb dX3_ranks_55 hl rfl (by decide) rfl (fun ls hl => ?_)
              refine n_goto 26 hx hb dX3_ranks_58 (by decide) ?_
              exact ih_26 (acc + 0) (y + 1) (by omega) (by omega) (by rw [ha, cnt_n (p := (fun y => rnk (S 26 k) (rC S k) y == X)) (bF h_45)]; rfl) _ (lv_sub hl [2, 3, 4, 1, 0] rfl)
            · refine n_iconst 1 hx hb dX3_ranks_48 ?_
              refine n_goto 53 hx hb dX3_ranks_49 (by decide) ?_
              refine n_iadd hx hb dX3_ranks_53 ?_
              refine lv_istore_n (lv' := [(3, .int (nI (acc + 1))), (0, .ref (ad (25))), (1, .int (nI (k))), (2, .int (nI (X))), (4, .int (nI (y)))]) hx hb dX3_ranks_54 rfl hl (by decide) rfl (fun ls hl => ?_)
              refine n_iinc 4 1 (lv' := [(4, .int (nI (y + 1))), (3, .int (nI (acc + 1))), (0, .ref (ad (25))), (1, .int (nI (k))), (2, .int (nI (X)))]) hx hb dX3_ranks_55 hl rfl (by decide) rfl (fun ls hl => ?_)
              refine n_goto 26 hx hb dX3_ranks_58 (by decide) ?_
              exact ih_26 (acc + 1) (y + 1) (by omega) (by omega) (by rw [ha, cnt_y (p := (fun y => rnk (S 26 k) (rC S k) y == X)) (bT h_45)]) _ (lv_sub hl [2, 3, 4, 1, 0] rfl)
      exact L_26 (2 ^ S 26 k + 1) (0) (0) (Nat.zero_le _) (by omega) rfl _ (lv_sub hl [2, 3, 4, 1, 0] rfl)
    · refine lv_bipush (v := (-2)) hx hb dX3_ranks_18 (by decide) ?_
      exact g_iret hx hb hrt hlocks dX3_ranks_20 (by unfold sC_ranks; (try dsimp only [rN_]); rw [rg_y (by omega) (by omega) (by omega), rg_n h_15])
  · refine lv_iconst (v := (-1)) hx hb dX3_ranks_7 (by decide) ?_
    exact g_iret hx hb hrt hlocks dX3_ranks_8 (by unfold sC_ranks; (try dsimp only [rN_]); rw [rg_n h_4])
