set_option maxHeartbeats 4000000 in
set_option maxRecDepth 100000 in
/-- tableIndex(x, y): 16 x + y -/
theorem c_X1_tableIndex (l : Launch) {D : va_G} {tys : List (ClassId × FieldType)} {ad : Nat → Nat} {n : Nat} {E : Nat → va_E} {cI : ClassId} {t0 b nn : Nat} {c0 tt : Nat → Nat} (hI : tys[t0]? = some (cI, .int)) (hbn : b + 2 < n) (hw : isW cI ad E b nn c0 tt) {X Y : Nat} (hX : X < 16) (hY : Y < 16) : Met l yX1_tableIndex wsX1_tableIndex ({ frames := 0, cells := 0, slots := 0, locals := 0 } : Room) (va_Pc [.int (nI (X)), .int (nI (Y))] (PB D tys n ad (E))) (k2_QcV (.int (nI (16 * X + Y)))) 0 0 (fun _ => False) := by
  refine g_pure (cc := cX1_tableIndex) (maxL := 2) (ret := (some .int)) (by decide) rfl (Nat.le_of_ble_eq_true rfl) ?_
  intro p e s m args below meth c hx hb hrt hts hown hlocks hml hP hK ls hl
  show W p l e ({ frames := 0, cells := 0, slots := 0, locals := 0 } : Room) s m args below meth c s.heap [] 0 0 _ _
  have hl : lv_has ls 2 [(0, .int (nI (X))), (1, .int (nI (Y)))] := hl
  refine lv_iload_n hx hb dX1_tableIndex_0 rfl (lv_at hl 0 rfl) ?_
  refine lv_bipush (v := nI 15) hx hb dX1_tableIndex_1 (by decide) ?_
  refine n_iand hx hb dX1_tableIndex_3 ?_
  refine n_iconst 4 hx hb dX1_tableIndex_4 ?_
  refine n_ishl hx hb dX1_tableIndex_5 (by omega) ?_
  refine lv_iload_n hx hb dX1_tableIndex_6 rfl (lv_at hl 1 rfl) ?_
  refine lv_bipush (v := nI 15) hx hb dX1_tableIndex_7 (by decide) ?_
  refine n_iand hx hb dX1_tableIndex_9 ?_
  refine n_ior hx hb dX1_tableIndex_10 ?_
  exact g_iret hx hb hrt hlocks dX1_tableIndex_11 (by rw [ti_eq X hX Y hY])
set_option maxHeartbeats 4000000 in
set_option maxRecDepth 100000 in
/-- cellIndex(i, j): 4 i + j -/
theorem c_X2_cellIndex (l : Launch) {D : va_G} {tys : List (ClassId × FieldType)} {ad : Nat → Nat} {n : Nat} {E : Nat → va_E} {cI : ClassId} {t0 b nn : Nat} {c0 tt : Nat → Nat} (hI : tys[t0]? = some (cI, .int)) (hbn : b + 2 < n) (hw : isW cI ad E b nn c0 tt) {I J : Nat} (hi4 : I < 4) (hj4 : J < 4) : Met l yX2_cellIndex wsX2_cellIndex ({ frames := 0, cells := 0, slots := 0, locals := 0 } : Room) (va_Pc [.int (nI (I)), .int (nI (J))] (PB D tys n ad (E))) (k2_QcV (.int (nI (4 * I + J)))) 0 0 (fun _ => False) := by
  refine g_pure (cc := cX2_cellIndex) (maxL := 2) (ret := (some .int)) (by decide) rfl (Nat.le_of_ble_eq_true rfl) ?_
  intro p e s m args below meth c hx hb hrt hts hown hlocks hml hP hK ls hl
  show W p l e ({ frames := 0, cells := 0, slots := 0, locals := 0 } : Room) s m args below meth c s.heap [] 0 0 _ _
  have hl : lv_has ls 2 [(0, .int (nI (I))), (1, .int (nI (J)))] := hl
  refine lv_iload_n hx hb dX2_cellIndex_0 rfl (lv_at hl 0 rfl) ?_
  refine n_iconst 3 hx hb dX2_cellIndex_1 ?_
  refine n_iand hx hb dX2_cellIndex_2 ?_
  refine n_iconst 2 hx hb dX2_cellIndex_3 ?_
  refine n_ishl hx hb dX2_cellIndex_4 (by omega) ?_
  refine lv_iload_n hx hb dX2_cellIndex_5 rfl (lv_at hl 1 rfl) ?_
  refine n_iconst 3 hx hb dX2_cellIndex_6 ?_
  refine n_iand hx hb dX2_cellIndex_7 ?_
  refine n_ior hx hb dX2_cellIndex_8 ?_
  exact g_iret hx hb hrt hlocks dX2_cellIndex_9 (by rw [ci_eq I hi4 J hj4])
set_option maxHeartbeats 4000000 in
set_option maxRecDepth 100000 in
theorem c_X1_cell (l : Launch) {D : va_G} {tys : List (ClassId × FieldType)} {ad : Nat → Nat} {n : Nat} {E : Nat → va_E} {cI : ClassId} {t0 b nn : Nat} {c0 tt : Nat → Nat} (hI : tys[t0]? = some (cI, .int)) (hbn : b + 2 < n) (hw : isW cI ad E b nn c0 tt) {I J : Nat} (hi4 : I < 4) (hj4 : J < 4) : Met l yX1_cell wsX1_cell ({ frames := 1, cells := 0, slots := 0, locals := 21 } : Room) (va_Pc [.ref (ad (b)), .int (nI (I)), .int (nI (J))] (PB D tys n ad (E))) (k2_QcV (.int (nI (c0 (4 * I + J))))) 0 0 (fun _ => False) := by
  refine g_pure (cc := cX1_cell) (maxL := 3) (ret := (some .int)) (by decide) rfl (Nat.le_of_ble_eq_true rfl) ?_
  intro p e s m args below meth c hx hb hrt hts hown hlocks hml hP hK ls hl
  show W p l e ({ frames := 1, cells := 0, slots := 0, locals := 21 } : Room) s m args below meth c s.heap [] 0 0 _ _
  have hl : lv_has ls 3 [(0, .ref (ad (b))), (1, .int (nI (I))), (2, .int (nI (J)))] := hl
  refine lv_aload_n hx hb dX1_cell_0 rfl (lv_at hl 0 rfl) ?_
  refine g_get (b) 2 (C := RX1) (T := TX1) (N := 4) (ci := 0) (ref := "CubeWorlds$World") hx hb hts (by decide +kernel) hown hK hP (by omega) hw.1 rfl (by decide) (by decide +kernel) rfl rfl dX1_cell_1 ?_
  refine lv_iload_n hx hb dX1_cell_4 rfl (lv_at hl 1 rfl) ?_
  refine lv_iload_n hx hb dX1_cell_5 rfl (lv_at hl 2 rfl) ?_
  refine g_callSN (As := [.int (nI (I)), .int (nI (J))]) (rest := [.ref (ad (b + 1))]) (k := 2) (c_X2_cellIndex l hI hbn hw hi4 hj4) ggX1_cell_X2_cellIndex rfl rfl rfl hK.2 (by decide +kernel) (by decide +kernel) (by decide +kernel) ⟨Nat.le_of_ble_eq_true rfl, Nat.le_of_ble_eq_true rfl⟩ hx hb hml hown hts hK hP  rfl hl.1 rfl (Nat.le_of_ble_eq_true rfl) (Nat.zero_le _) (Nat.zero_le _) dX1_cell_6 ?_
  refine g_iald (b + 1) (4 * I + J) (t0 := _) hx hb hK hP (by omega) hw.2.1 hI (by omega) (by decide) dX1_cell_9 ?_
  exact g_iret hx hb hrt hlocks dX1_cell_10 rfl
set_option maxHeartbeats 4000000 in
set_option maxRecDepth 100000 in
theorem c_X1_times (l : Launch) {D : va_G} {tys : List (ClassId × FieldType)} {ad : Nat → Nat} {n : Nat} {E : Nat → va_E} {cI : ClassId} {t0 b nn : Nat} {c0 tt : Nat → Nat} (hI : tys[t0]? = some (cI, .int)) (hbn : b + 2 < n) (hw : isW cI ad E b nn c0 tt) {X Y : Nat} (ht : tOK nn c0 tt) (hnn : nn ≤ 4) (hX : X < 2 ^ nn) (hY : Y < 2 ^ nn) : Met l yX1_times wsX1_times ({ frames := 1, cells := 0, slots := 0, locals := 21 } : Room) (va_Pc [.ref (ad (b)), .int (nI (X)), .int (nI (Y))] (PB D tys n ad (E))) (k2_QcV (.int (nI (tm nn c0 X Y)))) 0 0 (fun _ => False) := by
  have p4 := pow4 hnn
  refine g_pure (cc := cX1_times) (maxL := 3) (ret := (some .int)) (by decide) rfl (Nat.le_of_ble_eq_true rfl) ?_
  intro p e s m args below meth c hx hb hrt hts hown hlocks hml hP hK ls hl
  show W p l e ({ frames := 1, cells := 0, slots := 0, locals := 21 } : Room) s m args below meth c s.heap [] 0 0 _ _
  have hl : lv_has ls 3 [(0, .ref (ad (b))), (1, .int (nI (X))), (2, .int (nI (Y)))] := hl
  refine lv_aload_n hx hb dX1_times_0 rfl (lv_at hl 0 rfl) ?_
  refine g_get (b) 3 (C := RX1) (T := TX1) (N := 4) (ci := 0) (ref := "CubeWorlds$World") hx hb hts (by decide +kernel) hown hK hP (by omega) hw.1 rfl (by decide) (by decide +kernel) rfl rfl dX1_times_1 ?_
  refine lv_iload_n hx hb dX1_times_4 rfl (lv_at hl 1 rfl) ?_
  refine lv_iload_n hx hb dX1_times_5 rfl (lv_at hl 2 rfl) ?_
  refine g_callS (As := [.int (nI (X)), .int (nI (Y))]) (rest := [.ref (ad (b + 2))]) (c_X1_tableIndex l hI hbn hw (X := X) (Y := Y) (by omega) (by omega)) (va_cwS 2 hts gX1_times_X1_tableIndex rfl rfl rfl (by decide +kernel) ⟨Nat.le_of_ble_eq_true rfl, Nat.le_of_ble_eq_true rfl⟩) hx hb hml hown hts hK hP  rfl hl.1 rfl (Nat.le_of_ble_eq_true rfl) (Nat.zero_le _) (Nat.zero_le _) dX1_times_6 ?_
  refine g_iald (b + 2) (16 * X + Y) (t0 := _) hx hb hK hP (by omega) hw.2.2 hI (by omega) (by decide) dX1_times_9 ?_
  exact g_iret hx hb hrt hlocks dX1_times_10 (by rw [ht X hX Y hY])
set_option maxHeartbeats 4000000 in
set_option maxRecDepth 100000 in
theorem c_X1_sumOfCells (l : Launch) {D : va_G} {tys : List (ClassId × FieldType)} {ad : Nat → Nat} {n : Nat} {E : Nat → va_E} {cI : ClassId} {t0 b nn : Nat} {c0 tt : Nat → Nat} (hI : tys[t0]? = some (cI, .int)) (hbn : b + 2 < n) (hw : isW cI ad E b nn c0 tt) {X Y : Nat} (hnn : nn ≤ 4) (hX : X < 16) (hY : Y < 16) : Met l yX1_sumOfCells wsX1_sumOfCells ({ frames := 2, cells := 0, slots := 0, locals := 43 } : Room) (va_Pc [.ref (ad (b)), .int (nI (X)), .int (nI (Y))] (PB D tys n ad (E))) (k2_QcV (.int (nI (tm nn c0 X Y)))) 0 0 (fun _ => False) := by
  refine g_pure (cc := cX1_sumOfCells) (maxL := 6) (ret := (some .int)) (by decide) rfl (Nat.le_of_ble_eq_true rfl) ?_
  intro p e s m args below meth c hx hb hrt hts hown hlocks hml hP hK ls hl
  show W p l e ({ frames := 2, cells := 0, slots := 0, locals := 43 } : Room) s m args below meth c s.heap [] 0 0 _ _
  have hl : lv_has ls 6 [(0, .ref (ad (b))), (1, .int (nI (X))), (2, .int (nI (Y)))] := hl
  refine n_iconst 0 hx hb dX1_sumOfCells_0 ?_
  refine lv_istore_n (lv' := [(3, .int (nI (0))), (0, .ref (ad (b))), (1, .int (nI (X))), (2, .int (nI (Y)))]) hx hb dX1_sumOfCells_1 rfl hl (by decide) rfl (fun ls hl => ?_)
  refine n_iconst 0 hx hb dX1_sumOfCells_2 ?_
  refine lv_istore (lv' := [(4, .int (nI (0))), (3, .int (nI (0))), (0, .ref (ad (b))), (1, .int (nI (X))), (2, .int (nI (Y)))]) hx hb dX1_sumOfCells_3 hl (by decide) rfl (fun ls hl => ?_)
  have L_5 : ∀ (r : Nat) (i : Nat) (acc : Nat), (i ≤ nn) → (nn < i + r) → (acc = xs (tmi nn c0 X Y) i) → ∀ (ls : Array Slot), lv_has ls 6 [(0, .ref (ad (b))), (1, .int (nI (X))), (2, .int (nI (Y))), (3, .int (nI (acc))), (4, .int (nI (i)))] → W p l e ({ frames := 2, cells := 0, slots := 0, locals := 43 } : Room) s m args below meth c s.heap [] 0 0 (MQ below (k2_QcV (.int (nI (tm nn c0 X Y)))) args s 0 0 (fun _ => False)) (F0 m 5 ls []) := by
    intro r
    induction r with
    | zero => intro i acc hi hr ha; intros; exact absurd hr (by omega)
    | succ r ih =>
      intro i acc hi hr ha ls hl
      have ih_5 := ih
      refine lv_iload hx hb dX1_sumOfCells_5 (lv_at hl 4 rfl) ?_
      refine lv_aload_n hx hb dX1_sumOfCells_7 rfl (lv_at hl 0 rfl) ?_
      refine g_get (b) 0 (C := RX1) (T := TX1) (N := 4) (ci := 0) (ref := "CubeWorlds$World") hx hb hts (by decide +kernel) hown hK hP (by omega) hw.1 rfl (by decide) (by decide +kernel) rfl rfl dX1_sumOfCells_8 ?_
      refine n_ge (tgt := 64) hx hb dX1_sumOfCells_11 (by decide) (by omega) (by omega) (fun h_11 => ?_) (fun h_11 => ?_)
      · refine lv_iload_n hx hb dX1_sumOfCells_64 rfl (lv_at hl 3 rfl) ?_
        exact g_iret hx hb hrt hlocks dX1_sumOfCells_65 (by rw [ha, show i = nn by omega]; rfl)
      · refine n_iconst 0 hx hb dX1_sumOfCells_14 ?_
        refine lv_istore (lv' := [(5, .int (nI (0))), (0, .ref (ad (b))), (1, .int (nI (X))), (2, .int (nI (Y))), (3, .int (nI (acc))), (4, .int (nI (i)))]) hx hb dX1_sumOfCells_15 hl (by decide) rfl (fun ls hl => ?_)
        have L_17 : ∀ (r : Nat) (j : Nat) (acc2 : Nat), (j ≤ nn) → (nn < j + r) → (acc2 = xs (tmi nn c0 X Y) i ^^^ xs (fun j => if X.testBit i && Y.testBit j then c0 (4 * i + j) else 0) j) → ∀ (ls : Array Slot), lv_has ls 6 [(0, .ref (ad (b))), (1, .int (nI (X))), (2, .int (nI (Y))), (3, .int (nI (acc2))), (4, .int (nI (i))), (5, .int (nI (j)))] → W p l e ({ frames := 2, cells := 0, slots := 0, locals := 43 } : Room) s m args below meth c s.heap [] 0 0 (MQ below (k2_QcV (.int (nI (tm nn c0 X Y)))) args s 0 0 (fun _ => False)) (F0 m 17 ls []) := by
          intro r
          induction r with
          | zero => intro j acc2 hj hr2 ha2; intros; exact absurd hr2 (by omega)
          | succ r ih =>
            intro j acc2 hj hr2 ha2 ls hl
            have ih_17 := ih
            refine lv_iload hx hb dX1_sumOfCells_17 (lv_at hl 5 rfl) ?_
            refine lv_aload_n hx hb dX1_sumOfCells_19 rfl (lv_at hl 0 rfl) ?_
            refine g_get (b) 0 (C := RX1) (T := TX1) (N := 4) (ci := 0) (ref := "CubeWorlds$World") hx hb hts (by decide +kernel) hown hK hP (by omega) hw.1 rfl (by decide) (by decide +kernel) rfl rfl dX1_sumOfCells_20 ?_
            refine n_ge (tgt := 58) hx hb dX1_sumOfCells_23 (by decide) (by omega) (by omega) (fun h_23 => ?_) (fun h_23 => ?_)
            · refine n_iinc 4 1 (lv' := [(4, .int (nI (i + 1))), (0, .ref (ad (b))), (1, .int (nI (X))), (2, .int (nI (Y))), (3, .int (nI (acc2))), (5, .int (nI (j)))]) hx hb dX1_sumOfCells_58 hl rfl (by decide) rfl (fun ls hl => ?_)
              refine n_goto 5 hx hb dX1_sumOfCells_61 (by decide) ?_
              exact ih_5 (i + 1) (acc2) (by omega) (by omega) (by rw [ha2, xs_s, show j = nn by omega]; rfl) _ (lv_sub hl [1, 2, 3, 4, 0] rfl)
            · refine lv_iload_n hx hb dX1_sumOfCells_26 rfl (lv_at hl 1 rfl) ?_
              refine lv_iload hx hb dX1_sumOfCells_27 (lv_at hl 4 rfl) ?_
              refine n_ishr hx hb dX1_sumOfCells_29 (by omega) (by omega) ?_
              refine lv_iload_n hx hb dX1_sumOfCells_30 rfl (lv_at hl 2 rfl) ?_
              refine lv_iload hx hb dX1_sumOfCells_31 (lv_at hl 5 rfl) ?_
              refine n_ishr hx hb dX1_sumOfCells_33 (by omega) (by omega) ?_
              refine n_iand hx hb dX1_sumOfCells_34 ?_
              refine n_iconst 1 hx hb dX1_sumOfCells_35 ?_
              refine n_iand hx hb dX1_sumOfCells_36 ?_
              refine n_iconst 1 hx hb dX1_sumOfCells_37 ?_
              refine n_cne (tgt := 52) hx hb dX1_sumOfCells_38 (by decide) (and1_lt _) (by decide) (fun h_38 => ?_) (fun h_38 => ?_)
              · refine n_iinc 5 1 (lv' := [(5, .int (nI (j + 1))), (0, .ref (ad (b))), (1, .int (nI (X))), (2, .int (nI (Y))), (3, .int (nI (acc2))), (4, .int (nI (i)))]) hx hb dX1_sumOfCells_52 hl rfl (by decide) rfl (fun ls hl => ?_)
                refine n_goto 17 hx hb dX1_sumOfCells_55 (by decide) ?_
                exact ih_17 (j + 1) (acc2) (by omega) (by omega) (by rw [ha2, tmi_n (fun z => h_38 ((bit1 X Y i j).mpr z))]) _ (lv_sub hl [1, 2, 3, 4, 5, 0] rfl)
              · refine lv_iload_n hx hb dX1_sumOfCells_41 rfl (lv_at hl 3 rfl) ?_
                refine lv_aload_n hx hb dX1_sumOfCells_42 rfl (lv_at hl 0 rfl) ?_
                refine lv_iload hx hb dX1_sumOfCells_43 (lv_at hl 4 rfl) ?_
                refine lv_iload hx hb dX1_sumOfCells_45 (lv_at hl 5 rfl) ?_
                refine g_callV (b) (C := RX1) (T := TX1) (N := 4) (ci := 0) (As := [.int (nI (i)), .int (nI (j))]) (rest := [.int (nI (acc2))]) (c_X1_cell l hI hbn hw (I := i) (J := j) (by omega) (by omega)) (cwV 2 hts gX1_sumOfCells_X1_cell rfl rfl rfl (by decide +kernel) ⟨Nat.le_of_ble_eq_true rfl, Nat.le_of_ble_eq_true rfl⟩) hx hb hml hown hts hK hP  (by omega) hw.1 rfl rfl hl.1 rfl (Nat.le_of_ble_eq_true rfl) (Nat.zero_le _) (Nat.zero_le _) dX1_sumOfCells_47 ?_
                refine n_ixor hx hb dX1_sumOfCells_50 ?_
                refine lv_istore_n (lv' := [(3, .int (nI (acc2 ^^^ (c0 (4 * i + j))))), (0, .ref (ad (b))), (1, .int (nI (X))), (2, .int (nI (Y))), (4, .int (nI (i))), (5, .int (nI (j)))]) hx hb dX1_sumOfCells_51 rfl hl (by decide) rfl (fun ls hl => ?_)
                refine n_iinc 5 1 (lv' := [(5, .int (nI (j + 1))), (3, .int (nI (acc2 ^^^ (c0 (4 * i + j))))), (0, .ref (ad (b))), (1, .int (nI (X))), (2, .int (nI (Y))), (4, .int (nI (i)))]) hx hb dX1_sumOfCells_52 hl rfl (by decide) rfl (fun ls hl => ?_)
                refine n_goto 17 hx hb dX1_sumOfCells_55 (by decide) ?_
                exact ih_17 (j + 1) (acc2 ^^^ (c0 (4 * i + j))) (by omega) (by omega) (by rw [ha2, tmi_y ((bit1 X Y i j).mp h_38), Nat.xor_assoc]) _ (lv_sub hl [2, 3, 4, 1, 5, 0] rfl)
        exact L_17 (nn + 1) (0) (acc) (Nat.zero_le _) (by omega) (by rw [ha]; exact (Nat.xor_zero _).symm) _ (lv_sub hl [1, 2, 3, 4, 5, 0] rfl)
  exact L_5 (nn + 1) (0) (0) (Nat.zero_le _) (by omega) rfl _ (lv_sub hl [2, 3, 4, 1, 0] rfl)
set_option maxHeartbeats 4000000 in
set_option maxRecDepth 100000 in
theorem c_X1_bits (l : Launch) {D : va_G} {tys : List (ClassId × FieldType)} {ad : Nat → Nat} {n : Nat} {E : Nat → va_E} {cI : ClassId} {t0 b nn : Nat} {c0 tt : Nat → Nat} (hI : tys[t0]? = some (cI, .int)) (hbn : b + 2 < n) (hw : isW cI ad E b nn c0 tt) : Met l yX1_bits wsX1_bits ({ frames := 0, cells := 0, slots := 0, locals := 0 } : Room) (va_Pc [.ref (ad (b))] (PB D tys n ad (E))) (k2_QcV (.int (nI (nn)))) 0 0 (fun _ => False) := by
  refine g_pure (cc := cX1_bits) (maxL := 1) (ret := (some .int)) (by decide) rfl (Nat.le_of_ble_eq_true rfl) ?_
  intro p e s m args below meth c hx hb hrt hts hown hlocks hml hP hK ls hl
  show W p l e ({ frames := 0, cells := 0, slots := 0, locals := 0 } : Room) s m args below meth c s.heap [] 0 0 _ _
  have hl : lv_has ls 1 [(0, .ref (ad (b)))] := hl
  refine lv_aload_n hx hb dX1_bits_0 rfl (lv_at hl 0 rfl) ?_
  refine g_get (b) 0 (C := RX1) (T := TX1) (N := 4) (ci := 0) (ref := "CubeWorlds$World") hx hb hts (by decide +kernel) hown hK hP (by omega) hw.1 rfl (by decide) (by decide +kernel) rfl rfl dX1_bits_1 ?_
  exact g_iret hx hb hrt hlocks dX1_bits_4 rfl
set_option maxHeartbeats 4000000 in
set_option maxRecDepth 100000 in
theorem c_X1_size (l : Launch) {D : va_G} {tys : List (ClassId × FieldType)} {ad : Nat → Nat} {n : Nat} {E : Nat → va_E} {cI : ClassId} {t0 b nn : Nat} {c0 tt : Nat → Nat} (hI : tys[t0]? = some (cI, .int)) (hbn : b + 2 < n) (hw : isW cI ad E b nn c0 tt) : Met l yX1_size wsX1_size ({ frames := 0, cells := 0, slots := 0, locals := 0 } : Room) (va_Pc [.ref (ad (b))] (PB D tys n ad (E))) (k2_QcV (.int (nI (2 ^ nn)))) 0 0 (fun _ => False) := by
  refine g_pure (cc := cX1_size) (maxL := 1) (ret := (some .int)) (by decide) rfl (Nat.le_of_ble_eq_true rfl) ?_
  intro p e s m args below meth c hx hb hrt hts hown hlocks hml hP hK ls hl
  show W p l e ({ frames := 0, cells := 0, slots := 0, locals := 0 } : Room) s m args below meth c s.heap [] 0 0 _ _
  have hl : lv_has ls 1 [(0, .ref (ad (b)))] := hl
  refine lv_aload_n hx hb dX1_size_0 rfl (lv_at hl 0 rfl) ?_
  refine g_get (b) 1 (C := RX1) (T := TX1) (N := 4) (ci := 0) (ref := "CubeWorlds$World") hx hb hts (by decide +kernel) hown hK hP (by omega) hw.1 rfl (by decide) (by decide +kernel) rfl rfl dX1_size_1 ?_
  exact g_iret hx hb hrt hlocks dX1_size_4 rfl
set_option maxHeartbeats 4000000 in
set_option maxRecDepth 100000 in
theorem c_X1_has (l : Launch) {D : va_G} {tys : List (ClassId × FieldType)} {ad : Nat → Nat} {n : Nat} {E : Nat → va_E} {cI : ClassId} {t0 b nn : Nat} {c0 tt : Nat → Nat} (hI : tys[t0]? = some (cI, .int)) (hbn : b + 2 < n) (hw : isW cI ad E b nn c0 tt) {x : Int32} (hnn : nn ≤ 4) (h1n : 1 ≤ nn) : Met l yX1_has wsX1_has ({ frames := 0, cells := 0, slots := 0, locals := 0 } : Room) (va_Pc [.ref (ad (b)), .int (x)] (PB D tys n ad (E))) (k2_QcV (.int (bI (rB 0 (2 ^ nn - 1) x)))) 0 0 (fun _ => False) := by
  have p4 := pow4 hnn
  have p0 : 0 < 2 ^ nn := Nat.pow_pos (by decide)
  refine g_pure (cc := cX1_has) (maxL := 2) (ret := (some .boolean)) (by decide) rfl (Nat.le_of_ble_eq_true rfl) ?_
  intro p e s m args below meth c hx hb hrt hts hown hlocks hml hP hK ls hl
  show W p l e ({ frames := 0, cells := 0, slots := 0, locals := 0 } : Room) s m args below meth c s.heap [] 0 0 _ _
  have hl : lv_has ls 2 [(0, .ref (ad (b))), (1, .int (x))] := hl
  refine lv_iload_n hx hb dX1_has_0 rfl (lv_at hl 1 rfl) ?_
  refine lv_if_lt (tgt := 16) hx hb dX1_has_1 (by decide) (fun h_1 => ?_) (fun h_1 => ?_)
  · refine n_iconst 0 hx hb dX1_has_16 ?_
    exact g_zret (false) hx hb hrt hlocks dX1_has_17 rfl (by rw [rB_0 (by omega) (by omega)]; exact congrArg (fun b => Value.int (bI b)) (decide_eq_false (fun z => z.1 h_1)))
  · refine lv_iload_n hx hb dX1_has_4 rfl (lv_at hl 1 rfl) ?_
    refine lv_aload_n hx hb dX1_has_5 rfl (lv_at hl 0 rfl) ?_
    refine g_get (b) 1 (C := RX1) (T := TX1) (N := 4) (ci := 0) (ref := "CubeWorlds$World") hx hb hts (by decide +kernel) hown hK hP (by omega) hw.1 rfl (by decide) (by decide +kernel) rfl rfl dX1_has_6 ?_
    refine lv_icmp_ge (tgt := 16) hx hb dX1_has_9 (by decide) (fun h_9 => ?_) (fun h_9 => ?_)
    · refine n_iconst 0 hx hb dX1_has_16 ?_
      exact g_zret (false) hx hb hrt hlocks dX1_has_17 rfl (by rw [rB_0 (by omega) (by omega)]; exact congrArg (fun b => Value.int (bI b)) (decide_eq_false (fun z => z.2 h_9)))
    · refine n_iconst 1 hx hb dX1_has_12 ?_
      refine n_goto 17 hx hb dX1_has_13 (by decide) ?_
      exact g_zret (true) hx hb hrt hlocks dX1_has_17 rfl (by rw [rB_0 (by omega) (by omega)]; exact congrArg (fun b => Value.int (bI b)) (decide_eq_true ⟨h_1, h_9⟩))
set_option maxHeartbeats 4000000 in
set_option maxRecDepth 100000 in
theorem c_X1_hasBit (l : Launch) {D : va_G} {tys : List (ClassId × FieldType)} {ad : Nat → Nat} {n : Nat} {E : Nat → va_E} {cI : ClassId} {t0 b nn : Nat} {c0 tt : Nat → Nat} (hI : tys[t0]? = some (cI, .int)) (hbn : b + 2 < n) (hw : isW cI ad E b nn c0 tt) {x : Int32} (hnn : nn ≤ 4) (h1n : 1 ≤ nn) : Met l yX1_hasBit wsX1_hasBit ({ frames := 0, cells := 0, slots := 0, locals := 0 } : Room) (va_Pc [.ref (ad (b)), .int (x)] (PB D tys n ad (E))) (k2_QcV (.int (bI (rB 0 (nn - 1) x)))) 0 0 (fun _ => False) := by
  have p4 := pow4 hnn
  have p0 : 0 < 2 ^ nn := Nat.pow_pos (by decide)
  refine g_pure (cc := cX1_hasBit) (maxL := 2) (ret := (some .boolean)) (by decide) rfl (Nat.le_of_ble_eq_true rfl) ?_
  intro p e s m args below meth c hx hb hrt hts hown hlocks hml hP hK ls hl
  show W p l e ({ frames := 0, cells := 0, slots := 0, locals := 0 } : Room) s m args below meth c s.heap [] 0 0 _ _
  have hl : lv_has ls 2 [(0, .ref (ad (b))), (1, .int (x))] := hl
  refine lv_iload_n hx hb dX1_hasBit_0 rfl (lv_at hl 1 rfl) ?_
  refine lv_if_lt (tgt := 16) hx hb dX1_hasBit_1 (by decide) (fun h_1 => ?_) (fun h_1 => ?_)
  · refine n_iconst 0 hx hb dX1_hasBit_16 ?_
    exact g_zret (false) hx hb hrt hlocks dX1_hasBit_17 rfl (by rw [rB_0 (by omega) (by omega)]; exact congrArg (fun b => Value.int (bI b)) (decide_eq_false (fun z => z.1 h_1)))
  · refine lv_iload_n hx hb dX1_hasBit_4 rfl (lv_at hl 1 rfl) ?_
    refine lv_aload_n hx hb dX1_hasBit_5 rfl (lv_at hl 0 rfl) ?_
    refine g_get (b) 0 (C := RX1) (T := TX1) (N := 4) (ci := 0) (ref := "CubeWorlds$World") hx hb hts (by decide +kernel) hown hK hP (by omega) hw.1 rfl (by decide) (by decide +kernel) rfl rfl dX1_hasBit_6 ?_
    refine lv_icmp_ge (tgt := 16) hx hb dX1_hasBit_9 (by decide) (fun h_9 => ?_) (fun h_9 => ?_)
    · refine n_iconst 0 hx hb dX1_hasBit_16 ?_
      exact g_zret (false) hx hb hrt hlocks dX1_hasBit_17 rfl (by rw [rB_0 (by omega) (by omega)]; exact congrArg (fun b => Value.int (bI b)) (decide_eq_false (fun z => z.2 h_9)))
    · refine n_iconst 1 hx hb dX1_hasBit_12 ?_
      refine n_goto 17 hx hb dX1_hasBit_13 (by decide) ?_
      exact g_zret (true) hx hb hrt hlocks dX1_hasBit_17 rfl (by rw [rB_0 (by omega) (by omega)]; exact congrArg (fun b => Value.int (bI b)) (decide_eq_true ⟨h_1, h_9⟩))
set_option maxHeartbeats 4000000 in
set_option maxRecDepth 100000 in
theorem c_X1_cubeBit (l : Launch) {D : va_G} {tys : List (ClassId × FieldType)} {ad : Nat → Nat} {n : Nat} {E : Nat → va_E} {cI : ClassId} {t0 b nn : Nat} {c0 tt : Nat → Nat} (hI : tys[t0]? = some (cI, .int)) (hbn : b + 2 < n) (hw : isW cI ad E b nn c0 tt) {I J K : Nat} (hnn : nn ≤ 4) (hcb : CB nn c0) (hi4 : I < nn) (hj4 : J < nn) (hk4 : K < nn) : Met l yX1_cubeBit wsX1_cubeBit ({ frames := 2, cells := 0, slots := 0, locals := 43 } : Room) (va_Pc [.ref (ad (b)), .int (nI (I)), .int (nI (J)), .int (nI (K))] (PB D tys n ad (E))) (k2_QcV (.int (nI ((c0 (4 * I + J) >>> K) &&& 1)))) 0 0 (fun _ => False) := by
  have p4 := pow4 hnn
  have p0 : 0 < 2 ^ nn := Nat.pow_pos (by decide)
  have hc9 := hcb I hi4 J hj4
  refine g_pure (cc := cX1_cubeBit) (maxL := 4) (ret := (some .int)) (by decide) rfl (Nat.le_of_ble_eq_true rfl) ?_
  intro p e s m args below meth c hx hb hrt hts hown hlocks hml hP hK ls hl
  show W p l e ({ frames := 2, cells := 0, slots := 0, locals := 43 } : Room) s m args below meth c s.heap [] 0 0 _ _
  have hl : lv_has ls 4 [(0, .ref (ad (b))), (1, .int (nI (I))), (2, .int (nI (J))), (3, .int (nI (K)))] := hl
  refine lv_aload_n hx hb dX1_cubeBit_0 rfl (lv_at hl 0 rfl) ?_
  refine lv_iload_n hx hb dX1_cubeBit_1 rfl (lv_at hl 1 rfl) ?_
  refine lv_iload_n hx hb dX1_cubeBit_2 rfl (lv_at hl 2 rfl) ?_
  refine g_callV (b) (C := RX1) (T := TX1) (N := 4) (ci := 0) (As := [.int (nI (I)), .int (nI (J))]) (rest := []) (c_X1_cell l hI hbn hw (I := I) (J := J) (by omega) (by omega)) (cwV 2 hts gX1_cubeBit_X1_cell rfl rfl rfl (by decide +kernel) ⟨Nat.le_of_ble_eq_true rfl, Nat.le_of_ble_eq_true rfl⟩) hx hb hml hown hts hK hP  (by omega) hw.1 rfl rfl hl.1 rfl (Nat.le_of_ble_eq_true rfl) (Nat.zero_le _) (Nat.zero_le _) dX1_cubeBit_3 ?_
  refine lv_iload_n hx hb dX1_cubeBit_6 rfl (lv_at hl 3 rfl) ?_
  refine n_ishr hx hb dX1_cubeBit_7 (by omega) (by omega) ?_
  refine n_iconst 1 hx hb dX1_cubeBit_8 ?_
  refine n_iand hx hb dX1_cubeBit_9 ?_
  exact g_iret hx hb hrt hlocks dX1_cubeBit_10 rfl
set_option maxHeartbeats 4000000 in
set_option maxRecDepth 100000 in
theorem c_X1_fillTable (l : Launch) {D : va_G} {tys : List (ClassId × FieldType)} {A : Nat → Prop} {ad : Nat → Nat} {n : Nat} {E : Nat → va_E} {cI : ClassId} {t0 b nn : Nat} {c0 tt : Nat → Nat} (hI : tys[t0]? = some (cI, .int)) (hbn : b + 2 < n) (hw : isW cI ad E b nn c0 tt) (hnn : nn ≤ 4) : Met l yX1_fillTable wsX1_fillTable ({ frames := 3, cells := 0, slots := 0, locals := 68 } : Room) (va_Pc [.ref (ad (b))] (PW D tys A n ad (E))) (QW none (PW D tys A n ad (va_up E (b + 2) (.inl (cI, 256, .inl (nF (pf nn c0 tt (2 ^ nn) 0)))))) A) 0 0 A := by
  have p4 := pow4 hnn
  have p0 : 0 < 2 ^ nn := Nat.pow_pos (by decide)
  refine g_writes (cc := cX1_fillTable) (maxL := 3) (ret := none) (by decide) rfl (Nat.le_of_ble_eq_true rfl) ?_
  intro p e s m args below meth c hx hb hrt hts hown hlocks hml hP hK hD hS ls hl
  show W p l e ({ frames := 3, cells := 0, slots := 0, locals := 68 } : Room) s m args below meth c s.heap [] 0 0 _ _
  have hl : lv_has ls 3 [(0, .ref (ad (b)))] := hl
  rw [show E = va_up E (b + 2) (.inl (cI, 256, .inl (nF (pf nn c0 tt 0 0)))) from by rw [pf_00, va_up_same hw.2.2]] at hP
  refine n_iconst 0 hx hb dX1_fillTable_0 ?_
  refine lv_istore_n (lv' := [(1, .int (nI (0))), (0, .ref (ad (b)))]) hx hb dX1_fillTable_1 rfl hl (by decide) rfl (fun ls hl => ?_)
  have L_2 : ∀ (r : Nat) (i : Nat), (i ≤ 2 ^ nn) → (2 ^ nn < i + r) → ∀ (H : Heap) (locs : List Loc), va_P D vwCl (pic n ad (va_up E (b + 2) (.inl (cI, 256, .inl (nF (pf nn c0 tt i 0)))))) H → va_S A s.heap H locs → ∀ (ls : Array Slot), lv_has ls 3 [(0, .ref (ad (b))), (1, .int (nI (i)))] → W p l e ({ frames := 3, cells := 0, slots := 0, locals := 68 } : Room) s m args below meth c H locs 0 0 (MQ below (QW none (PW D tys A n ad (va_up E (b + 2) (.inl (cI, 256, .inl (nF (pf nn c0 tt (2 ^ nn) 0)))))) A) args s 0 0 A) (F0 m 2 ls []) := by
    intro r
    induction r with
    | zero => intro i hi hr; intros; exact absurd hr (by omega)
    | succ r ih =>
      intro i hi hr H locs hP hS ls hl
      have ih_2 := ih
      refine lv_iload_n hx hb dX1_fillTable_2 rfl (lv_at hl 1 rfl) ?_
      refine lv_aload_n hx hb dX1_fillTable_3 rfl (lv_at hl 0 rfl) ?_
      refine g_get (b) 1 (C := RX1) (T := TX1) (N := 4) (ci := 0) (ref := "CubeWorlds$World") hx hb hts (by decide +kernel) hown hK hP (by omega) (hw.up2 _).1 rfl (by decide) (by decide +kernel) rfl rfl dX1_fillTable_4 ?_
      refine n_ge (tgt := 48) hx hb dX1_fillTable_7 (by decide) (by omega) (by omega) (fun h_7 => ?_) (fun h_7 => ?_)
      · rw [show i = 2 ^ nn by omega] at hP
        exact g_vretW hx hb hrt hlocks hK hP (pic_D _ hD) hS dX1_fillTable_48
      · refine n_iconst 0 hx hb dX1_fillTable_10 ?_
        refine lv_istore_n (lv' := [(2, .int (nI (0))), (0, .ref (ad (b))), (1, .int (nI (i)))]) hx hb dX1_fillTable_11 rfl hl (by decide) rfl (fun ls hl => ?_)
        have L_12 : ∀ (r : Nat) (j : Nat), (j ≤ 2 ^ nn) → (2 ^ nn < j + r) → ∀ (H : Heap) (locs : List Loc), va_P D vwCl (pic n ad (va_up E (b + 2) (.inl (cI, 256, .inl (nF (pf nn c0 tt i j)))))) H → va_S A s.heap H locs → ∀ (ls : Array Slot), lv_has ls 3 [(0, .ref (ad (b))), (1, .int (nI (i))), (2, .int (nI (j)))] → W p l e ({ frames := 3, cells := 0, slots := 0, locals := 68 } : Room) s m args below meth c H locs 0 0 (MQ below (QW none (PW D tys A n ad (va_up E (b + 2) (.inl (cI, 256, .inl (nF (pf nn c0 tt (2 ^ nn) 0)))))) A) args s 0 0 A) (F0 m 12 ls []) := by
          intro r
          induction r with
          | zero => intro j hj hr2; intros; exact absurd hr2 (by omega)
          | succ r ih =>
            intro j hj hr2 H locs hP hS ls hl
            have ih_12 := ih
            refine lv_iload_n hx hb dX1_fillTable_12 rfl (lv_at hl 2 rfl) ?_
            refine lv_aload_n hx hb dX1_fillTable_13 rfl (lv_at hl 0 rfl) ?_
            refine g_get (b) 1 (C := RX1) (T := TX1) (N := 4) (ci := 0) (ref := "CubeWorlds$World") hx hb hts (by decide +kernel) hown hK hP (by omega) (hw.up2 _).1 rfl (by decide) (by decide +kernel) rfl rfl dX1_fillTable_14 ?_
            refine n_ge (tgt := 42) hx hb dX1_fillTable_17 (by decide) (by omega) (by omega) (fun h_17 => ?_) (fun h_17 => ?_)
            · rw [show j = 2 ^ nn by omega, pf_row p4] at hP
              refine n_iinc 1 1 (lv' := [(1, .int (nI (i + 1))), (0, .ref (ad (b))), (2, .int (nI (j)))]) hx hb dX1_fillTable_42 hl rfl (by decide) rfl (fun ls hl => ?_)
              refine n_goto 2 hx hb dX1_fillTable_45 (by decide) ?_
              exact ih_2 (i + 1) (by omega) (by omega) _ _ hP hS _ (lv_sub hl [1, 0] rfl)
            · refine lv_aload_n hx hb dX1_fillTable_20 rfl (lv_at hl 0 rfl) ?_
              refine g_get (b) 3 (C := RX1) (T := TX1) (N := 4) (ci := 0) (ref := "CubeWorlds$World") hx hb hts (by decide +kernel) hown hK hP (by omega) (hw.up2 _).1 rfl (by decide) (by decide +kernel) rfl rfl dX1_fillTable_21 ?_
              refine lv_iload_n hx hb dX1_fillTable_24 rfl (lv_at hl 1 rfl) ?_
              refine lv_iload_n hx hb dX1_fillTable_25 rfl (lv_at hl 2 rfl) ?_
              refine g_callS (As := [.int (nI (i)), .int (nI (j))]) (rest := [.ref (ad (b + 2))]) (c_X1_tableIndex l hI hbn (hw.up2 _) (X := i) (Y := j) (by omega) (by omega)) (va_cwS 2 hts gX1_fillTable_X1_tableIndex rfl rfl rfl (by decide +kernel) ⟨Nat.le_of_ble_eq_true rfl, Nat.le_of_ble_eq_true rfl⟩) hx hb hml hown hts hK hP  rfl hl.1 rfl (Nat.le_of_ble_eq_true rfl) (Nat.zero_le _) (Nat.zero_le _) dX1_fillTable_26 ?_
              refine lv_aload_n hx hb dX1_fillTable_29 rfl (lv_at hl 0 rfl) ?_
              refine lv_iload_n hx hb dX1_fillTable_30 rfl (lv_at hl 1 rfl) ?_
              refine lv_iload_n hx hb dX1_fillTable_31 rfl (lv_at hl 2 rfl) ?_
              refine g_callV (b) (C := RX1) (T := TX1) (N := 4) (ci := 0) (As := [.int (nI (i)), .int (nI (j))]) (rest := [.int (nI (16 * i + j)), .ref (ad (b + 2))]) (c_X1_sumOfCells l hI hbn (hw.up2 _) (X := i) (Y := j) hnn (by omega) (by omega)) (cwV 2 hts gX1_fillTable_X1_sumOfCells rfl rfl rfl (by decide +kernel) ⟨Nat.le_of_ble_eq_true rfl, Nat.le_of_ble_eq_true rfl⟩) hx hb hml hown hts hK hP  (by omega) (hw.up2 _).1 rfl rfl hl.1 rfl (Nat.le_of_ble_eq_true rfl) (Nat.zero_le _) (Nat.zero_le _) dX1_fillTable_32 ?_
              refine g_iast (b + 2) (16 * i + j) (tm nn c0 i j) hx hb hK hP (pic_D _ hD) hS (by omega) (hw.up2 _).2.2 hI (by omega) (by decide) dX1_fillTable_35 (fun H locs hP hS => ?_)
              rw [va_up_up, pf_put (by omega) (by omega) p4] at hP
              refine n_iinc 2 1 (lv' := [(2, .int (nI (j + 1))), (0, .ref (ad (b))), (1, .int (nI (i)))]) hx hb dX1_fillTable_36 hl rfl (by decide) rfl (fun ls hl => ?_)
              refine n_goto 12 hx hb dX1_fillTable_39 (by decide) ?_
              exact ih_12 (j + 1) (by omega) (by omega) _ _ hP hS _ (lv_sub hl [1, 2, 0] rfl)
        exact L_12 (2 ^ nn + 1) (0) (Nat.zero_le _) (by omega) _ _ hP hS _ (lv_sub hl [1, 2, 0] rfl)
  exact L_2 (2 ^ nn + 1) (0) (Nat.zero_le _) (by omega) _ _ hP hS _ (lv_sub hl [1, 0] rfl)
set_option maxHeartbeats 4000000 in
set_option maxRecDepth 100000 in
theorem c_X1_changeCell (l : Launch) {D : va_G} {tys : List (ClassId × FieldType)} {A : Nat → Prop} {ad : Nat → Nat} {n : Nat} {E : Nat → va_E} {cI : ClassId} {t0 b nn : Nat} {c0 tt : Nat → Nat} (hI : tys[t0]? = some (cI, .int)) (hbn : b + 2 < n) (hw : isW cI ad E b nn c0 tt) {I J V : Nat} (hnn : nn ≤ 4) (hi4 : I < 4) (hj4 : J < 4) : Met l yX1_changeCell wsX1_changeCell ({ frames := 4, cells := 0, slots := 0, locals := 90 } : Room) (va_Pc [.ref (ad (b)), .int (nI (I)), .int (nI (J)), .int (nI (V))] (PW D tys A n ad (E))) (QW none (PW D tys A n ad (va_up (va_up E (b + 1) (.inl (cI, 16, .inl (nF (va_up c0 (4 * I + J) V))))) (b + 2) (.inl (cI, 256, .inl (nF (pf nn (va_up c0 (4 * I + J) V) tt (2 ^ nn) 0)))))) A) 0 0 A := by
  have p4 := pow4 hnn
  have p0 : 0 < 2 ^ nn := Nat.pow_pos (by decide)
  refine g_writes (cc := cX1_changeCell) (maxL := 4) (ret := none) (by decide) rfl (Nat.le_of_ble_eq_true rfl) ?_
  intro p e s m args below meth c hx hb hrt hts hown hlocks hml hP hK hD hS ls hl
  show W p l e ({ frames := 4, cells := 0, slots := 0, locals := 90 } : Room) s m args below meth c s.heap [] 0 0 _ _
  have hl : lv_has ls 4 [(0, .ref (ad (b))), (1, .int (nI (I))), (2, .int (nI (J))), (3, .int (nI (V)))] := hl
  refine lv_aload_n hx hb dX1_changeCell_0 rfl (lv_at hl 0 rfl) ?_
  refine g_get (b) 2 (C := RX1) (T := TX1) (N := 4) (ci := 0) (ref := "CubeWorlds$World") hx hb hts (by decide +kernel) hown hK hP (by omega) hw.1 rfl (by decide) (by decide +kernel) rfl rfl dX1_changeCell_1 ?_
  refine lv_iload_n hx hb dX1_changeCell_4 rfl (lv_at hl 1 rfl) ?_
  refine lv_iload_n hx hb dX1_changeCell_5 rfl (lv_at hl 2 rfl) ?_
  refine g_callSN (As := [.int (nI (I)), .int (nI (J))]) (rest := [.ref (ad (b + 1))]) (k := 2) (c_X2_cellIndex l hI hbn hw hi4 hj4) ggX1_changeCell_X2_cellIndex rfl rfl rfl hK.2 (by decide +kernel) (by decide +kernel) (by decide +kernel) ⟨Nat.le_of_ble_eq_true rfl, Nat.le_of_ble_eq_true rfl⟩ hx hb hml hown hts hK hP  rfl hl.1 rfl (Nat.le_of_ble_eq_true rfl) (Nat.zero_le _) (Nat.zero_le _) dX1_changeCell_6 ?_
  refine lv_iload_n hx hb dX1_changeCell_9 rfl (lv_at hl 3 rfl) ?_
  refine g_iast (b + 1) (4 * I + J) (V) hx hb hK hP (pic_D _ hD) hS (by omega) hw.2.1 hI (by omega) (by decide) dX1_changeCell_10 (fun H locs hP hS => ?_)
  refine lv_aload_n hx hb dX1_changeCell_11 rfl (lv_at hl 0 rfl) ?_
  refine g_callVW (b) (C := RX1) (T := TX1) (N := 4) (ci := 0) (As := []) (rest := []) (c_X1_fillTable l hI hbn (hw.up1 _) hnn) (cwV 0 hts gX1_changeCell_X1_fillTable rfl rfl rfl (by decide +kernel) ⟨Nat.le_of_ble_eq_true rfl, Nat.le_of_ble_eq_true rfl⟩) hx hb hml hown hts hK hP (pic_D _ hD) hS  (by omega) (hw.up1 _).1 rfl rfl hl.1 rfl (Nat.le_of_ble_eq_true rfl) (Nat.zero_le _) (Nat.zero_le _) dX1_changeCell_12 (fun H locs hP hS => ?_)
  exact g_vretW hx hb hrt hlocks hK hP (pic_D _ hD) hS dX1_changeCell_15
set_option maxHeartbeats 4000000 in
set_option maxRecDepth 100000 in
theorem c_X1_take (l : Launch) {D : va_G} {tys : List (ClassId × FieldType)} {A : Nat → Prop} {ad : Nat → Nat} {n : Nat} {E : Nat → va_E} {cI : ClassId} {t0 b nn : Nat} {c0 tt : Nat → Nat} (hI : tys[t0]? = some (cI, .int)) (hbn : b + 2 < n) (hw : isW cI ad E b nn c0 tt) {K cx : Nat} {e0 : Nat → Nat} (hK4 : K ≤ 4) (hcx : cx < n) (hcx0 : cx < b ∨ b + 2 < cx) (hex : E cx = .inl (cI, 16, .inl (nF e0))) : Met l yX1_take wsX1_take ({ frames := 4, cells := 0, slots := 0, locals := 90 } : Room) (va_Pc [.ref (ad (b)), .int (nI (K)), .ref (ad (cx))] (PW D tys A n ad (E))) (QW none (PW D tys A n ad (va_up (va_up (va_up E b (.inr (0, [.int (nI K), .int (nI (2 ^ K)), .ref (ad (b + 1)), .ref (ad (b + 2))]))) (b + 1) (.inl (cI, 16, .inl (nF (cpy e0 c0 16))))) (b + 2) (.inl (cI, 256, .inl (nF (pf K (cpy e0 c0 16) tt (2 ^ K) 0)))))) A) 0 0 A := by
  refine g_writes (cc := cX1_take) (maxL := 4) (ret := none) (by decide) rfl (Nat.le_of_ble_eq_true rfl) ?_
  intro p e s m args below meth c hx hb hrt hts hown hlocks hml hP hK hD hS ls hl
  show W p l e ({ frames := 4, cells := 0, slots := 0, locals := 90 } : Room) s m args below meth c s.heap [] 0 0 _ _
  have hl : lv_has ls 4 [(0, .ref (ad (b))), (1, .int (nI (K))), (2, .ref (ad (cx)))] := hl
  refine lv_aload_n hx hb dX1_take_0 rfl (lv_at hl 0 rfl) ?_
  refine lv_iload_n hx hb dX1_take_1 rfl (lv_at hl 1 rfl) ?_
  refine g_put (b) 0 (C := RX1) (T := TX1) (N := 4) (ci := 0) (ref := "CubeWorlds$World") (v := .int (nI (K))) (ty := .int) hx hb hts (by decide +kernel) tyX1 tyX1_ok nmX1 hown hK hP (pic_D _ hD) hS (by omega) hw.1 rfl (by decide) (by decide +kernel) rfl rfl (by decide +kernel) rfl rfl (Nat.le_of_ble_eq_true rfl) dX1_take_2 (fun H locs hP hS => ?_)
  have hP : va_P D vwCl (pic n ad (va_up E b (.inr (0, [.int (nI K), .int (nI (2 ^ nn)), .ref (ad (b + 1)), .ref (ad (b + 2))])))) H := hP
  refine lv_aload_n hx hb dX1_take_5 rfl (lv_at hl 0 rfl) ?_
  refine n_iconst 1 hx hb dX1_take_6 ?_
  refine lv_iload_n hx hb dX1_take_7 rfl (lv_at hl 1 rfl) ?_
  refine n_ishl hx hb dX1_take_8 (by omega) ?_
  refine n_eq (congrArg nI (shl1 K)) ?_
  refine g_put (b) 1 (C := RX1) (T := TX1) (N := 4) (ci := 0) (ref := "CubeWorlds$World") (v := .int (nI (2 ^ K))) (ty := .int) hx hb hts (by decide +kernel) tyX1 tyX1_ok nmX1 hown hK hP (pic_D _ hD) hS (by omega) (va_up_self _ _ _) rfl (by decide) (by decide +kernel) rfl rfl (by decide +kernel) rfl rfl (Nat.le_of_ble_eq_true rfl) dX1_take_9 (fun H locs hP hS => ?_)
  rw [va_up_up] at hP
  have hP : va_P D vwCl (pic n ad (va_up (va_up E b (.inr (0, [.int (nI K), .int (nI (2 ^ K)), .ref (ad (b + 1)), .ref (ad (b + 2))]))) (b + 1) (.inl (cI, 16, .inl (nF (cpy e0 c0 0)))))) H := by rw [tk_0 hw]; exact hP
  refine n_iconst 0 hx hb dX1_take_12 ?_
  refine lv_istore_n (lv' := [(3, .int (nI (0))), (0, .ref (ad (b))), (1, .int (nI (K))), (2, .ref (ad (cx)))]) hx hb dX1_take_13 rfl hl (by decide) rfl (fun ls hl => ?_)
  have L_14 : ∀ (r : Nat) (i : Nat), (i ≤ 16) → (16 < i + r) → ∀ (H : Heap) (locs : List Loc), va_P D vwCl (pic n ad (va_up (va_up E b (.inr (0, [.int (nI K), .int (nI (2 ^ K)), .ref (ad (b + 1)), .ref (ad (b + 2))]))) (b + 1) (.inl (cI, 16, .inl (nF (cpy e0 c0 i)))))) H → va_S A s.heap H locs → ∀ (ls : Array Slot), lv_has ls 4 [(0, .ref (ad (b))), (1, .int (nI (K))), (2, .ref (ad (cx))), (3, .int (nI (i)))] → W p l e ({ frames := 4, cells := 0, slots := 0, locals := 90 } : Room) s m args below meth c H locs 0 0 (MQ below (QW none (PW D tys A n ad (va_up (va_up (va_up E b (.inr (0, [.int (nI K), .int (nI (2 ^ K)), .ref (ad (b + 1)), .ref (ad (b + 2))]))) (b + 1) (.inl (cI, 16, .inl (nF (cpy e0 c0 16))))) (b + 2) (.inl (cI, 256, .inl (nF (pf K (cpy e0 c0 16) tt (2 ^ K) 0)))))) A) args s 0 0 A) (F0 m 14 ls []) := by
    intro r
    induction r with
    | zero => intro i hi hr; intros; exact absurd hr (by omega)
    | succ r ih =>
      intro i hi hr H locs hP hS ls hl
      have ih_14 := ih
      refine lv_iload_n hx hb dX1_take_14 rfl (lv_at hl 3 rfl) ?_
      refine lv_aload_n hx hb dX1_take_15 rfl (lv_at hl 0 rfl) ?_
      refine g_get (b) 2 (C := RX1) (T := TX1) (N := 4) (ci := 0) (ref := "CubeWorlds$World") hx hb hts (by decide +kernel) hown hK hP (by omega) (tk_W hw e0 _).1 rfl (by decide) (by decide +kernel) rfl rfl dX1_take_16 ?_
      refine g_alen (b + 1) hx hb hK hP (by omega) (tk_W hw e0 _).2.1 hI dX1_take_19 ?_
      refine n_ge (tgt := 44) hx hb dX1_take_20 (by decide) (by omega) (by omega) (fun h_20 => ?_) (fun h_20 => ?_)
      · rw [show i = 16 by omega] at hP
        refine lv_aload_n hx hb dX1_take_44 rfl (lv_at hl 0 rfl) ?_
        refine g_callVW (b) (C := RX1) (T := TX1) (N := 4) (ci := 0) (As := []) (rest := []) (c_X1_fillTable l hI hbn (tk_W hw e0 16) hK4) (cwV 0 hts gX1_take_X1_fillTable rfl rfl rfl (by decide +kernel) ⟨Nat.le_of_ble_eq_true rfl, Nat.le_of_ble_eq_true rfl⟩) hx hb hml hown hts hK hP (pic_D _ hD) hS  (by omega) (tk_W hw e0 _).1 rfl rfl hl.1 rfl (Nat.le_of_ble_eq_true rfl) (Nat.zero_le _) (Nat.zero_le _) dX1_take_45 (fun H locs hP hS => ?_)
        exact g_vretW hx hb hrt hlocks hK hP (pic_D _ hD) hS dX1_take_48
      · refine lv_iload_n hx hb dX1_take_23 rfl (lv_at hl 3 rfl) ?_
        refine lv_aload_n hx hb dX1_take_24 rfl (lv_at hl 2 rfl) ?_
        refine g_alen (cx) hx hb hK hP hcx (tk_X hcx0 hex) hI dX1_take_25 ?_
        refine n_ge (tgt := 44) hx hb dX1_take_26 (by decide) (by omega) (by omega) (fun h_26 => ?_) (fun h_26 => ?_)
        · exact absurd h_26 (by omega)
        · refine lv_aload_n hx hb dX1_take_29 rfl (lv_at hl 0 rfl) ?_
          refine g_get (b) 2 (C := RX1) (T := TX1) (N := 4) (ci := 0) (ref := "CubeWorlds$World") hx hb hts (by decide +kernel) hown hK hP (by omega) (tk_W hw e0 _).1 rfl (by decide) (by decide +kernel) rfl rfl dX1_take_30 ?_
          refine lv_iload_n hx hb dX1_take_33 rfl (lv_at hl 3 rfl) ?_
          refine lv_aload_n hx hb dX1_take_34 rfl (lv_at hl 2 rfl) ?_
          refine lv_iload_n hx hb dX1_take_35 rfl (lv_at hl 3 rfl) ?_
          refine g_iald (cx) (i) (t0 := _) hx hb hK hP hcx (tk_X hcx0 hex) hI (by omega) (by decide) dX1_take_36 ?_
          refine g_iast (b + 1) (i) (e0 (i)) hx hb hK hP (pic_D _ hD) hS (by omega) (tk_W hw e0 _).2.1 hI (by omega) (by decide) dX1_take_37 (fun H locs hP hS => ?_)
          rw [va_up_up, cpy_put] at hP
          refine n_iinc 3 1 (lv' := [(3, .int (nI (i + 1))), (0, .ref (ad (b))), (1, .int (nI (K))), (2, .ref (ad (cx)))]) hx hb dX1_take_38 hl rfl (by decide) rfl (fun ls hl => ?_)
          refine n_goto 14 hx hb dX1_take_41 (by decide) ?_
          exact ih_14 (i + 1) (by omega) (by omega) _ _ hP hS _ (lv_sub hl [1, 2, 3, 0] rfl)
  exact L_14 17 (0) (Nat.zero_le _) (by omega) _ _ hP hS _ (lv_sub hl [1, 2, 3, 0] rfl)
set_option maxHeartbeats 4000000 in
set_option maxRecDepth 100000 in
theorem c_X1_leastPartner (l : Launch) {D : va_G} {tys : List (ClassId × FieldType)} {ad : Nat → Nat} {n : Nat} {E : Nat → va_E} {cI : ClassId} {t0 b nn : Nat} {c0 tt : Nat → Nat} (hI : tys[t0]? = some (cI, .int)) (hbn : b + 2 < n) (hw : isW cI ad E b nn c0 tt) {X : Nat} (ht : tOK nn c0 tt) (hnn : nn ≤ 4) (hcb : CB nn c0) (hX : X < 2 ^ nn) : Met l yX1_leastPartner wsX1_leastPartner ({ frames := 2, cells := 0, slots := 0, locals := 43 } : Room) (va_Pc [.ref (ad (b)), .int (nI (X))] (PB D tys n ad (E))) (k2_QcV (.int (oI (lpr nn c0 X)))) 0 0 (fun _ => False) := by
  have p4 := pow4 hnn
  have p0 : 0 < 2 ^ nn := Nat.pow_pos (by decide)
  refine g_pure (cc := cX1_leastPartner) (maxL := 3) (ret := (some .int)) (by decide) rfl (Nat.le_of_ble_eq_true rfl) ?_
  intro p e s m args below meth c hx hb hrt hts hown hlocks hml hP hK ls hl
  show W p l e ({ frames := 2, cells := 0, slots := 0, locals := 43 } : Room) s m args below meth c s.heap [] 0 0 _ _
  have hl : lv_has ls 3 [(0, .ref (ad (b))), (1, .int (nI (X)))] := hl
  refine n_iconst 1 hx hb dX1_leastPartner_0 ?_
  refine lv_istore_n (lv' := [(2, .int (nI (1))), (0, .ref (ad (b))), (1, .int (nI (X)))]) hx hb dX1_leastPartner_1 rfl hl (by decide) rfl (fun ls hl => ?_)
  have L_2 : ∀ (r : Nat) (y : Nat), (1 ≤ y) → (y ≤ 2 ^ nn) → (2 ^ nn < y + r) → (∀ j, 1 ≤ j → j < y → (tm nn c0 X j == 0) = false) → ∀ (ls : Array Slot), lv_has ls 3 [(0, .ref (ad (b))), (1, .int (nI (X))), (2, .int (nI (y)))] → W p l e ({ frames := 2, cells := 0, slots := 0, locals := 43 } : Room) s m args below meth c s.heap [] 0 0 (MQ below (k2_QcV (.int (oI (lpr nn c0 X)))) args s 0 0 (fun _ => False)) (F0 m 2 ls []) := by
    intro r
    induction r with
    | zero => intro y hy1 hy hr hno; intros; exact absurd hr (by omega)
    | succ r ih =>
      intro y hy1 hy hr hno ls hl
      have ih_2 := ih
      refine lv_iload_n hx hb dX1_leastPartner_2 rfl (lv_at hl 2 rfl) ?_
      refine lv_aload_n hx hb dX1_leastPartner_3 rfl (lv_at hl 0 rfl) ?_
      refine g_get (b) 1 (C := RX1) (T := TX1) (N := 4) (ci := 0) (ref := "CubeWorlds$World") hx hb hts (by decide +kernel) hown hK hP (by omega) hw.1 rfl (by decide) (by decide +kernel) rfl rfl dX1_leastPartner_4 ?_
      refine n_ge (tgt := 27) hx hb dX1_leastPartner_7 (by decide) (by omega) (by omega) (fun h_7 => ?_) (fun h_7 => ?_)
      · refine lv_bipush (v := (-9)) hx hb dX1_leastPartner_27 (by decide) ?_
        exact g_iret hx hb hrt hlocks dX1_leastPartner_29 (by rw [show lpr nn c0 X = none from fl_no (fun j h1 h2 => hno j h1 (by omega))]; rfl)
      · refine lv_aload_n hx hb dX1_leastPartner_10 rfl (lv_at hl 0 rfl) ?_
        refine lv_iload_n hx hb dX1_leastPartner_11 rfl (lv_at hl 1 rfl) ?_
        refine lv_iload_n hx hb dX1_leastPartner_12 rfl (lv_at hl 2 rfl) ?_
        refine g_callV (b) (C := RX1) (T := TX1) (N := 4) (ci := 0) (As := [.int (nI (X)), .int (nI (y))]) (rest := []) (c_X1_times l hI hbn hw (X := X) (Y := y) ht hnn (by omega) (by omega)) (cwV 2 hts gX1_leastPartner_X1_times rfl rfl rfl (by decide +kernel) ⟨Nat.le_of_ble_eq_true rfl, Nat.le_of_ble_eq_true rfl⟩) hx hb hml hown hts hK hP  (by omega) hw.1 rfl rfl hl.1 rfl (Nat.le_of_ble_eq_true rfl) (Nat.zero_le _) (Nat.zero_le _) dX1_leastPartner_13 ?_
        have hm9 := tm_lt hcb X y
        refine n_z_ne (tgt := 21) hx hb dX1_leastPartner_16 (by decide) (by omega) (fun h_16 => ?_) (fun h_16 => ?_)
        · refine n_iinc 2 1 (lv' := [(2, .int (nI (y + 1))), (0, .ref (ad (b))), (1, .int (nI (X)))]) hx hb dX1_leastPartner_21 hl rfl (by decide) rfl (fun ls hl => ?_)
          refine n_goto 2 hx hb dX1_leastPartner_24 (by decide) ?_
          exact ih_2 (y + 1) (by omega) (by omega) (by omega) (no_s hno (bF h_16)) _ (lv_sub hl [1, 2, 0] rfl)
        · refine lv_iload_n hx hb dX1_leastPartner_19 rfl (lv_at hl 2 rfl) ?_
          exact g_iret hx hb hrt hlocks dX1_leastPartner_20 (by rw [show lpr nn c0 X = some y from fl_at hy1 (by omega) (bT h_16) hno]; rfl)
  exact L_2 (2 ^ nn + 1) (1) (Nat.le_refl _) (by omega) (by omega) (fun j h1 h2 => absurd h1 (by omega)) _ (lv_sub hl [1, 2, 0] rfl)
set_option maxHeartbeats 4000000 in
set_option maxRecDepth 100000 in
theorem c_X1_leastBroken (l : Launch) {D : va_G} {tys : List (ClassId × FieldType)} {ad : Nat → Nat} {n : Nat} {E : Nat → va_E} {cI : ClassId} {t0 b nn : Nat} {c0 tt : Nat → Nat} (hI : tys[t0]? = some (cI, .int)) (hbn : b + 2 < n) (hw : isW cI ad E b nn c0 tt) (ht : tOK nn c0 tt) (hnn : nn ≤ 4) (hcb : CB nn c0) : Met l yX1_leastBroken wsX1_leastBroken ({ frames := 3, cells := 0, slots := 0, locals := 65 } : Room) (va_Pc [.ref (ad (b))] (PB D tys n ad (E))) (k2_QcV (.int (oI (lbr nn c0)))) 0 0 (fun _ => False) := by
  have p4 := pow4 hnn
  have p0 : 0 < 2 ^ nn := Nat.pow_pos (by decide)
  refine g_pure (cc := cX1_leastBroken) (maxL := 2) (ret := (some .int)) (by decide) rfl (Nat.le_of_ble_eq_true rfl) ?_
  intro p e s m args below meth c hx hb hrt hts hown hlocks hml hP hK ls hl
  show W p l e ({ frames := 3, cells := 0, slots := 0, locals := 65 } : Room) s m args below meth c s.heap [] 0 0 _ _
  have hl : lv_has ls 2 [(0, .ref (ad (b)))] := hl
  refine n_iconst 1 hx hb dX1_leastBroken_0 ?_
  refine lv_istore_n (lv' := [(1, .int (nI (1))), (0, .ref (ad (b)))]) hx hb dX1_leastBroken_1 rfl hl (by decide) rfl (fun ls hl => ?_)
  have L_2 : ∀ (r : Nat) (x : Nat), (1 ≤ x) → (x ≤ 2 ^ nn) → (2 ^ nn < x + r) → (∀ j, 1 ≤ j → j < x → (lpr nn c0 j).isSome = false) → ∀ (ls : Array Slot), lv_has ls 2 [(0, .ref (ad (b))), (1, .int (nI (x)))] → W p l e ({ frames := 3, cells := 0, slots := 0, locals := 65 } : Room) s m args below meth c s.heap [] 0 0 (MQ below (k2_QcV (.int (oI (lbr nn c0)))) args s 0 0 (fun _ => False)) (F0 m 2 ls []) := by
    intro r
    induction r with
    | zero => intro x hy1 hy hr hno; intros; exact absurd hr (by omega)
    | succ r ih =>
      intro x hy1 hy hr hno ls hl
      have ih_2 := ih
      refine lv_iload_n hx hb dX1_leastBroken_2 rfl (lv_at hl 1 rfl) ?_
      refine lv_aload_n hx hb dX1_leastBroken_3 rfl (lv_at hl 0 rfl) ?_
      refine g_get (b) 1 (C := RX1) (T := TX1) (N := 4) (ci := 0) (ref := "CubeWorlds$World") hx hb hts (by decide +kernel) hown hK hP (by omega) hw.1 rfl (by decide) (by decide +kernel) rfl rfl dX1_leastBroken_4 ?_
      refine n_ge (tgt := 28) hx hb dX1_leastBroken_7 (by decide) (by omega) (by omega) (fun h_7 => ?_) (fun h_7 => ?_)
      · refine lv_bipush (v := (-9)) hx hb dX1_leastBroken_28 (by decide) ?_
        exact g_iret hx hb hrt hlocks dX1_leastBroken_30 (by rw [show lbr nn c0 = none from fl_no (fun j h1 h2 => hno j h1 (by omega))]; rfl)
      · refine lv_aload_n hx hb dX1_leastBroken_10 rfl (lv_at hl 0 rfl) ?_
        refine lv_iload_n hx hb dX1_leastBroken_11 rfl (lv_at hl 1 rfl) ?_
        refine g_callV (b) (C := RX1) (T := TX1) (N := 4) (ci := 0) (As := [.int (nI (x))]) (rest := []) (c_X1_leastPartner l hI hbn hw (X := x) ht hnn hcb (by omega)) (cwV 1 hts gX1_leastBroken_X1_leastPartner rfl rfl rfl (by decide +kernel) ⟨Nat.le_of_ble_eq_true rfl, Nat.le_of_ble_eq_true rfl⟩) hx hb hml hown hts hK hP  (by omega) hw.1 rfl rfl hl.1 rfl (Nat.le_of_ble_eq_true rfl) (Nat.zero_le _) (Nat.zero_le _) dX1_leastBroken_12 ?_
        refine lv_bipush (v := (-9)) hx hb dX1_leastBroken_15 (by decide) ?_
        refine n_ceq_o (tgt := 22) hx hb dX1_leastBroken_17 (by decide) (fun k hk => by have := (fl_some hk).2.1; omega) (fun h_17 => ?_) (fun h_17 => ?_)
        · refine n_iinc 1 1 (lv' := [(1, .int (nI (x + 1))), (0, .ref (ad (b)))]) hx hb dX1_leastBroken_22 hl rfl (by decide) rfl (fun ls hl => ?_)
          refine n_goto 2 hx hb dX1_leastBroken_25 (by decide) ?_
          exact ih_2 (x + 1) (by omega) (by omega) (by omega) (no_s hno (sF h_17)) _ (lv_sub hl [1, 0] rfl)
        · refine lv_iload_n hx hb dX1_leastBroken_20 rfl (lv_at hl 1 rfl) ?_
          exact g_iret hx hb hrt hlocks dX1_leastBroken_21 (by rw [show lbr nn c0 = some x from fl_at hy1 (by omega) (sT h_17) hno]; rfl)
  exact L_2 (2 ^ nn + 1) (1) (Nat.le_refl _) (by omega) (by omega) (fun j h1 h2 => absurd h1 (by omega)) _ (lv_sub hl [1, 0] rfl)
set_option maxHeartbeats 4000000 in
set_option maxRecDepth 100000 in
theorem c_X1_isWhole (l : Launch) {D : va_G} {tys : List (ClassId × FieldType)} {ad : Nat → Nat} {n : Nat} {E : Nat → va_E} {cI : ClassId} {t0 b nn : Nat} {c0 tt : Nat → Nat} (hI : tys[t0]? = some (cI, .int)) (hbn : b + 2 < n) (hw : isW cI ad E b nn c0 tt) (ht : tOK nn c0 tt) (hnn : nn ≤ 4) (hcb : CB nn c0) : Met l yX1_isWhole wsX1_isWhole ({ frames := 4, cells := 0, slots := 0, locals := 86 } : Room) (va_Pc [.ref (ad (b))] (PB D tys n ad (E))) (k2_QcV (.int (bI (lbr nn c0).isNone))) 0 0 (fun _ => False) := by
  have p4 := pow4 hnn
  have p0 : 0 < 2 ^ nn := Nat.pow_pos (by decide)
  refine g_pure (cc := cX1_isWhole) (maxL := 1) (ret := (some .boolean)) (by decide) rfl (Nat.le_of_ble_eq_true rfl) ?_
  intro p e s m args below meth c hx hb hrt hts hown hlocks hml hP hK ls hl
  show W p l e ({ frames := 4, cells := 0, slots := 0, locals := 86 } : Room) s m args below meth c s.heap [] 0 0 _ _
  have hl : lv_has ls 1 [(0, .ref (ad (b)))] := hl
  refine lv_aload_n hx hb dX1_isWhole_0 rfl (lv_at hl 0 rfl) ?_
  refine g_callV (b) (C := RX1) (T := TX1) (N := 4) (ci := 0) (As := []) (rest := []) (c_X1_leastBroken l hI hbn hw ht hnn hcb) (cwV 0 hts gX1_isWhole_X1_leastBroken rfl rfl rfl (by decide +kernel) ⟨Nat.le_of_ble_eq_true rfl, Nat.le_of_ble_eq_true rfl⟩) hx hb hml hown hts hK hP  (by omega) hw.1 rfl rfl hl.1 rfl (Nat.le_of_ble_eq_true rfl) (Nat.zero_le _) (Nat.zero_le _) dX1_isWhole_1 ?_
  refine lv_bipush (v := (-9)) hx hb dX1_isWhole_4 (by decide) ?_
  refine n_cne_o (tgt := 13) hx hb dX1_isWhole_6 (by decide) (fun k hk => by have := (fl_some hk).2.1; omega) (fun h_6 => ?_) (fun h_6 => ?_)
  · refine n_iconst 0 hx hb dX1_isWhole_13 ?_
    exact g_zret (false) hx hb hrt hlocks dX1_isWhole_14 rfl (by rw [show (lbr nn c0).isNone = false from iN h_6])
  · refine n_iconst 1 hx hb dX1_isWhole_9 ?_
    refine n_goto 14 hx hb dX1_isWhole_10 (by decide) ?_
    exact g_zret (true) hx hb hrt hlocks dX1_isWhole_14 rfl (by rw [show (lbr nn c0).isNone = true from by rw [h_6]; rfl])
set_option maxHeartbeats 4000000 in
set_option maxRecDepth 100000 in
theorem c_X1_isUnit (l : Launch) {D : va_G} {tys : List (ClassId × FieldType)} {ad : Nat → Nat} {n : Nat} {E : Nat → va_E} {cI : ClassId} {t0 b nn : Nat} {c0 tt : Nat → Nat} (hI : tys[t0]? = some (cI, .int)) (hbn : b + 2 < n) (hw : isW cI ad E b nn c0 tt) {X : Nat} (ht : tOK nn c0 tt) (hnn : nn ≤ 4) (hcb : CB nn c0) (hX : X < 2 ^ nn) : Met l yX1_isUnit wsX1_isUnit ({ frames := 2, cells := 0, slots := 0, locals := 43 } : Room) (va_Pc [.ref (ad (b)), .int (nI (X))] (PB D tys n ad (E))) (k2_QcV (.int (bI (isU nn c0 X)))) 0 0 (fun _ => False) := by
  have p4 := pow4 hnn
  have p0 : 0 < 2 ^ nn := Nat.pow_pos (by decide)
  refine g_pure (cc := cX1_isUnit) (maxL := 3) (ret := (some .boolean)) (by decide) rfl (Nat.le_of_ble_eq_true rfl) ?_
  intro p e s m args below meth c hx hb hrt hts hown hlocks hml hP hK ls hl
  show W p l e ({ frames := 2, cells := 0, slots := 0, locals := 43 } : Room) s m args below meth c s.heap [] 0 0 _ _
  have hl : lv_has ls 3 [(0, .ref (ad (b))), (1, .int (nI (X)))] := hl
  refine n_iconst 0 hx hb dX1_isUnit_0 ?_
  refine lv_istore_n (lv' := [(2, .int (nI (0))), (0, .ref (ad (b))), (1, .int (nI (X)))]) hx hb dX1_isUnit_1 rfl hl (by decide) rfl (fun ls hl => ?_)
  have L_2 : ∀ (r : Nat) (y : Nat), (y ≤ 2 ^ nn) → (2 ^ nn < y + r) → (∀ j, j < y → ((tm nn c0 X j == j) && (tm nn c0 j X == j)) = true) → ∀ (ls : Array Slot), lv_has ls 3 [(0, .ref (ad (b))), (1, .int (nI (X))), (2, .int (nI (y)))] → W p l e ({ frames := 2, cells := 0, slots := 0, locals := 43 } : Room) s m args below meth c s.heap [] 0 0 (MQ below (k2_QcV (.int (bI (isU nn c0 X)))) args s 0 0 (fun _ => False)) (F0 m 2 ls []) := by
    intro r
    induction r with
    | zero => intro y hy hr hno; intros; exact absurd hr (by omega)
    | succ r ih =>
      intro y hy hr hno ls hl
      have ih_2 := ih
      refine lv_iload_n hx hb dX1_isUnit_2 rfl (lv_at hl 2 rfl) ?_
      refine lv_aload_n hx hb dX1_isUnit_3 rfl (lv_at hl 0 rfl) ?_
      refine g_get (b) 1 (C := RX1) (T := TX1) (N := 4) (ci := 0) (ref := "CubeWorlds$World") hx hb hts (by decide +kernel) hown hK hP (by omega) hw.1 rfl (by decide) (by decide +kernel) rfl rfl dX1_isUnit_4 ?_
      refine n_ge (tgt := 38) hx hb dX1_isUnit_7 (by decide) (by omega) (by omega) (fun h_7 => ?_) (fun h_7 => ?_)
      · refine n_iconst 1 hx hb dX1_isUnit_38 ?_
        exact g_zret (true) hx hb hrt hlocks dX1_isUnit_39 rfl (by rw [show isU nn c0 X = true from al_yes (fun k hk => hno k (by omega))])
      · refine lv_aload_n hx hb dX1_isUnit_10 rfl (lv_at hl 0 rfl) ?_
        refine lv_iload_n hx hb dX1_isUnit_11 rfl (lv_at hl 1 rfl) ?_
        refine lv_iload_n hx hb dX1_isUnit_12 rfl (lv_at hl 2 rfl) ?_
        refine g_callV (b) (C := RX1) (T := TX1) (N := 4) (ci := 0) (As := [.int (nI (X)), .int (nI (y))]) (rest := []) (c_X1_times l hI hbn hw (X := X) (Y := y) ht hnn (by omega) (by omega)) (cwV 2 hts gX1_isUnit_X1_times rfl rfl rfl (by decide +kernel) ⟨Nat.le_of_ble_eq_true rfl, Nat.le_of_ble_eq_true rfl⟩) hx hb hml hown hts hK hP  (by omega) hw.1 rfl rfl hl.1 rfl (Nat.le_of_ble_eq_true rfl) (Nat.zero_le _) (Nat.zero_le _) dX1_isUnit_13 ?_
        refine lv_iload_n hx hb dX1_isUnit_16 rfl (lv_at hl 2 rfl) ?_
        have hm9 := tm_lt hcb X y
        refine n_cne (tgt := 30) hx hb dX1_isUnit_17 (by decide) (by omega) (by omega) (fun h_17 => ?_) (fun h_17 => ?_)
        · refine n_iconst 0 hx hb dX1_isUnit_30 ?_
          exact g_zret (false) hx hb hrt hlocks dX1_isUnit_31 rfl (by rw [show isU nn c0 X = false from al_no (k := y) (by omega) (by rw [bF h_17]; rfl)])
        · refine lv_aload_n hx hb dX1_isUnit_20 rfl (lv_at hl 0 rfl) ?_
          refine lv_iload_n hx hb dX1_isUnit_21 rfl (lv_at hl 2 rfl) ?_
          refine lv_iload_n hx hb dX1_isUnit_22 rfl (lv_at hl 1 rfl) ?_
          refine g_callV (b) (C := RX1) (T := TX1) (N := 4) (ci := 0) (As := [.int (nI (y)), .int (nI (X))]) (rest := []) (c_X1_times l hI hbn hw (X := y) (Y := X) ht hnn (by omega) (by omega)) (cwV 2 hts gX1_isUnit_X1_times rfl rfl rfl (by decide +kernel) ⟨Nat.le_of_ble_eq_true rfl, Nat.le_of_ble_eq_true rfl⟩) hx hb hml hown hts hK hP  (by omega) hw.1 rfl rfl hl.1 rfl (Nat.le_of_ble_eq_true rfl) (Nat.zero_le _) (Nat.zero_le _) dX1_isUnit_23 ?_
          refine lv_iload_n hx hb dX1_isUnit_26 rfl (lv_at hl 2 rfl) ?_
          have hm8 := tm_lt hcb y X
          refine n_ceq (tgt := 32) hx hb dX1_isUnit_27 (by decide) (by omega) (by omega) (fun h_27 => ?_) (fun h_27 => ?_)
          · refine n_iinc 2 1 (lv' := [(2, .int (nI (y + 1))), (0, .ref (ad (b))), (1, .int (nI (X)))]) hx hb dX1_isUnit_32 hl rfl (by decide) rfl (fun ls hl => ?_)
            refine n_goto 2 hx hb dX1_isUnit_35 (by decide) ?_
            exact ih_2 (y + 1) (by omega) (by omega) (ya_s hno (by rw [bT h_17, bT h_27]; rfl)) _ (lv_sub hl [1, 2, 0] rfl)
          · refine n_iconst 0 hx hb dX1_isUnit_30 ?_
            exact g_zret (false) hx hb hrt hlocks dX1_isUnit_31 rfl (by rw [show isU nn c0 X = false from al_no (k := y) (by omega) (by rw [bF h_27, Bool.and_false])])
  exact L_2 (2 ^ nn + 1) (0) (Nat.zero_le _) (by omega) (fun j h => absurd h (by omega)) _ (lv_sub hl [1, 2, 0] rfl)
set_option maxHeartbeats 4000000 in
set_option maxRecDepth 100000 in
theorem c_X1_unit (l : Launch) {D : va_G} {tys : List (ClassId × FieldType)} {ad : Nat → Nat} {n : Nat} {E : Nat → va_E} {cI : ClassId} {t0 b nn : Nat} {c0 tt : Nat → Nat} (hI : tys[t0]? = some (cI, .int)) (hbn : b + 2 < n) (hw : isW cI ad E b nn c0 tt) (ht : tOK nn c0 tt) (hnn : nn ≤ 4) (hcb : CB nn c0) : Met l yX1_unit wsX1_unit ({ frames := 3, cells := 0, slots := 0, locals := 65 } : Room) (va_Pc [.ref (ad (b))] (PB D tys n ad (E))) (k2_QcV (.int (oI (unt nn c0)))) 0 0 (fun _ => False) := by
  have p4 := pow4 hnn
  have p0 : 0 < 2 ^ nn := Nat.pow_pos (by decide)
  refine g_pure (cc := cX1_unit) (maxL := 2) (ret := (some .int)) (by decide) rfl (Nat.le_of_ble_eq_true rfl) ?_
  intro p e s m args below meth c hx hb hrt hts hown hlocks hml hP hK ls hl
  show W p l e ({ frames := 3, cells := 0, slots := 0, locals := 65 } : Room) s m args below meth c s.heap [] 0 0 _ _
  have hl : lv_has ls 2 [(0, .ref (ad (b)))] := hl
  refine n_iconst 0 hx hb dX1_unit_0 ?_
  refine lv_istore_n (lv' := [(1, .int (nI (0))), (0, .ref (ad (b)))]) hx hb dX1_unit_1 rfl hl (by decide) rfl (fun ls hl => ?_)
  have L_2 : ∀ (r : Nat) (x : Nat), (x ≤ 2 ^ nn) → (2 ^ nn < x + r) → (∀ j, 0 ≤ j → j < x → isU nn c0 j = false) → ∀ (ls : Array Slot), lv_has ls 2 [(0, .ref (ad (b))), (1, .int (nI (x)))] → W p l e ({ frames := 3, cells := 0, slots := 0, locals := 65 } : Room) s m args below meth c s.heap [] 0 0 (MQ below (k2_QcV (.int (oI (unt nn c0)))) args s 0 0 (fun _ => False)) (F0 m 2 ls []) := by
    intro r
    induction r with
    | zero => intro x hy hr hno; intros; exact absurd hr (by omega)
    | succ r ih =>
      intro x hy hr hno ls hl
      have ih_2 := ih
      refine lv_iload_n hx hb dX1_unit_2 rfl (lv_at hl 1 rfl) ?_
      refine lv_aload_n hx hb dX1_unit_3 rfl (lv_at hl 0 rfl) ?_
      refine g_get (b) 1 (C := RX1) (T := TX1) (N := 4) (ci := 0) (ref := "CubeWorlds$World") hx hb hts (by decide +kernel) hown hK hP (by omega) hw.1 rfl (by decide) (by decide +kernel) rfl rfl dX1_unit_4 ?_
      refine n_ge (tgt := 26) hx hb dX1_unit_7 (by decide) (by omega) (by omega) (fun h_7 => ?_) (fun h_7 => ?_)
      · refine lv_bipush (v := (-9)) hx hb dX1_unit_26 (by decide) ?_
        exact g_iret hx hb hrt hlocks dX1_unit_28 (by rw [show unt nn c0 = none from fl_no (fun j h1 h2 => hno j h1 (by omega))]; rfl)
      · refine lv_aload_n hx hb dX1_unit_10 rfl (lv_at hl 0 rfl) ?_
        refine lv_iload_n hx hb dX1_unit_11 rfl (lv_at hl 1 rfl) ?_
        refine g_callV (b) (C := RX1) (T := TX1) (N := 4) (ci := 0) (As := [.int (nI (x))]) (rest := []) (c_X1_isUnit l hI hbn hw (X := x) ht hnn hcb (by omega)) (cwV 1 hts gX1_unit_X1_isUnit rfl rfl rfl (by decide +kernel) ⟨Nat.le_of_ble_eq_true rfl, Nat.le_of_ble_eq_true rfl⟩) hx hb hml hown hts hK hP  (by omega) hw.1 rfl rfl hl.1 rfl (Nat.le_of_ble_eq_true rfl) (Nat.zero_le _) (Nat.zero_le _) dX1_unit_12 ?_
        refine n_ifeq_b (tgt := 20) hx hb dX1_unit_15 (by decide) (fun h_15 => ?_) (fun h_15 => ?_)
        · refine n_iinc 1 1 (lv' := [(1, .int (nI (x + 1))), (0, .ref (ad (b)))]) hx hb dX1_unit_20 hl rfl (by decide) rfl (fun ls hl => ?_)
          refine n_goto 2 hx hb dX1_unit_23 (by decide) ?_
          exact ih_2 (x + 1) (by omega) (by omega) (no_s hno h_15) _ (lv_sub hl [1, 0] rfl)
        · refine lv_iload_n hx hb dX1_unit_18 rfl (lv_at hl 1 rfl) ?_
          exact g_iret hx hb hrt hlocks dX1_unit_19 (by rw [show unt nn c0 = some x from fl_at (Nat.zero_le _) (by omega) h_15 hno]; rfl)
  exact L_2 (2 ^ nn + 1) (0) (Nat.zero_le _) (by omega) (fun j h1 h2 => absurd h2 (by omega)) _ (lv_sub hl [1, 0] rfl)
set_option maxHeartbeats 4000000 in
set_option maxRecDepth 100000 in
theorem c_X1_solve (l : Launch) {D : va_G} {tys : List (ClassId × FieldType)} {ad : Nat → Nat} {n : Nat} {E : Nat → va_E} {cI : ClassId} {t0 b nn : Nat} {c0 tt : Nat → Nat} (hI : tys[t0]? = some (cI, .int)) (hbn : b + 2 < n) (hw : isW cI ad E b nn c0 tt) {X Z : Nat} {L : Bool} (ht : tOK nn c0 tt) (hnn : nn ≤ 4) (hcb : CB nn c0) (hX : X < 2 ^ nn) (hZ : Z < 2 ^ nn) : Met l yX1_solve wsX1_solve ({ frames := 2, cells := 0, slots := 0, locals := 43 } : Room) (va_Pc [.ref (ad (b)), .int (nI (X)), .int (nI (Z)), .int (bI (L))] (PB D tys n ad (E))) (k2_QcV (.int (oI (slv nn c0 X Z L)))) 0 0 (fun _ => False) := by
  have p4 := pow4 hnn
  have p0 : 0 < 2 ^ nn := Nat.pow_pos (by decide)
  refine g_pure (cc := cX1_solve) (maxL := 7) (ret := (some .int)) (by decide) rfl (Nat.le_of_ble_eq_true rfl) ?_
  intro p e s m args below meth c hx hb hrt hts hown hlocks hml hP hK ls hl
  show W p l e ({ frames := 2, cells := 0, slots := 0, locals := 43 } : Room) s m args below meth c s.heap [] 0 0 _ _
  have hl : lv_has ls 7 [(0, .ref (ad (b))), (1, .int (nI (X))), (2, .int (nI (Z))), (3, .int (bI (L)))] := hl
  refine lv_bipush (v := (-9)) hx hb dX1_solve_0 (by decide) ?_
  refine lv_istore (lv' := [(4, .int ((-9))), (0, .ref (ad (b))), (1, .int (nI (X))), (2, .int (nI (Z))), (3, .int (bI (L)))]) hx hb dX1_solve_2 hl (by decide) rfl (fun ls hl => ?_)
  refine n_iconst 0 hx hb dX1_solve_4 ?_
  refine lv_istore (lv' := [(5, .int (nI (0))), (4, .int ((-9))), (0, .ref (ad (b))), (1, .int (nI (X))), (2, .int (nI (Z))), (3, .int (bI (L)))]) hx hb dX1_solve_5 hl (by decide) rfl (fun ls hl => ?_)
  have L_7 : ∀ (r : Nat) (fo : Option Nat) (y : Nat), (y ≤ 2 ^ nn) → (2 ^ nn < y + r) → (fo = fl (slp nn c0 X Z L) 0 y) → (cnt (slp nn c0 X Z L) y = if fo = none then 0 else 1) → ∀ (ls : Array Slot), lv_has ls 7 [(0, .ref (ad (b))), (1, .int (nI (X))), (2, .int (nI (Z))), (3, .int (bI (L))), (4, .int (oI (fo))), (5, .int (nI (y)))] → W p l e ({ frames := 2, cells := 0, slots := 0, locals := 43 } : Room) s m args below meth c s.heap [] 0 0 (MQ below (k2_QcV (.int (oI (slv nn c0 X Z L)))) args s 0 0 (fun _ => False)) (F0 m 7 ls []) := by
    intro r
    induction r with
    | zero => intro fo y hy hr hf hc; intros; exact absurd hr (by omega)
    | succ r ih =>
      intro fo y hy hr hf hc ls hl
      have ih_7 := ih
      refine lv_iload hx hb dX1_solve_7 (lv_at hl 5 rfl) ?_
      refine lv_aload_n hx hb dX1_solve_9 rfl (lv_at hl 0 rfl) ?_
      refine g_get (b) 1 (C := RX1) (T := TX1) (N := 4) (ci := 0) (ref := "CubeWorlds$World") hx hb hts (by decide +kernel) hown hK hP (by omega) hw.1 rfl (by decide) (by decide +kernel) rfl rfl dX1_solve_10 ?_
      refine n_ge (tgt := 65) hx hb dX1_solve_13 (by decide) (by omega) (by omega) (fun h_13 => ?_) (fun h_13 => ?_)
      · refine lv_iload hx hb dX1_solve_65 (lv_at hl 4 rfl) ?_
        exact g_iret hx hb hrt hlocks dX1_solve_67 (by rw [show slv nn c0 X Z L = fo from slv_end hf hc (by omega)])
      · refine lv_iload_n hx hb dX1_solve_16 rfl (lv_at hl 3 rfl) ?_
        refine n_ifeq_b (tgt := 30) hx hb dX1_solve_17 (by decide) (fun h_17 => ?_) (fun h_17 => ?_)
        · refine lv_aload_n hx hb dX1_solve_30 rfl (lv_at hl 0 rfl) ?_
          refine lv_iload hx hb dX1_solve_31 (lv_at hl 5 rfl) ?_
          refine lv_iload_n hx hb dX1_solve_33 rfl (lv_at hl 1 rfl) ?_
          refine g_callV (b) (C := RX1) (T := TX1) (N := 4) (ci := 0) (As := [.int (nI (y)), .int (nI (X))]) (rest := []) (c_X1_times l hI hbn hw (X := y) (Y := X) ht hnn (by omega) (by omega)) (cwV 2 hts gX1_solve_X1_times rfl rfl rfl (by decide +kernel) ⟨Nat.le_of_ble_eq_true rfl, Nat.le_of_ble_eq_true rfl⟩) hx hb hml hown hts hK hP  (by omega) hw.1 rfl rfl hl.1 rfl (Nat.le_of_ble_eq_true rfl) (Nat.zero_le _) (Nat.zero_le _) dX1_solve_34 ?_
          refine lv_istore (lv' := [(6, .int (nI (tm nn c0 y X))), (0, .ref (ad (b))), (1, .int (nI (X))), (2, .int (nI (Z))), (3, .int (bI (L))), (4, .int (oI (fo))), (5, .int (nI (y)))]) hx hb dX1_solve_37 hl (by decide) rfl (fun ls hl => ?_)
          refine lv_iload hx hb dX1_solve_39 (lv_at hl 0 rfl) ?_
          have hm9 := tm_lt hcb y X
          refine lv_iload_n hx hb dX1_solve_41 rfl (lv_at hl 3 rfl) ?_
          refine n_cne (tgt := 59) hx hb dX1_solve_42 (by decide) (by omega) (by omega) (fun h_42 => ?_) (fun h_42 => ?_)
          · refine n_iinc 6 1 (lv' := [(5, .int (nI (y + 1))), (6, .int (nI (tm nn c0 y X))), (0, .ref (ad (b))), (1, .int (nI (X))), (2, .int (nI (Z))), (3, .int (bI (L))), (4, .int (oI (fo)))]) hx hb dX1_solve_59 hl rfl (by decide) rfl (fun ls hl => ?_)
            refine n_goto 7 hx hb dX1_solve_62 (by decide) ?_
            exact ih_7 (fo) (y + 1) (by omega) (by omega) (slv_mis1 hf (slp_fn h_17 h_42)) (slv_mis2 hc (slp_fn h_17 h_42)) _ (lv_sub hl [2, 3, 4, 5, 6, 0] rfl)
          · refine lv_iload hx hb dX1_solve_45 (lv_at hl 5 rfl) ?_
            refine lv_bipush (v := (-9)) hx hb dX1_solve_47 (by decide) ?_
            refine n_ceq_o (tgt := 55) hx hb dX1_solve_49 (by decide) (fun k hk => by rw [hf] at hk; have := (fl_some hk).2.1; omega) (fun h_49 => ?_) (fun h_49 => ?_)
            · refine lv_iload hx hb dX1_solve_55 (lv_at hl 6 rfl) ?_
              refine n_eq (show nI y = oI (some y) from rfl) ?_
              refine lv_istore (lv' := [(4, .int (oI (some y))), (6, .int (nI (tm nn c0 y X))), (0, .ref (ad (b))), (1, .int (nI (X))), (2, .int (nI (Z))), (3, .int (bI (L))), (5, .int (nI (y)))]) hx hb dX1_solve_57 hl (by decide) rfl (fun ls hl => ?_)
              refine n_iinc 6 1 (lv' := [(5, .int (nI (y + 1))), (4, .int (oI (some y))), (6, .int (nI (tm nn c0 y X))), (0, .ref (ad (b))), (1, .int (nI (X))), (2, .int (nI (Z))), (3, .int (bI (L)))]) hx hb dX1_solve_59 hl rfl (by decide) rfl (fun ls hl => ?_)
              refine n_goto 7 hx hb dX1_solve_62 (by decide) ?_
              exact ih_7 (some y) (y + 1) (by omega) (by omega) (slv_hit1 h_49 hf (slp_f h_17 h_42)) (slv_hit2 h_49 hc (slp_f h_17 h_42)) _ (lv_sub hl [3, 4, 5, 6, 1, 0] rfl)
            · refine lv_bipush (v := (-9)) hx hb dX1_solve_52 (by decide) ?_
              exact g_iret hx hb hrt hlocks dX1_solve_54 (by rw [show slv nn c0 X Z L = none from slv_two h_49 hc (slp_f h_17 h_42) (by omega)]; rfl)
        · refine lv_aload_n hx hb dX1_solve_20 rfl (lv_at hl 0 rfl) ?_
          refine lv_iload_n hx hb dX1_solve_21 rfl (lv_at hl 1 rfl) ?_
          refine lv_iload hx hb dX1_solve_22 (lv_at hl 5 rfl) ?_
          refine g_callV (b) (C := RX1) (T := TX1) (N := 4) (ci := 0) (As := [.int (nI (X)), .int (nI (y))]) (rest := []) (c_X1_times l hI hbn hw (X := X) (Y := y) ht hnn (by omega) (by omega)) (cwV 2 hts gX1_solve_X1_times rfl rfl rfl (by decide +kernel) ⟨Nat.le_of_ble_eq_true rfl, Nat.le_of_ble_eq_true rfl⟩) hx hb hml hown hts hK hP  (by omega) hw.1 rfl rfl hl.1 rfl (Nat.le_of_ble_eq_true rfl) (Nat.zero_le _) (Nat.zero_le _) dX1_solve_24 ?_
          refine n_goto 37 hx hb dX1_solve_27 (by decide) ?_
          refine lv_istore (lv' := [(6, .int (nI (tm nn c0 X y))), (0, .ref (ad (b))), (1, .int (nI (X))), (2, .int (nI (Z))), (3, .int (bI (L))), (4, .int (oI (fo))), (5, .int (nI (y)))]) hx hb dX1_solve_37 hl (by decide) rfl (fun ls hl => ?_)
          refine lv_iload hx hb dX1_solve_39 (lv_at hl 0 rfl) ?_
          have hm9 := tm_lt hcb X y
          refine lv_iload_n hx hb dX1_solve_41 rfl (lv_at hl 3 rfl) ?_
          refine n_cne (tgt := 59) hx hb dX1_solve_42 (by decide) (by omega) (by omega) (fun h_42 => ?_) (fun h_42 => ?_)
          · refine n_iinc 6 1 (lv' := [(5, .int (nI (y + 1))), (6, .int (nI (tm nn c0 X y))), (0, .ref (ad (b))), (1, .int (nI (X))), (2, .int (nI (Z))), (3, .int (bI (L))), (4, .int (oI (fo)))]) hx hb dX1_solve_59 hl rfl (by decide) rfl (fun ls hl => ?_)
            refine n_goto 7 hx hb dX1_solve_62 (by decide) ?_
            exact ih_7 (fo) (y + 1) (by omega) (by omega) (slv_mis1 hf (slp_tn h_17 h_42)) (slv_mis2 hc (slp_tn h_17 h_42)) _ (lv_sub hl [2, 3, 4, 5, 6, 0] rfl)
          · refine lv_iload hx hb dX1_solve_45 (lv_at hl 5 rfl) ?_
            refine lv_bipush (v := (-9)) hx hb dX1_solve_47 (by decide) ?_
            refine n_ceq_o (tgt := 55) hx hb dX1_solve_49 (by decide) (fun k hk => by rw [hf] at hk; have := (fl_some hk).2.1; omega) (fun h_49 => ?_) (fun h_49 => ?_)
            · refine lv_iload hx hb dX1_solve_55 (lv_at hl 6 rfl) ?_
              refine n_eq (show nI y = oI (some y) from rfl) ?_
              refine lv_istore (lv' := [(4, .int (oI (some y))), (6, .int (nI (tm nn c0 X y))), (0, .ref (ad (b))), (1, .int (nI (X))), (2, .int (nI (Z))), (3, .int (bI (L))), (5, .int (nI (y)))]) hx hb dX1_solve_57 hl (by decide) rfl (fun ls hl => ?_)
              refine n_iinc 6 1 (lv' := [(5, .int (nI (y + 1))), (4, .int (oI (some y))), (6, .int (nI (tm nn c0 X y))), (0, .ref (ad (b))), (1, .int (nI (X))), (2, .int (nI (Z))), (3, .int (bI (L)))]) hx hb dX1_solve_59 hl rfl (by decide) rfl (fun ls hl => ?_)
              refine n_goto 7 hx hb dX1_solve_62 (by decide) ?_
              exact ih_7 (some y) (y + 1) (by omega) (by omega) (slv_hit1 h_49 hf (slp_t h_17 h_42)) (slv_hit2 h_49 hc (slp_t h_17 h_42)) _ (lv_sub hl [3, 4, 5, 6, 1, 0] rfl)
            · refine lv_bipush (v := (-9)) hx hb dX1_solve_52 (by decide) ?_
              exact g_iret hx hb hrt hlocks dX1_solve_54 (by rw [show slv nn c0 X Z L = none from slv_two h_49 hc (slp_t h_17 h_42) (by omega)]; rfl)
  exact L_7 (2 ^ nn + 1) (none) (0) (Nat.zero_le _) (by omega) rfl rfl _ (lv_sub hl [2, 3, 4, 5, 1, 0] rfl)
set_option maxHeartbeats 4000000 in
set_option maxRecDepth 100000 in
theorem c_X1_commutes (l : Launch) {D : va_G} {tys : List (ClassId × FieldType)} {ad : Nat → Nat} {n : Nat} {E : Nat → va_E} {cI : ClassId} {t0 b nn : Nat} {c0 tt : Nat → Nat} (hI : tys[t0]? = some (cI, .int)) (hbn : b + 2 < n) (hw : isW cI ad E b nn c0 tt) {X : Nat} (ht : tOK nn c0 tt) (hnn : nn ≤ 4) (hcb : CB nn c0) (hX : X < 2 ^ nn) : Met l yX1_commutes wsX1_commutes ({ frames := 2, cells := 0, slots := 0, locals := 43 } : Room) (va_Pc [.ref (ad (b)), .int (nI (X))] (PB D tys n ad (E))) (k2_QcV (.int (bI (comB nn c0 X)))) 0 0 (fun _ => False) := by
  have p4 := pow4 hnn
  have p0 : 0 < 2 ^ nn := Nat.pow_pos (by decide)
  refine g_pure (cc := cX1_commutes) (maxL := 3) (ret := (some .boolean)) (by decide) rfl (Nat.le_of_ble_eq_true rfl) ?_
  intro p e s m args below meth c hx hb hrt hts hown hlocks hml hP hK ls hl
  show W p l e ({ frames := 2, cells := 0, slots := 0, locals := 43 } : Room) s m args below meth c s.heap [] 0 0 _ _
  have hl : lv_has ls 3 [(0, .ref (ad (b))), (1, .int (nI (X)))] := hl
  refine n_iconst 0 hx hb dX1_commutes_0 ?_
  refine lv_istore_n (lv' := [(2, .int (nI (0))), (0, .ref (ad (b))), (1, .int (nI (X)))]) hx hb dX1_commutes_1 rfl hl (by decide) rfl (fun ls hl => ?_)
  have L_2 : ∀ (r : Nat) (y : Nat), (y ≤ nn) → (nn < y + r) → (∀ j, j < y → (tm nn c0 X (1 <<< j) == tm nn c0 (1 <<< j) X) = true) → ∀ (ls : Array Slot), lv_has ls 3 [(0, .ref (ad (b))), (1, .int (nI (X))), (2, .int (nI (y)))] → W p l e ({ frames := 2, cells := 0, slots := 0, locals := 43 } : Room) s m args below meth c s.heap [] 0 0 (MQ below (k2_QcV (.int (bI (comB nn c0 X)))) args s 0 0 (fun _ => False)) (F0 m 2 ls []) := by
    intro r
    induction r with
    | zero => intro y hy hr hno; intros; exact absurd hr (by omega)
    | succ r ih =>
      intro y hy hr hno ls hl
      have ih_2 := ih
      refine lv_iload_n hx hb dX1_commutes_2 rfl (lv_at hl 2 rfl) ?_
      refine lv_aload_n hx hb dX1_commutes_3 rfl (lv_at hl 0 rfl) ?_
      refine g_get (b) 0 (C := RX1) (T := TX1) (N := 4) (ci := 0) (ref := "CubeWorlds$World") hx hb hts (by decide +kernel) hown hK hP (by omega) hw.1 rfl (by decide) (by decide +kernel) rfl rfl dX1_commutes_4 ?_
      refine n_ge (tgt := 37) hx hb dX1_commutes_7 (by decide) (by omega) (by omega) (fun h_7 => ?_) (fun h_7 => ?_)
      · refine n_iconst 1 hx hb dX1_commutes_37 ?_
        exact g_zret (true) hx hb hrt hlocks dX1_commutes_38 rfl (by rw [show comB nn c0 X = true from al_yes (fun k hk => hno k (by omega))])
      · refine lv_aload_n hx hb dX1_commutes_10 rfl (lv_at hl 0 rfl) ?_
        refine lv_iload_n hx hb dX1_commutes_11 rfl (lv_at hl 1 rfl) ?_
        have hs9 := shl1_lt (k := y) (n := nn) (by omega)
        refine n_iconst 1 hx hb dX1_commutes_12 ?_
        refine lv_iload_n hx hb dX1_commutes_13 rfl (lv_at hl 2 rfl) ?_
        refine n_ishl hx hb dX1_commutes_14 (by omega) ?_
        refine g_callV (b) (C := RX1) (T := TX1) (N := 4) (ci := 0) (As := [.int (nI (X)), .int (nI (1 <<< y))]) (rest := []) (c_X1_times l hI hbn hw (X := X) (Y := 1 <<< y) ht hnn (by omega) (by omega)) (cwV 2 hts gX1_commutes_X1_times rfl rfl rfl (by decide +kernel) ⟨Nat.le_of_ble_eq_true rfl, Nat.le_of_ble_eq_true rfl⟩) hx hb hml hown hts hK hP  (by omega) hw.1 rfl rfl hl.1 rfl (Nat.le_of_ble_eq_true rfl) (Nat.zero_le _) (Nat.zero_le _) dX1_commutes_15 ?_
        refine lv_aload_n hx hb dX1_commutes_18 rfl (lv_at hl 0 rfl) ?_
        refine n_iconst 1 hx hb dX1_commutes_19 ?_
        refine lv_iload_n hx hb dX1_commutes_20 rfl (lv_at hl 2 rfl) ?_
        refine n_ishl hx hb dX1_commutes_21 (by omega) ?_
        refine lv_iload_n hx hb dX1_commutes_22 rfl (lv_at hl 1 rfl) ?_
        refine g_callV (b) (C := RX1) (T := TX1) (N := 4) (ci := 0) (As := [.int (nI (1 <<< y)), .int (nI (X))]) (rest := [.int (nI (tm nn c0 X (1 <<< y)))]) (c_X1_times l hI hbn hw (X := 1 <<< y) (Y := X) ht hnn (by omega) (by omega)) (cwV 2 hts gX1_commutes_X1_times rfl rfl rfl (by decide +kernel) ⟨Nat.le_of_ble_eq_true rfl, Nat.le_of_ble_eq_true rfl⟩) hx hb hml hown hts hK hP  (by omega) hw.1 rfl rfl hl.1 rfl (Nat.le_of_ble_eq_true rfl) (Nat.zero_le _) (Nat.zero_le _) dX1_commutes_23 ?_
        have hm9 := tm_lt hcb X (1 <<< y)
        have hm8 := tm_lt hcb (1 <<< y) X
        refine n_ceq (tgt := 31) hx hb dX1_commutes_26 (by decide) (by omega) (by omega) (fun h_26 => ?_) (fun h_26 => ?_)
        · refine n_iinc 2 1 (lv' := [(2, .int (nI (y + 1))), (0, .ref (ad (b))), (1, .int (nI (X)))]) hx hb dX1_commutes_31 hl rfl (by decide) rfl (fun ls hl => ?_)
          refine n_goto 2 hx hb dX1_commutes_34 (by decide) ?_
          exact ih_2 (y + 1) (by omega) (by omega) (ya_s hno (bT h_26)) _ (lv_sub hl [1, 2, 0] rfl)
        · refine n_iconst 0 hx hb dX1_commutes_29 ?_
          exact g_zret (false) hx hb hrt hlocks dX1_commutes_30 rfl (by rw [show comB nn c0 X = false from al_no (k := y) (by omega) (bF h_26)])
  exact L_2 (nn + 1) (0) (Nat.zero_le _) (by omega) (fun j h => absurd h (by omega)) _ (lv_sub hl [1, 2, 0] rfl)
set_option maxHeartbeats 4000000 in
set_option maxRecDepth 100000 in
theorem c_X1_isOneProduct (l : Launch) {D : va_G} {tys : List (ClassId × FieldType)} {ad : Nat → Nat} {n : Nat} {E : Nat → va_E} {cI : ClassId} {t0 b nn : Nat} {c0 tt : Nat → Nat} (hI : tys[t0]? = some (cI, .int)) (hbn : b + 2 < n) (hw : isW cI ad E b nn c0 tt) {X Y Z : Nat} (ht : tOK nn c0 tt) (hnn : nn ≤ 4) (hcb : CB nn c0) (hX : X < 2 ^ nn) (hY : Y < 2 ^ nn) (hZ : Z < 2 ^ nn) : Met l yX1_isOneProduct wsX1_isOneProduct ({ frames := 2, cells := 0, slots := 0, locals := 43 } : Room) (va_Pc [.ref (ad (b)), .int (nI (X)), .int (nI (Y)), .int (nI (Z))] (PB D tys n ad (E))) (k2_QcV (.int (bI (iop nn c0 X Y Z)))) 0 0 (fun _ => False) := by
  have p4 := pow4 hnn
  have p0 : 0 < 2 ^ nn := Nat.pow_pos (by decide)
  have m1 := tm_lt hcb Y Z
  have m2 := tm_lt hcb X Y
  have m3 := tm_lt hcb X (tm nn c0 Y Z)
  have m4 := tm_lt hcb (tm nn c0 X Y) Z
  refine g_pure (cc := cX1_isOneProduct) (maxL := 4) (ret := (some .boolean)) (by decide) rfl (Nat.le_of_ble_eq_true rfl) ?_
  intro p e s m args below meth c hx hb hrt hts hown hlocks hml hP hK ls hl
  show W p l e ({ frames := 2, cells := 0, slots := 0, locals := 43 } : Room) s m args below meth c s.heap [] 0 0 _ _
  have hl : lv_has ls 4 [(0, .ref (ad (b))), (1, .int (nI (X))), (2, .int (nI (Y))), (3, .int (nI (Z)))] := hl
  refine lv_aload_n hx hb dX1_isOneProduct_0 rfl (lv_at hl 0 rfl) ?_
  refine lv_iload_n hx hb dX1_isOneProduct_1 rfl (lv_at hl 1 rfl) ?_
  refine lv_aload_n hx hb dX1_isOneProduct_2 rfl (lv_at hl 0 rfl) ?_
  refine lv_iload_n hx hb dX1_isOneProduct_3 rfl (lv_at hl 2 rfl) ?_
  refine lv_iload_n hx hb dX1_isOneProduct_4 rfl (lv_at hl 3 rfl) ?_
  refine g_callV (b) (C := RX1) (T := TX1) (N := 4) (ci := 0) (As := [.int (nI (Y)), .int (nI (Z))]) (rest := [.int (nI (X)), .ref (ad (b))]) (c_X1_times l hI hbn hw (X := Y) (Y := Z) ht hnn (by omega) (by omega)) (cwV 2 hts gX1_isOneProduct_X1_times rfl rfl rfl (by decide +kernel) ⟨Nat.le_of_ble_eq_true rfl, Nat.le_of_ble_eq_true rfl⟩) hx hb hml hown hts hK hP  (by omega) hw.1 rfl rfl hl.1 rfl (Nat.le_of_ble_eq_true rfl) (Nat.zero_le _) (Nat.zero_le _) dX1_isOneProduct_5 ?_
  refine g_callV (b) (C := RX1) (T := TX1) (N := 4) (ci := 0) (As := [.int (nI (X)), .int (nI (tm nn c0 Y Z))]) (rest := []) (c_X1_times l hI hbn hw (X := X) (Y := tm nn c0 Y Z) ht hnn (by omega) (by omega)) (cwV 2 hts gX1_isOneProduct_X1_times rfl rfl rfl (by decide +kernel) ⟨Nat.le_of_ble_eq_true rfl, Nat.le_of_ble_eq_true rfl⟩) hx hb hml hown hts hK hP  (by omega) hw.1 rfl rfl hl.1 rfl (Nat.le_of_ble_eq_true rfl) (Nat.zero_le _) (Nat.zero_le _) dX1_isOneProduct_8 ?_
  refine lv_aload_n hx hb dX1_isOneProduct_11 rfl (lv_at hl 0 rfl) ?_
  refine lv_aload_n hx hb dX1_isOneProduct_12 rfl (lv_at hl 0 rfl) ?_
  refine lv_iload_n hx hb dX1_isOneProduct_13 rfl (lv_at hl 1 rfl) ?_
  refine lv_iload_n hx hb dX1_isOneProduct_14 rfl (lv_at hl 2 rfl) ?_
  refine g_callV (b) (C := RX1) (T := TX1) (N := 4) (ci := 0) (As := [.int (nI (X)), .int (nI (Y))]) (rest := [.ref (ad (b)), .int (nI (tm nn c0 X (tm nn c0 Y Z)))]) (c_X1_times l hI hbn hw (X := X) (Y := Y) ht hnn (by omega) (by omega)) (cwV 2 hts gX1_isOneProduct_X1_times rfl rfl rfl (by decide +kernel) ⟨Nat.le_of_ble_eq_true rfl, Nat.le_of_ble_eq_true rfl⟩) hx hb hml hown hts hK hP  (by omega) hw.1 rfl rfl hl.1 rfl (Nat.le_of_ble_eq_true rfl) (Nat.zero_le _) (Nat.zero_le _) dX1_isOneProduct_15 ?_
  refine lv_iload_n hx hb dX1_isOneProduct_18 rfl (lv_at hl 3 rfl) ?_
  refine g_callV (b) (C := RX1) (T := TX1) (N := 4) (ci := 0) (As := [.int (nI (tm nn c0 X Y)), .int (nI (Z))]) (rest := [.int (nI (tm nn c0 X (tm nn c0 Y Z)))]) (c_X1_times l hI hbn hw (X := tm nn c0 X Y) (Y := Z) ht hnn (by omega) (by omega)) (cwV 2 hts gX1_isOneProduct_X1_times rfl rfl rfl (by decide +kernel) ⟨Nat.le_of_ble_eq_true rfl, Nat.le_of_ble_eq_true rfl⟩) hx hb hml hown hts hK hP  (by omega) hw.1 rfl rfl hl.1 rfl (Nat.le_of_ble_eq_true rfl) (Nat.zero_le _) (Nat.zero_le _) dX1_isOneProduct_19 ?_
  refine n_cne (tgt := 29) hx hb dX1_isOneProduct_22 (by decide) (by omega) (by omega) (fun h_22 => ?_) (fun h_22 => ?_)
  · refine n_iconst 0 hx hb dX1_isOneProduct_29 ?_
    exact g_zret (false) hx hb hrt hlocks dX1_isOneProduct_30 rfl (by rw [show iop nn c0 X Y Z = false from bF h_22])
  · refine n_iconst 1 hx hb dX1_isOneProduct_25 ?_
    refine n_goto 30 hx hb dX1_isOneProduct_26 (by decide) ?_
    exact g_zret (true) hx hb hrt hlocks dX1_isOneProduct_30 rfl (by rw [show iop nn c0 X Y Z = true from bT h_22])
set_option maxHeartbeats 4000000 in
set_option maxRecDepth 100000 in
theorem c_X1_associatesWith (l : Launch) {D : va_G} {tys : List (ClassId × FieldType)} {ad : Nat → Nat} {n : Nat} {E : Nat → va_E} {cI : ClassId} {t0 b nn : Nat} {c0 tt : Nat → Nat} (hI : tys[t0]? = some (cI, .int)) (hbn : b + 2 < n) (hw : isW cI ad E b nn c0 tt) {X Y Z V : Nat} (ht : tOK nn c0 tt) (hnn : nn ≤ 4) (hcb : CB nn c0) (hX : X < 2 ^ nn) (hY : Y < 2 ^ nn) (hZ : Z < 2 ^ nn) (hV : V < 3) : Met l yX1_associatesWith wsX1_associatesWith ({ frames := 3, cells := 0, slots := 0, locals := 66 } : Room) (va_Pc [.ref (ad (b)), .int (nI (X)), .int (nI (Y)), .int (nI (Z)), .int (nI (V))] (PB D tys n ad (E))) (k2_QcV (.int (bI (asw nn c0 X Y Z V)))) 0 0 (fun _ => False) := by
  refine g_pure (cc := cX1_associatesWith) (maxL := 5) (ret := (some .boolean)) (by decide) rfl (Nat.le_of_ble_eq_true rfl) ?_
  intro p e s m args below meth c hx hb hrt hts hown hlocks hml hP hK ls hl
  show W p l e ({ frames := 3, cells := 0, slots := 0, locals := 66 } : Room) s m args below meth c s.heap [] 0 0 _ _
  have hl : lv_has ls 5 [(0, .ref (ad (b))), (1, .int (nI (X))), (2, .int (nI (Y))), (3, .int (nI (Z))), (4, .int (nI (V)))] := hl
  refine lv_iload hx hb dX1_associatesWith_0 (lv_at hl 4 rfl) ?_
  rcases (show V = 0 ∨ V = 1 ∨ V = 2 by omega) with e9 | e9 | e9
  · subst e9
    refine lv_lookup (off := 26) (tgt := 28) hx hb dX1_associatesWith_2 (by decide) (by decide) (by decide) ?_
    refine lv_aload_n hx hb dX1_associatesWith_28 rfl (lv_at hl 0 rfl) ?_
    refine lv_iload_n hx hb dX1_associatesWith_29 rfl (lv_at hl 1 rfl) ?_
    refine lv_iload_n hx hb dX1_associatesWith_30 rfl (lv_at hl 2 rfl) ?_
    refine lv_iload_n hx hb dX1_associatesWith_31 rfl (lv_at hl 3 rfl) ?_
    refine g_callV (b) (C := RX1) (T := TX1) (N := 4) (ci := 0) (As := [.int (nI (X)), .int (nI (Y)), .int (nI (Z))]) (rest := []) (c_X1_isOneProduct l hI hbn hw (X := X) (Y := Y) (Z := Z) ht hnn hcb (by assumption) (by assumption) (by assumption)) (cwV 3 hts gX1_associatesWith_X1_isOneProduct rfl rfl rfl (by decide +kernel) ⟨Nat.le_of_ble_eq_true rfl, Nat.le_of_ble_eq_true rfl⟩) hx hb hml hown hts hK hP  (by omega) hw.1 rfl rfl hl.1 rfl (Nat.le_of_ble_eq_true rfl) (Nat.zero_le _) (Nat.zero_le _) dX1_associatesWith_32 ?_
    exact g_zret (iop nn c0 X Y Z) hx hb hrt hlocks dX1_associatesWith_35 rfl rfl
  · subst e9
    refine lv_lookup (off := 34) (tgt := 36) hx hb dX1_associatesWith_2 (by decide) (by decide) (by decide) ?_
    refine lv_aload_n hx hb dX1_associatesWith_36 rfl (lv_at hl 0 rfl) ?_
    refine lv_iload_n hx hb dX1_associatesWith_37 rfl (lv_at hl 2 rfl) ?_
    refine lv_iload_n hx hb dX1_associatesWith_38 rfl (lv_at hl 1 rfl) ?_
    refine lv_iload_n hx hb dX1_associatesWith_39 rfl (lv_at hl 3 rfl) ?_
    refine g_callV (b) (C := RX1) (T := TX1) (N := 4) (ci := 0) (As := [.int (nI (Y)), .int (nI (X)), .int (nI (Z))]) (rest := []) (c_X1_isOneProduct l hI hbn hw (X := Y) (Y := X) (Z := Z) ht hnn hcb (by assumption) (by assumption) (by assumption)) (cwV 3 hts gX1_associatesWith_X1_isOneProduct rfl rfl rfl (by decide +kernel) ⟨Nat.le_of_ble_eq_true rfl, Nat.le_of_ble_eq_true rfl⟩) hx hb hml hown hts hK hP  (by omega) hw.1 rfl rfl hl.1 rfl (Nat.le_of_ble_eq_true rfl) (Nat.zero_le _) (Nat.zero_le _) dX1_associatesWith_40 ?_
    exact g_zret (iop nn c0 Y X Z) hx hb hrt hlocks dX1_associatesWith_43 rfl rfl
  · subst e9
    refine lv_lookup (off := 42) (tgt := 44) hx hb dX1_associatesWith_2 (by decide) (by decide) (by decide) ?_
    refine lv_aload_n hx hb dX1_associatesWith_44 rfl (lv_at hl 0 rfl) ?_
    refine lv_iload_n hx hb dX1_associatesWith_45 rfl (lv_at hl 2 rfl) ?_
    refine lv_iload_n hx hb dX1_associatesWith_46 rfl (lv_at hl 3 rfl) ?_
    refine lv_iload_n hx hb dX1_associatesWith_47 rfl (lv_at hl 1 rfl) ?_
    refine g_callV (b) (C := RX1) (T := TX1) (N := 4) (ci := 0) (As := [.int (nI (Y)), .int (nI (Z)), .int (nI (X))]) (rest := []) (c_X1_isOneProduct l hI hbn hw (X := Y) (Y := Z) (Z := X) ht hnn hcb (by assumption) (by assumption) (by assumption)) (cwV 3 hts gX1_associatesWith_X1_isOneProduct rfl rfl rfl (by decide +kernel) ⟨Nat.le_of_ble_eq_true rfl, Nat.le_of_ble_eq_true rfl⟩) hx hb hml hown hts hK hP  (by omega) hw.1 rfl rfl hl.1 rfl (Nat.le_of_ble_eq_true rfl) (Nat.zero_le _) (Nat.zero_le _) dX1_associatesWith_48 ?_
    exact g_zret (iop nn c0 Y Z X) hx hb hrt hlocks dX1_associatesWith_51 rfl rfl
set_option maxHeartbeats 4000000 in
set_option maxRecDepth 100000 in
theorem c_X1_associates (l : Launch) {D : va_G} {tys : List (ClassId × FieldType)} {ad : Nat → Nat} {n : Nat} {E : Nat → va_E} {cI : ClassId} {t0 b nn : Nat} {c0 tt : Nat → Nat} (hI : tys[t0]? = some (cI, .int)) (hbn : b + 2 < n) (hw : isW cI ad E b nn c0 tt) {X V : Nat} (ht : tOK nn c0 tt) (hnn : nn ≤ 4) (hcb : CB nn c0) (hX : X < 2 ^ nn) (hV : V < 3) : Met l yX1_associates wsX1_associates ({ frames := 4, cells := 0, slots := 0, locals := 90 } : Room) (va_Pc [.ref (ad (b)), .int (nI (X)), .int (nI (V))] (PB D tys n ad (E))) (k2_QcV (.int (bI (assB nn c0 X V)))) 0 0 (fun _ => False) := by
  have p4 := pow4 hnn
  have p0 : 0 < 2 ^ nn := Nat.pow_pos (by decide)
  refine g_pure (cc := cX1_associates) (maxL := 5) (ret := (some .boolean)) (by decide) rfl (Nat.le_of_ble_eq_true rfl) ?_
  intro p e s m args below meth c hx hb hrt hts hown hlocks hml hP hK ls hl
  show W p l e ({ frames := 4, cells := 0, slots := 0, locals := 90 } : Room) s m args below meth c s.heap [] 0 0 _ _
  have hl : lv_has ls 5 [(0, .ref (ad (b))), (1, .int (nI (X))), (2, .int (nI (V)))] := hl
  refine n_iconst 0 hx hb dX1_associates_0 ?_
  refine lv_istore_n (lv' := [(3, .int (nI (0))), (0, .ref (ad (b))), (1, .int (nI (X))), (2, .int (nI (V)))]) hx hb dX1_associates_1 rfl hl (by decide) rfl (fun ls hl => ?_)
  have L_2 : ∀ (r : Nat) (i : Nat), (i ≤ nn) → (nn < i + r) → (∀ k, k < i → al (fun j => asw nn c0 X (1 <<< k) (1 <<< j) V) nn = true) → ∀ (ls : Array Slot), lv_has ls 5 [(0, .ref (ad (b))), (1, .int (nI (X))), (2, .int (nI (V))), (3, .int (nI (i)))] → W p l e ({ frames := 4, cells := 0, slots := 0, locals := 90 } : Room) s m args below meth c s.heap [] 0 0 (MQ below (k2_QcV (.int (bI (assB nn c0 X V)))) args s 0 0 (fun _ => False)) (F0 m 2 ls []) := by
    intro r
    induction r with
    | zero => intro i hi hr hno; intros; exact absurd hr (by omega)
    | succ r ih =>
      intro i hi hr hno ls hl
      have ih_2 := ih
      refine lv_iload_n hx hb dX1_associates_2 rfl (lv_at hl 3 rfl) ?_
      refine lv_aload_n hx hb dX1_associates_3 rfl (lv_at hl 0 rfl) ?_
      refine g_get (b) 0 (C := RX1) (T := TX1) (N := 4) (ci := 0) (ref := "CubeWorlds$World") hx hb hts (by decide +kernel) hown hK hP (by omega) hw.1 rfl (by decide) (by decide +kernel) rfl rfl dX1_associates_4 ?_
      refine n_ge (tgt := 52) hx hb dX1_associates_7 (by decide) (by omega) (by omega) (fun h_7 => ?_) (fun h_7 => ?_)
      · refine n_iconst 1 hx hb dX1_associates_52 ?_
        exact g_zret (true) hx hb hrt hlocks dX1_associates_53 rfl (by rw [show assB nn c0 X V = true from al_yes (fun k hk => hno k (by omega))])
      · refine n_iconst 0 hx hb dX1_associates_10 ?_
        refine lv_istore (lv' := [(4, .int (nI (0))), (0, .ref (ad (b))), (1, .int (nI (X))), (2, .int (nI (V))), (3, .int (nI (i)))]) hx hb dX1_associates_11 hl (by decide) rfl (fun ls hl => ?_)
        have L_13 : ∀ (r : Nat) (j : Nat), (j ≤ nn) → (nn < j + r) → (∀ k, k < j → asw nn c0 X (1 <<< i) (1 <<< k) V = true) → ∀ (ls : Array Slot), lv_has ls 5 [(0, .ref (ad (b))), (1, .int (nI (X))), (2, .int (nI (V))), (3, .int (nI (i))), (4, .int (nI (j)))] → W p l e ({ frames := 4, cells := 0, slots := 0, locals := 90 } : Room) s m args below meth c s.heap [] 0 0 (MQ below (k2_QcV (.int (bI (assB nn c0 X V)))) args s 0 0 (fun _ => False)) (F0 m 13 ls []) := by
          intro r
          induction r with
          | zero => intro j hj hr2 hno2; intros; exact absurd hr2 (by omega)
          | succ r ih =>
            intro j hj hr2 hno2 ls hl
            have ih_13 := ih
            refine lv_iload hx hb dX1_associates_13 (lv_at hl 4 rfl) ?_
            refine lv_aload_n hx hb dX1_associates_15 rfl (lv_at hl 0 rfl) ?_
            refine g_get (b) 0 (C := RX1) (T := TX1) (N := 4) (ci := 0) (ref := "CubeWorlds$World") hx hb hts (by decide +kernel) hown hK hP (by omega) hw.1 rfl (by decide) (by decide +kernel) rfl rfl dX1_associates_16 ?_
            refine n_ge (tgt := 46) hx hb dX1_associates_19 (by decide) (by omega) (by omega) (fun h_19 => ?_) (fun h_19 => ?_)
            · refine n_iinc 3 1 (lv' := [(3, .int (nI (i + 1))), (0, .ref (ad (b))), (1, .int (nI (X))), (2, .int (nI (V))), (4, .int (nI (j)))]) hx hb dX1_associates_46 hl rfl (by decide) rfl (fun ls hl => ?_)
              refine n_goto 2 hx hb dX1_associates_49 (by decide) ?_
              exact ih_2 (i + 1) (by omega) (by omega) (ya_s hno (al_yes (fun k hk => hno2 k (by omega)))) _ (lv_sub hl [1, 2, 3, 0] rfl)
            · refine lv_aload_n hx hb dX1_associates_22 rfl (lv_at hl 0 rfl) ?_
              refine lv_iload_n hx hb dX1_associates_23 rfl (lv_at hl 1 rfl) ?_
              refine n_iconst 1 hx hb dX1_associates_24 ?_
              refine lv_iload_n hx hb dX1_associates_25 rfl (lv_at hl 3 rfl) ?_
              refine n_ishl hx hb dX1_associates_26 (by omega) ?_
              refine n_iconst 1 hx hb dX1_associates_27 ?_
              refine lv_iload hx hb dX1_associates_28 (lv_at hl 4 rfl) ?_
              refine n_ishl hx hb dX1_associates_30 (by omega) ?_
              refine lv_iload_n hx hb dX1_associates_31 rfl (lv_at hl 2 rfl) ?_
              refine g_callV (b) (C := RX1) (T := TX1) (N := 4) (ci := 0) (As := [.int (nI (X)), .int (nI (1 <<< i)), .int (nI (1 <<< j)), .int (nI (V))]) (rest := []) (c_X1_associatesWith l hI hbn hw (X := X) (Y := 1 <<< i) (Z := 1 <<< j) (V := V) ht hnn hcb hX (shl1_lt (by omega)) (shl1_lt (by omega)) hV) (cwV 4 hts gX1_associates_X1_associatesWith rfl rfl rfl (by decide +kernel) ⟨Nat.le_of_ble_eq_true rfl, Nat.le_of_ble_eq_true rfl⟩) hx hb hml hown hts hK hP  (by omega) hw.1 rfl rfl hl.1 rfl (Nat.le_of_ble_eq_true rfl) (Nat.zero_le _) (Nat.zero_le _) dX1_associates_32 ?_
              refine n_ifne_b (tgt := 40) hx hb dX1_associates_35 (by decide) (fun h_35 => ?_) (fun h_35 => ?_)
              · refine n_iinc 4 1 (lv' := [(4, .int (nI (j + 1))), (0, .ref (ad (b))), (1, .int (nI (X))), (2, .int (nI (V))), (3, .int (nI (i)))]) hx hb dX1_associates_40 hl rfl (by decide) rfl (fun ls hl => ?_)
                refine n_goto 13 hx hb dX1_associates_43 (by decide) ?_
                exact ih_13 (j + 1) (by omega) (by omega) (ya_s hno2 h_35) _ (lv_sub hl [1, 2, 3, 4, 0] rfl)
              · refine n_iconst 0 hx hb dX1_associates_38 ?_
                exact g_zret (false) hx hb hrt hlocks dX1_associates_39 rfl (by rw [show assB nn c0 X V = false from al_no (k := i) (by omega) (al_no (k := j) (by omega) h_35)])
        exact L_13 (nn + 1) (0) (Nat.zero_le _) (by omega) (fun j h => absurd h (by omega)) _ (lv_sub hl [1, 2, 3, 4, 0] rfl)
  exact L_2 (nn + 1) (0) (Nat.zero_le _) (by omega) (fun j h => absurd h (by omega)) _ (lv_sub hl [1, 2, 3, 0] rfl)
set_option maxHeartbeats 4000000 in
set_option maxRecDepth 100000 in
theorem c_X1_joinsIn (l : Launch) {D : va_G} {tys : List (ClassId × FieldType)} {ad : Nat → Nat} {n : Nat} {E : Nat → va_E} {cI : ClassId} {t0 b nn : Nat} {c0 tt : Nat → Nat} (hI : tys[t0]? = some (cI, .int)) (hbn : b + 2 < n) (hw : isW cI ad E b nn c0 tt) {X V : Nat} (ht : tOK nn c0 tt) (hnn : nn ≤ 4) (hcb : CB nn c0) (hX : X < 2 ^ nn) (hV : V ≤ 3) : Met l yX1_joinsIn wsX1_joinsIn ({ frames := 5, cells := 0, slots := 0, locals := 114 } : Room) (va_Pc [.ref (ad (b)), .int (nI (X)), .int (nI (V))] (PB D tys n ad (E))) (k2_QcV (.int (bI (jnB nn c0 X V)))) 0 0 (fun _ => False) := by
  have p4 := pow4 hnn
  have p0 : 0 < 2 ^ nn := Nat.pow_pos (by decide)
  refine g_pure (cc := cX1_joinsIn) (maxL := 3) (ret := (some .boolean)) (by decide) rfl (Nat.le_of_ble_eq_true rfl) ?_
  intro p e s m args below meth c hx hb hrt hts hown hlocks hml hP hK ls hl
  show W p l e ({ frames := 5, cells := 0, slots := 0, locals := 114 } : Room) s m args below meth c s.heap [] 0 0 _ _
  have hl : lv_has ls 3 [(0, .ref (ad (b))), (1, .int (nI (X))), (2, .int (nI (V)))] := hl
  refine lv_iload_n hx hb dX1_joinsIn_0 rfl (lv_at hl 2 rfl) ?_
  refine n_iconst 3 hx hb dX1_joinsIn_1 ?_
  refine n_cne (tgt := 46) hx hb dX1_joinsIn_2 (by decide) (by omega) (by omega) (fun h_2 => ?_) (fun h_2 => ?_)
  · refine lv_aload_n hx hb dX1_joinsIn_46 rfl (lv_at hl 0 rfl) ?_
    refine lv_iload_n hx hb dX1_joinsIn_47 rfl (lv_at hl 1 rfl) ?_
    refine lv_iload_n hx hb dX1_joinsIn_48 rfl (lv_at hl 2 rfl) ?_
    refine g_callV (b) (C := RX1) (T := TX1) (N := 4) (ci := 0) (As := [.int (nI (X)), .int (nI (V))]) (rest := []) (c_X1_associates l hI hbn hw (X := X) (V := V) ht hnn hcb hX (by omega)) (cwV 2 hts gX1_joinsIn_X1_associates rfl rfl rfl (by decide +kernel) ⟨Nat.le_of_ble_eq_true rfl, Nat.le_of_ble_eq_true rfl⟩) hx hb hml hown hts hK hP  (by omega) hw.1 rfl rfl hl.1 rfl (Nat.le_of_ble_eq_true rfl) (Nat.zero_le _) (Nat.zero_le _) dX1_joinsIn_49 ?_
    exact g_zret (assB nn c0 X V) hx hb hrt hlocks dX1_joinsIn_52 rfl (by unfold jnB; rw [if_neg h_2])
  · refine lv_aload_n hx hb dX1_joinsIn_5 rfl (lv_at hl 0 rfl) ?_
    refine lv_iload_n hx hb dX1_joinsIn_6 rfl (lv_at hl 1 rfl) ?_
    refine g_callV (b) (C := RX1) (T := TX1) (N := 4) (ci := 0) (As := [.int (nI (X))]) (rest := []) (c_X1_commutes l hI hbn hw (X := X) ht hnn hcb hX) (cwV 1 hts gX1_joinsIn_X1_commutes rfl rfl rfl (by decide +kernel) ⟨Nat.le_of_ble_eq_true rfl, Nat.le_of_ble_eq_true rfl⟩) hx hb hml hown hts hK hP  (by omega) hw.1 rfl rfl hl.1 rfl (Nat.le_of_ble_eq_true rfl) (Nat.zero_le _) (Nat.zero_le _) dX1_joinsIn_7 ?_
    refine n_ifeq_b (tgt := 44) hx hb dX1_joinsIn_10 (by decide) (fun h_10 => ?_) (fun h_10 => ?_)
    · refine n_iconst 0 hx hb dX1_joinsIn_44 ?_
      exact g_zret (false) hx hb hrt hlocks dX1_joinsIn_45 rfl (by unfold jnB; rw [if_pos h_2, h_10]; first | rfl | simp)
    · refine lv_aload_n hx hb dX1_joinsIn_13 rfl (lv_at hl 0 rfl) ?_
      refine lv_iload_n hx hb dX1_joinsIn_14 rfl (lv_at hl 1 rfl) ?_
      refine n_iconst 0 hx hb dX1_joinsIn_15 ?_
      refine g_callV (b) (C := RX1) (T := TX1) (N := 4) (ci := 0) (As := [.int (nI (X)), .int (nI (0))]) (rest := []) (c_X1_associates l hI hbn hw (X := X) (V := 0) ht hnn hcb hX (by omega)) (cwV 2 hts gX1_joinsIn_X1_associates rfl rfl rfl (by decide +kernel) ⟨Nat.le_of_ble_eq_true rfl, Nat.le_of_ble_eq_true rfl⟩) hx hb hml hown hts hK hP  (by omega) hw.1 rfl rfl hl.1 rfl (Nat.le_of_ble_eq_true rfl) (Nat.zero_le _) (Nat.zero_le _) dX1_joinsIn_16 ?_
      refine n_ifeq_b (tgt := 44) hx hb dX1_joinsIn_19 (by decide) (fun h_19 => ?_) (fun h_19 => ?_)
      · refine n_iconst 0 hx hb dX1_joinsIn_44 ?_
        exact g_zret (false) hx hb hrt hlocks dX1_joinsIn_45 rfl (by unfold jnB; rw [if_pos h_2, h_10, h_19]; first | rfl | simp)
      · refine lv_aload_n hx hb dX1_joinsIn_22 rfl (lv_at hl 0 rfl) ?_
        refine lv_iload_n hx hb dX1_joinsIn_23 rfl (lv_at hl 1 rfl) ?_
        refine n_iconst 1 hx hb dX1_joinsIn_24 ?_
        refine g_callV (b) (C := RX1) (T := TX1) (N := 4) (ci := 0) (As := [.int (nI (X)), .int (nI (1))]) (rest := []) (c_X1_associates l hI hbn hw (X := X) (V := 1) ht hnn hcb hX (by omega)) (cwV 2 hts gX1_joinsIn_X1_associates rfl rfl rfl (by decide +kernel) ⟨Nat.le_of_ble_eq_true rfl, Nat.le_of_ble_eq_true rfl⟩) hx hb hml hown hts hK hP  (by omega) hw.1 rfl rfl hl.1 rfl (Nat.le_of_ble_eq_true rfl) (Nat.zero_le _) (Nat.zero_le _) dX1_joinsIn_25 ?_
        refine n_ifeq_b (tgt := 44) hx hb dX1_joinsIn_28 (by decide) (fun h_28 => ?_) (fun h_28 => ?_)
        · refine n_iconst 0 hx hb dX1_joinsIn_44 ?_
          exact g_zret (false) hx hb hrt hlocks dX1_joinsIn_45 rfl (by unfold jnB; rw [if_pos h_2, h_10, h_19, h_28]; first | rfl | simp)
        · refine lv_aload_n hx hb dX1_joinsIn_31 rfl (lv_at hl 0 rfl) ?_
          refine lv_iload_n hx hb dX1_joinsIn_32 rfl (lv_at hl 1 rfl) ?_
          refine n_iconst 2 hx hb dX1_joinsIn_33 ?_
          refine g_callV (b) (C := RX1) (T := TX1) (N := 4) (ci := 0) (As := [.int (nI (X)), .int (nI (2))]) (rest := []) (c_X1_associates l hI hbn hw (X := X) (V := 2) ht hnn hcb hX (by omega)) (cwV 2 hts gX1_joinsIn_X1_associates rfl rfl rfl (by decide +kernel) ⟨Nat.le_of_ble_eq_true rfl, Nat.le_of_ble_eq_true rfl⟩) hx hb hml hown hts hK hP  (by omega) hw.1 rfl rfl hl.1 rfl (Nat.le_of_ble_eq_true rfl) (Nat.zero_le _) (Nat.zero_le _) dX1_joinsIn_34 ?_
          refine n_ifeq_b (tgt := 44) hx hb dX1_joinsIn_37 (by decide) (fun h_37 => ?_) (fun h_37 => ?_)
          · refine n_iconst 0 hx hb dX1_joinsIn_44 ?_
            exact g_zret (false) hx hb hrt hlocks dX1_joinsIn_45 rfl (by unfold jnB; rw [if_pos h_2, h_10, h_19, h_28, h_37]; first | rfl | simp)
          · refine n_iconst 1 hx hb dX1_joinsIn_40 ?_
            refine n_goto 45 hx hb dX1_joinsIn_41 (by decide) ?_
            exact g_zret (true) hx hb hrt hlocks dX1_joinsIn_45 rfl (by unfold jnB; rw [if_pos h_2, h_10, h_19, h_28, h_37]; rfl)
set_option maxHeartbeats 4000000 in
set_option maxRecDepth 100000 in
theorem c_X1_countUnlike (l : Launch) {D : va_G} {tys : List (ClassId × FieldType)} {ad : Nat → Nat} {n : Nat} {E : Nat → va_E} {cI : ClassId} {t0 b nn : Nat} {c0 tt : Nat → Nat} (hI : tys[t0]? = some (cI, .int)) (hbn : b + 2 < n) (hw : isW cI ad E b nn c0 tt) (ht : tOK nn c0 tt) (hnn : nn ≤ 4) (hcb : CB nn c0) : Met l yX1_countUnlike wsX1_countUnlike ({ frames := 2, cells := 0, slots := 0, locals := 43 } : Room) (va_Pc [.ref (ad (b))] (PB D tys n ad (E))) (k2_QcV (.int (nI (unl nn c0)))) 0 0 (fun _ => False) := by
  have p4 := pow4 hnn
  have p0 : 0 < 2 ^ nn := Nat.pow_pos (by decide)
  refine g_pure (cc := cX1_countUnlike) (maxL := 4) (ret := (some .int)) (by decide) rfl (Nat.le_of_ble_eq_true rfl) ?_
  intro p e s m args below meth c hx hb hrt hts hown hlocks hml hP hK ls hl
  show W p l e ({ frames := 2, cells := 0, slots := 0, locals := 43 } : Room) s m args below meth c s.heap [] 0 0 _ _
  have hl : lv_has ls 4 [(0, .ref (ad (b)))] := hl
  refine n_iconst 0 hx hb dX1_countUnlike_0 ?_
  refine lv_istore_n (lv' := [(1, .int (nI (0))), (0, .ref (ad (b)))]) hx hb dX1_countUnlike_1 rfl hl (by decide) rfl (fun ls hl => ?_)
  refine n_iconst 0 hx hb dX1_countUnlike_2 ?_
  refine lv_istore_n (lv' := [(2, .int (nI (0))), (1, .int (nI (0))), (0, .ref (ad (b)))]) hx hb dX1_countUnlike_3 rfl hl (by decide) rfl (fun ls hl => ?_)
  have L_4 : ∀ (r : Nat) (acc : Nat) (x : Nat), (x ≤ 2 ^ nn) → (2 ^ nn < x + r) → (acc = sm (fun x => cnt (fun y => !(tm nn c0 x y == tm nn c0 y x)) (2 ^ nn)) x) → ∀ (ls : Array Slot), lv_has ls 4 [(0, .ref (ad (b))), (1, .int (nI (acc))), (2, .int (nI (x)))] → W p l e ({ frames := 2, cells := 0, slots := 0, locals := 43 } : Room) s m args below meth c s.heap [] 0 0 (MQ below (k2_QcV (.int (nI (unl nn c0)))) args s 0 0 (fun _ => False)) (F0 m 4 ls []) := by
    intro r
    induction r with
    | zero => intro acc x hx1 hr ha; intros; exact absurd hr (by omega)
    | succ r ih =>
      intro acc x hx1 hr ha ls hl
      have ih_4 := ih
      refine lv_iload_n hx hb dX1_countUnlike_4 rfl (lv_at hl 2 rfl) ?_
      refine lv_aload_n hx hb dX1_countUnlike_5 rfl (lv_at hl 0 rfl) ?_
      refine g_get (b) 1 (C := RX1) (T := TX1) (N := 4) (ci := 0) (ref := "CubeWorlds$World") hx hb hts (by decide +kernel) hown hK hP (by omega) hw.1 rfl (by decide) (by decide +kernel) rfl rfl dX1_countUnlike_6 ?_
      refine n_ge (tgt := 52) hx hb dX1_countUnlike_9 (by decide) (by omega) (by omega) (fun h_9 => ?_) (fun h_9 => ?_)
      · refine lv_iload_n hx hb dX1_countUnlike_52 rfl (lv_at hl 1 rfl) ?_
        exact g_iret hx hb hrt hlocks dX1_countUnlike_53 (by rw [ha, show x = 2 ^ nn by omega]; rfl)
      · refine n_iconst 0 hx hb dX1_countUnlike_12 ?_
        refine lv_istore_n (lv' := [(3, .int (nI (0))), (0, .ref (ad (b))), (1, .int (nI (acc))), (2, .int (nI (x)))]) hx hb dX1_countUnlike_13 rfl hl (by decide) rfl (fun ls hl => ?_)
        have L_14 : ∀ (r : Nat) (acc2 : Nat) (y : Nat), (y ≤ 2 ^ nn) → (2 ^ nn < y + r) → (acc2 = sm (fun x => cnt (fun y => !(tm nn c0 x y == tm nn c0 y x)) (2 ^ nn)) x + cnt (fun y => !(tm nn c0 x y == tm nn c0 y x)) y) → ∀ (ls : Array Slot), lv_has ls 4 [(0, .ref (ad (b))), (1, .int (nI (acc2))), (2, .int (nI (x))), (3, .int (nI (y)))] → W p l e ({ frames := 2, cells := 0, slots := 0, locals := 43 } : Room) s m args below meth c s.heap [] 0 0 (MQ below (k2_QcV (.int (nI (unl nn c0)))) args s 0 0 (fun _ => False)) (F0 m 14 ls []) := by
          intro r
          induction r with
          | zero => intro acc2 y hy hr2 ha2; intros; exact absurd hr2 (by omega)
          | succ r ih =>
            intro acc2 y hy hr2 ha2 ls hl
            have ih_14 := ih
            refine lv_iload_n hx hb dX1_countUnlike_14 rfl (lv_at hl 3 rfl) ?_
            refine lv_aload_n hx hb dX1_countUnlike_15 rfl (lv_at hl 0 rfl) ?_
            refine g_get (b) 1 (C := RX1) (T := TX1) (N := 4) (ci := 0) (ref := "CubeWorlds$World") hx hb hts (by decide +kernel) hown hK hP (by omega) hw.1 rfl (by decide) (by decide +kernel) rfl rfl dX1_countUnlike_16 ?_
            refine n_ge (tgt := 46) hx hb dX1_countUnlike_19 (by decide) (by omega) (by omega) (fun h_19 => ?_) (fun h_19 => ?_)
            · refine n_iinc 2 1 (lv' := [(2, .int (nI (x + 1))), (0, .ref (ad (b))), (1, .int (nI (acc2))), (3, .int (nI (y)))]) hx hb dX1_countUnlike_46 hl rfl (by decide) rfl (fun ls hl => ?_)
              refine n_goto 4 hx hb dX1_countUnlike_49 (by decide) ?_
              exact ih_4 (acc2) (x + 1) (by omega) (by omega) (by rw [ha2, sm_s, show y = 2 ^ nn by omega]) _ (lv_sub hl [1, 2, 0] rfl)
            · refine lv_aload_n hx hb dX1_countUnlike_22 rfl (lv_at hl 0 rfl) ?_
              refine lv_iload_n hx hb dX1_countUnlike_23 rfl (lv_at hl 2 rfl) ?_
              refine lv_iload_n hx hb dX1_countUnlike_24 rfl (lv_at hl 3 rfl) ?_
              refine g_callV (b) (C := RX1) (T := TX1) (N := 4) (ci := 0) (As := [.int (nI (x)), .int (nI (y))]) (rest := []) (c_X1_times l hI hbn hw (X := x) (Y := y) ht hnn (by omega) (by omega)) (cwV 2 hts gX1_countUnlike_X1_times rfl rfl rfl (by decide +kernel) ⟨Nat.le_of_ble_eq_true rfl, Nat.le_of_ble_eq_true rfl⟩) hx hb hml hown hts hK hP  (by omega) hw.1 rfl rfl hl.1 rfl (Nat.le_of_ble_eq_true rfl) (Nat.zero_le _) (Nat.zero_le _) dX1_countUnlike_25 ?_
              refine lv_aload_n hx hb dX1_countUnlike_28 rfl (lv_at hl 0 rfl) ?_
              refine lv_iload_n hx hb dX1_countUnlike_29 rfl (lv_at hl 3 rfl) ?_
              refine lv_iload_n hx hb dX1_countUnlike_30 rfl (lv_at hl 2 rfl) ?_
              refine g_callV (b) (C := RX1) (T := TX1) (N := 4) (ci := 0) (As := [.int (nI (y)), .int (nI (x))]) (rest := [.int (nI (tm nn c0 x y))]) (c_X1_times l hI hbn hw (X := y) (Y := x) ht hnn (by omega) (by omega)) (cwV 2 hts gX1_countUnlike_X1_times rfl rfl rfl (by decide +kernel) ⟨Nat.le_of_ble_eq_true rfl, Nat.le_of_ble_eq_true rfl⟩) hx hb hml hown hts hK hP  (by omega) hw.1 rfl rfl hl.1 rfl (Nat.le_of_ble_eq_true rfl) (Nat.zero_le _) (Nat.zero_le _) dX1_countUnlike_31 ?_
              have hm9 := tm_lt hcb x y
              have hm8 := tm_lt hcb y x
              refine n_ceq (tgt := 40) hx hb dX1_countUnlike_34 (by decide) (by omega) (by omega) (fun h_34 => ?_) (fun h_34 => ?_)
              · refine n_iinc 3 1 (lv' := [(3, .int (nI (y + 1))), (0, .ref (ad (b))), (1, .int (nI (acc2))), (2, .int (nI (x)))]) hx hb dX1_countUnlike_40 hl rfl (by decide) rfl (fun ls hl => ?_)
                refine n_goto 14 hx hb dX1_countUnlike_43 (by decide) ?_
                exact ih_14 (acc2) (y + 1) (by omega) (by omega) (by rw [ha2, cnt_n (by rw [bT h_34]; rfl)]) _ (lv_sub hl [1, 2, 3, 0] rfl)
              · refine n_iinc 1 1 (lv' := [(1, .int (nI (acc2 + 1))), (0, .ref (ad (b))), (2, .int (nI (x))), (3, .int (nI (y)))]) hx hb dX1_countUnlike_37 hl rfl (by decide) rfl (fun ls hl => ?_)
                refine n_iinc 3 1 (lv' := [(3, .int (nI (y + 1))), (1, .int (nI (acc2 + 1))), (0, .ref (ad (b))), (2, .int (nI (x)))]) hx hb dX1_countUnlike_40 hl rfl (by decide) rfl (fun ls hl => ?_)
                refine n_goto 14 hx hb dX1_countUnlike_43 (by decide) ?_
                exact ih_14 (acc2 + 1) (y + 1) (by omega) (by omega) (by rw [ha2, cnt_y (by rw [bF h_34]; rfl), Nat.add_assoc]) _ (lv_sub hl [2, 1, 3, 0] rfl)
        exact L_14 (2 ^ nn + 1) (acc) (0) (Nat.zero_le _) (by omega) (by rw [ha]; rfl) _ (lv_sub hl [1, 2, 3, 0] rfl)
  exact L_4 (2 ^ nn + 1) (0) (0) (Nat.zero_le _) (by omega) rfl _ (lv_sub hl [2, 1, 0] rfl)
set_option maxHeartbeats 4000000 in
set_option maxRecDepth 100000 in
theorem c_J6_bitCount_0f7a4 (l : Launch) {D : va_G} {tys : List (ClassId × FieldType)} {ad : Nat → Nat} {n : Nat} {E : Nat → va_E} {cI : ClassId} {t0 b nn : Nat} {c0 tt : Nat → Nat} (hI : tys[t0]? = some (cI, .int)) (hbn : b + 2 < n) (hw : isW cI ad E b nn c0 tt) {X : Nat} (hX : X < 65536) : Met l yJ6_bitCount_0f7a4 wsJ6_bitCount_0f7a4 ({ frames := 0, cells := 0, slots := 0, locals := 0 } : Room) (va_Pc [.int (nI (X))] (PB D tys n ad (E))) (k2_QcV (.int (nI (pcn X)))) 0 0 (fun _ => False) := by
  have b1 := bc1_le X
  have b2 := bc2_le X
  have b3 := bc3_le X
  have b4 := bc4_le X
  refine g_pure (cc := cJ6_bitCount_0f7a4) (maxL := 1) (ret := (some .int)) (by decide) rfl (Nat.le_of_ble_eq_true rfl) ?_
  intro p e s m args below meth c hx hb hrt hts hown hlocks hml hP hK ls hl
  show W p l e ({ frames := 0, cells := 0, slots := 0, locals := 0 } : Room) s m args below meth c s.heap [] 0 0 _ _
  have hl : lv_has ls 1 [(0, .int (nI (X)))] := hl
  refine lv_iload_n hx hb dJ6_bitCount_0f7a4_0 rfl (lv_at hl 0 rfl) ?_
  refine lv_iload_n hx hb dJ6_bitCount_0f7a4_1 rfl (lv_at hl 0 rfl) ?_
  refine n_iconst 1 hx hb dJ6_bitCount_0f7a4_2 ?_
  refine n_iushr hx hb dJ6_bitCount_0f7a4_3 (by omega) (by decide) ?_
  refine lv_ldcw (v := nI 1431655765) hx hb hown (hts _ (by decide +kernel)) dJ6_bitCount_0f7a4_4 ?_
  refine n_iand hx hb dJ6_bitCount_0f7a4_7 ?_
  refine n_isub hx hb dJ6_bitCount_0f7a4_8 (Nat.le_trans Nat.and_le_left (shr_le _ _)) ?_
  refine n_eq (show nI (X - ((X >>> 1) &&& 1431655765)) = nI (bc1 X) from rfl) ?_
  refine lv_istore_n (lv' := [(0, .int (nI (bc1 X)))]) hx hb dJ6_bitCount_0f7a4_9 rfl hl (by decide) rfl (fun ls hl => ?_)
  refine lv_iload_n hx hb dJ6_bitCount_0f7a4_10 rfl (lv_at hl 0 rfl) ?_
  refine lv_ldcw (v := nI 858993459) hx hb hown (hts _ (by decide +kernel)) dJ6_bitCount_0f7a4_11 ?_
  refine n_iand hx hb dJ6_bitCount_0f7a4_14 ?_
  refine lv_iload_n hx hb dJ6_bitCount_0f7a4_15 rfl (lv_at hl 0 rfl) ?_
  refine n_iconst 2 hx hb dJ6_bitCount_0f7a4_16 ?_
  refine n_iushr hx hb dJ6_bitCount_0f7a4_17 (by omega) (by decide) ?_
  refine lv_ldcw (v := nI 858993459) hx hb hown (hts _ (by decide +kernel)) dJ6_bitCount_0f7a4_18 ?_
  refine n_iand hx hb dJ6_bitCount_0f7a4_21 ?_
  refine n_iadd hx hb dJ6_bitCount_0f7a4_22 ?_
  refine n_eq (show nI (((bc1 X) &&& 858993459) + (((bc1 X) >>> 2) &&& 858993459)) = nI (bc2 X) from rfl) ?_
  refine lv_istore_n (lv' := [(0, .int (nI (bc2 X)))]) hx hb dJ6_bitCount_0f7a4_23 rfl hl (by decide) rfl (fun ls hl => ?_)
  refine lv_iload_n hx hb dJ6_bitCount_0f7a4_24 rfl (lv_at hl 0 rfl) ?_
  refine lv_iload_n hx hb dJ6_bitCount_0f7a4_25 rfl (lv_at hl 0 rfl) ?_
  refine n_iconst 4 hx hb dJ6_bitCount_0f7a4_26 ?_
  refine n_iushr hx hb dJ6_bitCount_0f7a4_27 (by omega) (by decide) ?_
  refine n_iadd hx hb dJ6_bitCount_0f7a4_28 ?_
  refine lv_ldcw (v := nI 252645135) hx hb hown (hts _ (by decide +kernel)) dJ6_bitCount_0f7a4_29 ?_
  refine n_iand hx hb dJ6_bitCount_0f7a4_32 ?_
  refine n_eq (show nI (((bc2 X) + ((bc2 X) >>> 4)) &&& 252645135) = nI (bc3 X) from rfl) ?_
  refine lv_istore_n (lv' := [(0, .int (nI (bc3 X)))]) hx hb dJ6_bitCount_0f7a4_33 rfl hl (by decide) rfl (fun ls hl => ?_)
  refine lv_iload_n hx hb dJ6_bitCount_0f7a4_34 rfl (lv_at hl 0 rfl) ?_
  refine lv_iload_n hx hb dJ6_bitCount_0f7a4_35 rfl (lv_at hl 0 rfl) ?_
  refine lv_bipush (v := nI 8) hx hb dJ6_bitCount_0f7a4_36 (by decide) ?_
  refine n_iushr hx hb dJ6_bitCount_0f7a4_38 (by omega) (by decide) ?_
  refine n_iadd hx hb dJ6_bitCount_0f7a4_39 ?_
  refine n_eq (show nI ((bc3 X) + ((bc3 X) >>> 8)) = nI (bc4 X) from rfl) ?_
  refine lv_istore_n (lv' := [(0, .int (nI (bc4 X)))]) hx hb dJ6_bitCount_0f7a4_40 rfl hl (by decide) rfl (fun ls hl => ?_)
  refine lv_iload_n hx hb dJ6_bitCount_0f7a4_41 rfl (lv_at hl 0 rfl) ?_
  refine lv_iload_n hx hb dJ6_bitCount_0f7a4_42 rfl (lv_at hl 0 rfl) ?_
  refine lv_bipush (v := nI 16) hx hb dJ6_bitCount_0f7a4_43 (by decide) ?_
  refine n_iushr hx hb dJ6_bitCount_0f7a4_45 (by omega) (by decide) ?_
  refine n_iadd hx hb dJ6_bitCount_0f7a4_46 ?_
  refine n_eq (show nI ((bc4 X) + ((bc4 X) >>> 16)) = nI (bc5 X) from rfl) ?_
  refine lv_istore_n (lv' := [(0, .int (nI (bc5 X)))]) hx hb dJ6_bitCount_0f7a4_47 rfl hl (by decide) rfl (fun ls hl => ?_)
  refine lv_iload_n hx hb dJ6_bitCount_0f7a4_48 rfl (lv_at hl 0 rfl) ?_
  refine lv_bipush (v := nI 63) hx hb dJ6_bitCount_0f7a4_49 (by decide) ?_
  refine n_iand hx hb dJ6_bitCount_0f7a4_51 ?_
  exact g_iret hx hb hrt hlocks dJ6_bitCount_0f7a4_52 (by rw [bc_ok X hX])
set_option maxHeartbeats 4000000 in
set_option maxRecDepth 100000 in
theorem c_X1_rankOf (l : Launch) {D : va_G} {tys : List (ClassId × FieldType)} {ad : Nat → Nat} {n : Nat} {E : Nat → va_E} {cI : ClassId} {t0 b nn : Nat} {c0 tt : Nat → Nat} (hI : tys[t0]? = some (cI, .int)) (hbn : b + 2 < n) (hw : isW cI ad E b nn c0 tt) {Y : Nat} (ht : tOK nn c0 tt) (hnn : nn ≤ 4) (h1n : 1 ≤ nn) (hcb : CB nn c0) (hY : Y < 2 ^ nn) : Met l yX1_rankOf wsX1_rankOf ({ frames := 2, cells := 0, slots := 0, locals := 43 } : Room) (va_Pc [.ref (ad (b)), .int (nI (Y))] (PB D tys n ad (E))) (k2_QcV (.int (nI (rnk nn c0 Y)))) 0 0 (fun _ => False) := by
  have p4 := pow4 hnn
  have p0 : 0 < 2 ^ nn := Nat.pow_pos (by decide)
  have hs := rk_seen hcb Y (2 ^ nn)
  have hp := p16 p4
  have hq := pcn_le hs p4
  refine g_pure (cc := cX1_rankOf) (maxL := 5) (ret := (some .int)) (by decide) rfl (Nat.le_of_ble_eq_true rfl) ?_
  intro p e s m args below meth c hx hb hrt hts hown hlocks hml hP hK ls hl
  show W p l e ({ frames := 2, cells := 0, slots := 0, locals := 43 } : Room) s m args below meth c s.heap [] 0 0 _ _
  have hl : lv_has ls 5 [(0, .ref (ad (b))), (1, .int (nI (Y)))] := hl
  refine n_iconst 0 hx hb dX1_rankOf_0 ?_
  refine lv_istore_n (lv' := [(2, .int (nI (0))), (0, .ref (ad (b))), (1, .int (nI (Y)))]) hx hb dX1_rankOf_1 rfl hl (by decide) rfl (fun ls hl => ?_)
  refine n_iconst 0 hx hb dX1_rankOf_2 ?_
  refine lv_istore_n (lv' := [(3, .int (nI (0))), (2, .int (nI (0))), (0, .ref (ad (b))), (1, .int (nI (Y)))]) hx hb dX1_rankOf_3 rfl hl (by decide) rfl (fun ls hl => ?_)
  have L_4 : ∀ (r : Nat) (acc : Nat) (x : Nat), (x ≤ 2 ^ nn) → (2 ^ nn < x + r) → (acc = os (fun x => 1 <<< tm nn c0 x Y) x) → ∀ (ls : Array Slot), lv_has ls 5 [(0, .ref (ad (b))), (1, .int (nI (Y))), (2, .int (nI (acc))), (3, .int (nI (x)))] → W p l e ({ frames := 2, cells := 0, slots := 0, locals := 43 } : Room) s m args below meth c s.heap [] 0 0 (MQ below (k2_QcV (.int (nI (rnk nn c0 Y)))) args s 0 0 (fun _ => False)) (F0 m 4 ls []) := by
    intro r
    induction r with
    | zero => intro acc x hx1 hr ha; intros; exact absurd hr (by omega)
    | succ r ih =>
      intro acc x hx1 hr ha ls hl
      have ih_4 := ih
      refine lv_iload_n hx hb dX1_rankOf_4 rfl (lv_at hl 3 rfl) ?_
      refine lv_aload_n hx hb dX1_rankOf_5 rfl (lv_at hl 0 rfl) ?_
      refine g_get (b) 1 (C := RX1) (T := TX1) (N := 4) (ci := 0) (ref := "CubeWorlds$World") hx hb hts (by decide +kernel) hown hK hP (by omega) hw.1 rfl (by decide) (by decide +kernel) rfl rfl dX1_rankOf_6 ?_
      refine n_ge (tgt := 29) hx hb dX1_rankOf_9 (by decide) (by omega) (by omega) (fun h_9 => ?_) (fun h_9 => ?_)
      · have e9 : x = 2 ^ nn := by omega
        rw [ha, e9] at hl
        refine lv_iload_n hx hb dX1_rankOf_29 rfl (lv_at hl 2 rfl) ?_
        refine g_callS (As := [.int (nI (os (fun x => 1 <<< tm nn c0 x Y) (2 ^ nn)))]) (rest := []) (c_J6_bitCount_0f7a4 l hI hbn hw (X := os (fun x => 1 <<< tm nn c0 x Y) (2 ^ nn)) (by omega)) (va_cwS 1 hts gX1_rankOf_J6_bitCount_0f7a4 rfl rfl rfl (by decide +kernel) ⟨Nat.le_of_ble_eq_true rfl, Nat.le_of_ble_eq_true rfl⟩) hx hb hml hown hts hK hP  rfl hl.1 rfl (Nat.le_of_ble_eq_true rfl) (Nat.zero_le _) (Nat.zero_le _) dX1_rankOf_30 ?_
        refine lv_istore_n (lv' := [(3, .int (nI (pcn (os (fun x => 1 <<< tm nn c0 x Y) (2 ^ nn))))), (0, .ref (ad (b))), (1, .int (nI (Y))), (2, .int (nI (os (fun x => 1 <<< tm nn c0 x Y) (2 ^ nn))))]) hx hb dX1_rankOf_33 rfl hl (by decide) rfl (fun ls hl => ?_)
        refine n_iconst 0 hx hb dX1_rankOf_34 ?_
        refine lv_istore (lv' := [(4, .int (nI (0))), (3, .int (nI (pcn (os (fun x => 1 <<< tm nn c0 x Y) (2 ^ nn))))), (0, .ref (ad (b))), (1, .int (nI (Y))), (2, .int (nI (os (fun x => 1 <<< tm nn c0 x Y) (2 ^ nn))))]) hx hb dX1_rankOf_35 hl (by decide) rfl (fun ls hl => ?_)
        have L_37 : ∀ (r : Nat) (q : Nat), (q ≤ nn) → (nn < q + r) → (∀ j, j < q → 2 ^ j < pcn (os (fun x => 1 <<< tm nn c0 x Y) (2 ^ nn))) → ∀ (ls : Array Slot), lv_has ls 5 [(0, .ref (ad (b))), (1, .int (nI (Y))), (3, .int (nI (pcn (os (fun x => 1 <<< tm nn c0 x Y) (2 ^ nn))))), (4, .int (nI (q)))] → W p l e ({ frames := 2, cells := 0, slots := 0, locals := 43 } : Room) s m args below meth c s.heap [] 0 0 (MQ below (k2_QcV (.int (nI (rnk nn c0 Y)))) args s 0 0 (fun _ => False)) (F0 m 37 ls []) := by
          intro r
          induction r with
          | zero => intro q hq1 hr2 hno; intros; exact absurd hr2 (by omega)
          | succ r ih =>
            intro q hq1 hr2 hno ls hl
            have ih_37 := ih
            refine lv_iload hx hb dX1_rankOf_37 (lv_at hl 3 rfl) ?_
            refine lv_aload_n hx hb dX1_rankOf_39 rfl (lv_at hl 0 rfl) ?_
            refine g_get (b) 0 (C := RX1) (T := TX1) (N := 4) (ci := 0) (ref := "CubeWorlds$World") hx hb hts (by decide +kernel) hown hK hP (by omega) hw.1 rfl (by decide) (by decide +kernel) rfl rfl dX1_rankOf_40 ?_
            refine n_ge (tgt := 60) hx hb dX1_rankOf_43 (by decide) (by omega) (by omega) (fun h_43 => ?_) (fun h_43 => ?_)
            · refine lv_iload hx hb dX1_rankOf_60 (lv_at hl 3 rfl) ?_
              exact g_iret hx hb hrt hlocks dX1_rankOf_62 (by rw [show rnk nn c0 Y = q from lgn_at (by rw [show q = nn by omega]; exact hq) hno (by omega)])
            · have hq2 := shl1_lt (k := q) (n := 5) (by omega)
              refine n_iconst 1 hx hb dX1_rankOf_46 ?_
              refine lv_iload hx hb dX1_rankOf_47 (lv_at hl 3 rfl) ?_
              refine n_ishl hx hb dX1_rankOf_49 (by omega) ?_
              refine lv_iload_n hx hb dX1_rankOf_50 rfl (lv_at hl 2 rfl) ?_
              refine n_ge (tgt := 60) hx hb dX1_rankOf_51 (by decide) (by omega) (by omega) (fun h_51 => ?_) (fun h_51 => ?_)
              · refine lv_iload hx hb dX1_rankOf_60 (lv_at hl 3 rfl) ?_
                exact g_iret hx hb hrt hlocks dX1_rankOf_62 (by rw [show rnk nn c0 Y = q from lgn_at ((shl1 q) ▸ h_51) hno (by omega)])
              · refine n_iinc 3 1 (lv' := [(4, .int (nI (q + 1))), (0, .ref (ad (b))), (1, .int (nI (Y))), (3, .int (nI (pcn (os (fun x => 1 <<< tm nn c0 x Y) (2 ^ nn)))))]) hx hb dX1_rankOf_54 hl rfl (by decide) rfl (fun ls hl => ?_)
                refine n_goto 37 hx hb dX1_rankOf_57 (by decide) ?_
                exact ih_37 (q + 1) (by omega) (by omega) (pw_s hno h_51) _ (lv_sub hl [1, 2, 3, 0] rfl)
        exact L_37 (nn + 1) (0) (Nat.zero_le _) (by omega) (fun j h => absurd h (by omega)) _ (lv_sub hl [2, 3, 1, 0] rfl)
      · refine lv_iload_n hx hb dX1_rankOf_12 rfl (lv_at hl 2 rfl) ?_
        refine n_iconst 1 hx hb dX1_rankOf_13 ?_
        refine lv_aload_n hx hb dX1_rankOf_14 rfl (lv_at hl 0 rfl) ?_
        refine lv_iload_n hx hb dX1_rankOf_15 rfl (lv_at hl 3 rfl) ?_
        refine lv_iload_n hx hb dX1_rankOf_16 rfl (lv_at hl 1 rfl) ?_
        refine g_callV (b) (C := RX1) (T := TX1) (N := 4) (ci := 0) (As := [.int (nI (x)), .int (nI (Y))]) (rest := [.int (nI (1)), .int (nI (acc))]) (c_X1_times l hI hbn hw (X := x) (Y := Y) ht hnn (by omega) (by omega)) (cwV 2 hts gX1_rankOf_X1_times rfl rfl rfl (by decide +kernel) ⟨Nat.le_of_ble_eq_true rfl, Nat.le_of_ble_eq_true rfl⟩) hx hb hml hown hts hK hP  (by omega) hw.1 rfl rfl hl.1 rfl (Nat.le_of_ble_eq_true rfl) (Nat.zero_le _) (Nat.zero_le _) dX1_rankOf_17 ?_
        have hm9 := tm_lt hcb x Y
        refine n_ishl hx hb dX1_rankOf_20 (by omega) ?_
        refine n_ior hx hb dX1_rankOf_21 ?_
        refine lv_istore_n (lv' := [(2, .int (nI (acc ||| (1 <<< (tm nn c0 x Y))))), (0, .ref (ad (b))), (1, .int (nI (Y))), (3, .int (nI (x)))]) hx hb dX1_rankOf_22 rfl hl (by decide) rfl (fun ls hl => ?_)
        refine n_iinc 3 1 (lv' := [(3, .int (nI (x + 1))), (2, .int (nI (acc ||| (1 <<< (tm nn c0 x Y))))), (0, .ref (ad (b))), (1, .int (nI (Y)))]) hx hb dX1_rankOf_23 hl rfl (by decide) rfl (fun ls hl => ?_)
        refine n_goto 4 hx hb dX1_rankOf_26 (by decide) ?_
        exact ih_4 (acc ||| (1 <<< (tm nn c0 x Y))) (x + 1) (by omega) (by omega) (by rw [ha]; rfl) _ (lv_sub hl [2, 3, 1, 0] rfl)
  exact L_4 (2 ^ nn + 1) (0) (0) (Nat.zero_le _) (by omega) rfl _ (lv_sub hl [2, 3, 1, 0] rfl)
