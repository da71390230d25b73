set_option maxHeartbeats 4000000 in
set_option maxRecDepth 100000 in
/-- tableIndex(x, y): 16 x + y -/
theorem c_X1_tableIndex (l : Launch) {D : va_G} {tys : List (ClassId × FieldType)} {ad : Nat → Nat} {n : Nat} {E : Nat → va_E} {cI : ClassId} {t0 b nn : Nat} {c0 tt : Nat → Nat} (hI : tys[t0]? = some (cI, .int)) (hbn : b + 2 < n) (hw : isW cI ad E b nn c0 tt) {X Y : Nat} (hX : X < 16) (hY : Y < 16) : Met l yX1_tableIndex wsX1_tableIndex ({ frames := 0, cells := 0, slots := 0, locals := 0 } : Room) (va_Pc [.int (nI (X)), .int (nI (Y))] (PB D tys n ad (E))) (k2_QcV (.int (nI (16 * X + Y)))) 0 0 (fun _ => False) := by
  refine g_pure (cc := cX1_tableIndex) (maxL := 2) (ret := (some .int)) (by decide) rfl (Nat.le_of_ble_eq_true rfl) ?_
  intro p e s m args below meth c hx hb hr hts hown hlocks hml hP hK ls hl
  show W p l e ({ frames := 0, cells := 0, slots := 0, locals := 0 } : Room) s m args below meth c s.heap [] 0 0 _ _
  have hl : lv_has ls 2 [(0, .int (nI (X))), (1, .int (nI (Y)))] := hl
  refine lv_iload_n hx hb dX1_tableIndex_0 rfl (lv_at hl 0 rfl) ?_
  refine lv_bipush (v := nI 15) hx hb dX1_tableIndex_1 (by decide) ?_
  refine n_iand hx hb dX1_tableIndex_3 ?_
  refine n_iconst 4 hx hb dX1_tableIndex_4 ?_
  refine n_ishl hx hb dX1_tableIndex_5 (by omega) ?_
  refine lv_iload_n hx hb dX1_tableIndex_6 rfl (lv_at hl 1 rfl) ?_
  refine lv_bipush (v := nI 15) hx hb dX1_tableIndex_7 (by decide) ?_
  refine n_iand hx hb dX1_tableIndex_9 ?_
  refine n_ior hx hb dX1_tableIndex_10 ?_
  exact g_iret hx hb hr hlocks dX1_tableIndex_11 (by rw [ti_eq X hX Y hY])
set_option maxHeartbeats 4000000 in
set_option maxRecDepth 100000 in
/-- cellIndex(i, j): 4 i + j -/
theorem c_X2_cellIndex (l : Launch) {D : va_G} {tys : List (ClassId × FieldType)} {ad : Nat → Nat} {n : Nat} {E : Nat → va_E} {cI : ClassId} {t0 b nn : Nat} {c0 tt : Nat → Nat} (hI : tys[t0]? = some (cI, .int)) (hbn : b + 2 < n) (hw : isW cI ad E b nn c0 tt) {I J : Nat} (hi4 : I < 4) (hj4 : J < 4) : Met l yX2_cellIndex wsX2_cellIndex ({ frames := 0, cells := 0, slots := 0, locals := 0 } : Room) (va_Pc [.int (nI (I)), .int (nI (J))] (PB D tys n ad (E))) (k2_QcV (.int (nI (4 * I + J)))) 0 0 (fun _ => False) := by
  refine g_pure (cc := cX2_cellIndex) (maxL := 2) (ret := (some .int)) (by decide) rfl (Nat.le_of_ble_eq_true rfl) ?_
  intro p e s m args below meth c hx hb hr hts hown hlocks hml hP hK ls hl
  show W p l e ({ frames := 0, cells := 0, slots := 0, locals := 0 } : Room) s m args below meth c s.heap [] 0 0 _ _
  have hl : lv_has ls 2 [(0, .int (nI (I))), (1, .int (nI (J)))] := hl
  refine lv_iload_n hx hb dX2_cellIndex_0 rfl (lv_at hl 0 rfl) ?_
  refine n_iconst 3 hx hb dX2_cellIndex_1 ?_
  refine n_iand hx hb dX2_cellIndex_2 ?_
  refine n_iconst 2 hx hb dX2_cellIndex_3 ?_
  refine n_ishl hx hb dX2_cellIndex_4 (by omega) ?_
  refine lv_iload_n hx hb dX2_cellIndex_5 rfl (lv_at hl 1 rfl) ?_
  refine n_iconst 3 hx hb dX2_cellIndex_6 ?_
  refine n_iand hx hb dX2_cellIndex_7 ?_
  refine n_ior hx hb dX2_cellIndex_8 ?_
  exact g_iret hx hb hr hlocks dX2_cellIndex_9 (by rw [ci_eq I hi4 J hj4])
set_option maxHeartbeats 4000000 in
set_option maxRecDepth 100000 in
theorem c_X1_cell (l : Launch) {D : va_G} {tys : List (ClassId × FieldType)} {ad : Nat → Nat} {n : Nat} {E : Nat → va_E} {cI : ClassId} {t0 b nn : Nat} {c0 tt : Nat → Nat} (hI : tys[t0]? = some (cI, .int)) (hbn : b + 2 < n) (hw : isW cI ad E b nn c0 tt) {I J : Nat} (hi4 : I < 4) (hj4 : J < 4) : Met l yX1_cell wsX1_cell ({ frames := 1, cells := 0, slots := 0, locals := 21 } : Room) (va_Pc [.ref (ad (b)), .int (nI (I)), .int (nI (J))] (PB D tys n ad (E))) (k2_QcV (.int (nI (c0 (4 * I + J))))) 0 0 (fun _ => False) := by
  refine g_pure (cc := cX1_cell) (maxL := 3) (ret := (some .int)) (by decide) rfl (Nat.le_of_ble_eq_true rfl) ?_
  intro p e s m args below meth c hx hb hr hts hown hlocks hml hP hK ls hl
  show W p l e ({ frames := 1, cells := 0, slots := 0, locals := 21 } : Room) s m args below meth c s.heap [] 0 0 _ _
  have hl : lv_has ls 3 [(0, .ref (ad (b))), (1, .int (nI (I))), (2, .int (nI (J)))] := hl
  refine lv_aload_n hx hb dX1_cell_0 rfl (lv_at hl 0 rfl) ?_
  refine g_get (b) 2 (C := RX1) (T := TX1) (N := 4) (ci := 0) (ref := "CubeWorlds$World") hx hb hts (by decide +kernel) hown hK hP (by omega) hw.1 rfl (by decide) (by decide +kernel) rfl rfl dX1_cell_1 ?_
  refine lv_iload_n hx hb dX1_cell_4 rfl (lv_at hl 1 rfl) ?_
  refine lv_iload_n hx hb dX1_cell_5 rfl (lv_at hl 2 rfl) ?_
  refine g_callSN (As := [.int (nI (I)), .int (nI (J))]) (rest := [.ref (ad (b + 1))]) (k := 2) (c_X2_cellIndex l hI hbn hw hi4 hj4) ggX1_cell_X2_cellIndex rfl rfl rfl hK.2 (by decide +kernel) (by decide +kernel) (by decide +kernel) ⟨Nat.le_of_ble_eq_true rfl, Nat.le_of_ble_eq_true rfl⟩ hx hb hml hown hts hK hP  rfl hl.1 rfl (Nat.le_of_ble_eq_true rfl) (Nat.zero_le _) (Nat.zero_le _) dX1_cell_6 ?_
  refine g_iald (b + 1) (4 * I + J) (t0 := _) hx hb hK hP (by omega) hw.2.1 hI (by omega) (by decide) dX1_cell_9 ?_
  exact g_iret hx hb hr hlocks dX1_cell_10 rfl
set_option maxHeartbeats 4000000 in
set_option maxRecDepth 100000 in
theorem c_X1_times (l : Launch) {D : va_G} {tys : List (ClassId × FieldType)} {ad : Nat → Nat} {n : Nat} {E : Nat → va_E} {cI : ClassId} {t0 b nn : Nat} {c0 tt : Nat → Nat} (hI : tys[t0]? = some (cI, .int)) (hbn : b + 2 < n) (hw : isW cI ad E b nn c0 tt) {X Y : Nat} (ht : tOK nn c0 tt) (hnn : nn ≤ 4) (hX : X < 2 ^ nn) (hY : Y < 2 ^ nn) : Met l yX1_times wsX1_times ({ frames := 1, cells := 0, slots := 0, locals := 21 } : Room) (va_Pc [.ref (ad (b)), .int (nI (X)), .int (nI (Y))] (PB D tys n ad (E))) (k2_QcV (.int (nI (tm nn c0 X Y)))) 0 0 (fun _ => False) := by
  have p4 := pow4 hnn
  refine g_pure (cc := cX1_times) (maxL := 3) (ret := (some .int)) (by decide) rfl (Nat.le_of_ble_eq_true rfl) ?_
  intro p e s m args below meth c hx hb hr hts hown hlocks hml hP hK ls hl
  show W p l e ({ frames := 1, cells := 0, slots := 0, locals := 21 } : Room) s m args below meth c s.heap [] 0 0 _ _
  have hl : lv_has ls 3 [(0, .ref (ad (b))), (1, .int (nI (X))), (2, .int (nI (Y)))] := hl
  refine lv_aload_n hx hb dX1_times_0 rfl (lv_at hl 0 rfl) ?_
  refine g_get (b) 3 (C := RX1) (T := TX1) (N := 4) (ci := 0) (ref := "CubeWorlds$World") hx hb hts (by decide +kernel) hown hK hP (by omega) hw.1 rfl (by decide) (by decide +kernel) rfl rfl dX1_times_1 ?_
  refine lv_iload_n hx hb dX1_times_4 rfl (lv_at hl 1 rfl) ?_
  refine lv_iload_n hx hb dX1_times_5 rfl (lv_at hl 2 rfl) ?_
  refine g_callS (As := [.int (nI (X)), .int (nI (Y))]) (rest := [.ref (ad (b + 2))]) (c_X1_tableIndex l hI hbn hw (X := X) (Y := Y) (by omega) (by omega)) (va_cwS 2 hts gX1_times_X1_tableIndex rfl rfl rfl (by decide +kernel) ⟨Nat.le_of_ble_eq_true rfl, Nat.le_of_ble_eq_true rfl⟩) hx hb hml hown hts hK hP  rfl hl.1 rfl (Nat.le_of_ble_eq_true rfl) (Nat.zero_le _) (Nat.zero_le _) dX1_times_6 ?_
  refine g_iald (b + 2) (16 * X + Y) (t0 := _) hx hb hK hP (by omega) hw.2.2 hI (by omega) (by decide) dX1_times_9 ?_
  exact g_iret hx hb hr hlocks dX1_times_10 (by rw [ht X hX Y hY])
set_option maxHeartbeats 4000000 in
set_option maxRecDepth 100000 in
theorem c_X1_sumOfCells (l : Launch) {D : va_G} {tys : List (ClassId × FieldType)} {ad : Nat → Nat} {n : Nat} {E : Nat → va_E} {cI : ClassId} {t0 b nn : Nat} {c0 tt : Nat → Nat} (hI : tys[t0]? = some (cI, .int)) (hbn : b + 2 < n) (hw : isW cI ad E b nn c0 tt) {X Y : Nat} (hnn : nn ≤ 4) (hX : X < 16) (hY : Y < 16) : Met l yX1_sumOfCells wsX1_sumOfCells ({ frames := 2, cells := 0, slots := 0, locals := 43 } : Room) (va_Pc [.ref (ad (b)), .int (nI (X)), .int (nI (Y))] (PB D tys n ad (E))) (k2_QcV (.int (nI (tm nn c0 X Y)))) 0 0 (fun _ => False) := by
  refine g_pure (cc := cX1_sumOfCells) (maxL := 6) (ret := (some .int)) (by decide) rfl (Nat.le_of_ble_eq_true rfl) ?_
  intro p e s m args below meth c hx hb hr hts hown hlocks hml hP hK ls hl
  show W p l e ({ frames := 2, cells := 0, slots := 0, locals := 43 } : Room) s m args below meth c s.heap [] 0 0 _ _
  have hl : lv_has ls 6 [(0, .ref (ad (b))), (1, .int (nI (X))), (2, .int (nI (Y)))] := hl
  refine n_iconst 0 hx hb dX1_sumOfCells_0 ?_
  refine lv_istore_n (lv' := [(3, .int (nI (0))), (0, .ref (ad (b))), (1, .int (nI (X))), (2, .int (nI (Y)))]) hx hb dX1_sumOfCells_1 rfl hl (by decide) rfl (fun ls hl => ?_)
  refine n_iconst 0 hx hb dX1_sumOfCells_2 ?_
  refine lv_istore (lv' := [(4, .int (nI (0))), (3, .int (nI (0))), (0, .ref (ad (b))), (1, .int (nI (X))), (2, .int (nI (Y)))]) hx hb dX1_sumOfCells_3 hl (by decide) rfl (fun ls hl => ?_)
  have L_5 : ∀ (r : Nat) (i : Nat) (acc : Nat), (i ≤ nn) → (nn < i + r) → (acc = xs (tmi nn c0 X Y) i) → ∀ (ls : Array Slot), lv_has ls 6 [(0, .ref (ad (b))), (1, .int (nI (X))), (2, .int (nI (Y))), (3, .int (nI (acc))), (4, .int (nI (i)))] → W p l e ({ frames := 2, cells := 0, slots := 0, locals := 43 } : Room) s m args below meth c s.heap [] 0 0 (MQ below (k2_QcV (.int (nI (tm nn c0 X Y)))) args s 0 0 (fun _ => False)) (F0 m 5 ls []) := by
    intro r
    induction r with
    | zero => intro i acc hi hr ha; intros; exact absurd hr (by omega)
    | succ r ih =>
      intro i acc hi hr ha ls hl
      have ih_5 := ih
      refine lv_iload hx hb dX1_sumOfCells_5 (lv_at hl 4 rfl) ?_
      refine lv_aload_n hx hb dX1_sumOfCells_7 rfl (lv_at hl 0 rfl) ?_
      refine g_get (b) 0 (C := RX1) (T := TX1) (N := 4) (ci := 0) (ref := "CubeWorlds$World") hx hb hts (by decide +kernel) hown hK hP (by omega) hw.1 rfl (by decide) (by decide +kernel) rfl rfl dX1_sumOfCells_8 ?_
      refine n_ge (tgt := 64) hx hb dX1_sumOfCells_11 (by decide) (by omega) (by omega) (fun h_11 => ?_) (fun h_11 => ?_)
      · refine lv_iload_n hx hb dX1_sumOfCells_64 rfl (lv_at hl 3 rfl) ?_
        exact g_iret hx hb hr hlocks dX1_sumOfCells_65 (by rw [ha, show i = nn by omega]; rfl)
      · refine n_iconst 0 hx hb dX1_sumOfCells_14 ?_
        refine lv_istore (lv' := [(5, .int (nI (0))), (0, .ref (ad (b))), (1, .int (nI (X))), (2, .int (nI (Y))), (3, .int (nI (acc))), (4, .int (nI (i)))]) hx hb dX1_sumOfCells_15 hl (by decide) rfl (fun ls hl => ?_)
        have L_17 : ∀ (r : Nat) (j : Nat) (acc2 : Nat), (j ≤ nn) → (nn < j + r) → (acc2 = xs (tmi nn c0 X Y) i ^^^ xs (fun j => if X.testBit i && Y.testBit j then c0 (4 * i + j) else 0) j) → ∀ (ls : Array Slot), lv_has ls 6 [(0, .ref (ad (b))), (1, .int (nI (X))), (2, .int (nI (Y))), (3, .int (nI (acc2))), (4, .int (nI (i))), (5, .int (nI (j)))] → W p l e ({ frames := 2, cells := 0, slots := 0, locals := 43 } : Room) s m args below meth c s.heap [] 0 0 (MQ below (k2_QcV (.int (nI (tm nn c0 X Y)))) args s 0 0 (fun _ => False)) (F0 m 17 ls []) := by
          intro r
          induction r with
          | zero => intro j acc2 hj hr2 ha2; intros; exact absurd hr2 (by omega)
          | succ r ih =>
            intro j acc2 hj hr2 ha2 ls hl
            have ih_17 := ih
            refine lv_iload hx hb dX1_sumOfCells_17 (lv_at hl 5 rfl) ?_
            refine lv_aload_n hx hb dX1_sumOfCells_19 rfl (lv_at hl 0 rfl) ?_
            refine g_get (b) 0 (C := RX1) (T := TX1) (N := 4) (ci := 0) (ref := "CubeWorlds$World") hx hb hts (by decide +kernel) hown hK hP (by omega) hw.1 rfl (by decide) (by decide +kernel) rfl rfl dX1_sumOfCells_20 ?_
            refine n_ge (tgt := 58) hx hb dX1_sumOfCells_23 (by decide) (by omega) (by omega) (fun h_23 => ?_) (fun h_23 => ?_)
            · refine n_iinc 4 1 (lv' := [(4, .int (nI (i + 1))), (0, .ref (ad (b))), (1, .int (nI (X))), (2, .int (nI (Y))), (3, .int (nI (acc2))), (5, .int (nI (j)))]) hx hb dX1_sumOfCells_58 hl rfl (by decide) rfl (fun ls hl => ?_)
              refine n_goto 5 hx hb dX1_sumOfCells_61 (by decide) ?_
              exact ih_5 (i + 1) (acc2) (by omega) (by omega) (by rw [ha2, xs_s, show j = nn by omega]; rfl) _ (lv_sub hl [1, 2, 3, 4, 0] rfl)
            · refine lv_iload_n hx hb dX1_sumOfCells_26 rfl (lv_at hl 1 rfl) ?_
              refine lv_iload hx hb dX1_sumOfCells_27 (lv_at hl 4 rfl) ?_
              refine n_ishr hx hb dX1_sumOfCells_29 (by omega) (by omega) ?_
              refine lv_iload_n hx hb dX1_sumOfCells_30 rfl (lv_at hl 2 rfl) ?_
              refine lv_iload hx hb dX1_sumOfCells_31 (lv_at hl 5 rfl) ?_
              refine n_ishr hx hb dX1_sumOfCells_33 (by omega) (by omega) ?_
              refine n_iand hx hb dX1_sumOfCells_34 ?_
              refine n_iconst 1 hx hb dX1_sumOfCells_35 ?_
              refine n_iand hx hb dX1_sumOfCells_36 ?_
              refine n_iconst 1 hx hb dX1_sumOfCells_37 ?_
              refine n_cne (tgt := 52) hx hb dX1_sumOfCells_38 (by decide) (and1_lt _) (by decide) (fun h_38 => ?_) (fun h_38 => ?_)
              · refine n_iinc 5 1 (lv' := [(5, .int (nI (j + 1))), (0, .ref (ad (b))), (1, .int (nI (X))), (2, .int (nI (Y))), (3, .int (nI (acc2))), (4, .int (nI (i)))]) hx hb dX1_sumOfCells_52 hl rfl (by decide) rfl (fun ls hl => ?_)
                refine n_goto 17 hx hb dX1_sumOfCells_55 (by decide) ?_
                exact ih_17 (j + 1) (acc2) (by omega) (by omega) (by rw [ha2, xs_at (v := 0) (if_neg (fun z => h_38 ((bit1 X Y i j).mpr z))), Nat.xor_zero]) _ (lv_sub hl [1, 2, 3, 4, 5, 0] rfl)
              · refine lv_iload_n hx hb dX1_sumOfCells_41 rfl (lv_at hl 3 rfl) ?_
                refine lv_aload_n hx hb dX1_sumOfCells_42 rfl (lv_at hl 0 rfl) ?_
                refine lv_iload hx hb dX1_sumOfCells_43 (lv_at hl 4 rfl) ?_
                refine lv_iload hx hb dX1_sumOfCells_45 (lv_at hl 5 rfl) ?_
                refine g_callV (b) (C := RX1) (T := TX1) (N := 4) (ci := 0) (As := [.int (nI (i)), .int (nI (j))]) (rest := [.int (nI (acc2))]) (c_X1_cell l hI hbn hw (I := i) (J := j) (by omega) (by omega)) (cwV 2 hts gX1_sumOfCells_X1_cell rfl rfl rfl (by decide +kernel) ⟨Nat.le_of_ble_eq_true rfl, Nat.le_of_ble_eq_true rfl⟩) hx hb hml hown hts hK hP  (by omega) hw.1 rfl rfl hl.1 rfl (Nat.le_of_ble_eq_true rfl) (Nat.zero_le _) (Nat.zero_le _) dX1_sumOfCells_47 ?_
                refine n_ixor hx hb dX1_sumOfCells_50 ?_
                refine lv_istore_n (lv' := [(3, .int (nI (acc2 ^^^ (c0 (4 * i + j))))), (0, .ref (ad (b))), (1, .int (nI (X))), (2, .int (nI (Y))), (4, .int (nI (i))), (5, .int (nI (j)))]) hx hb dX1_sumOfCells_51 rfl hl (by decide) rfl (fun ls hl => ?_)
                refine n_iinc 5 1 (lv' := [(5, .int (nI (j + 1))), (3, .int (nI (acc2 ^^^ (c0 (4 * i + j))))), (0, .ref (ad (b))), (1, .int (nI (X))), (2, .int (nI (Y))), (4, .int (nI (i)))]) hx hb dX1_sumOfCells_52 hl rfl (by decide) rfl (fun ls hl => ?_)
                refine n_goto 17 hx hb dX1_sumOfCells_55 (by decide) ?_
                exact ih_17 (j + 1) (acc2 ^^^ (c0 (4 * i + j))) (by omega) (by omega) (by rw [ha2, xs_at (if_pos ((bit1 X Y i j).mp h_38)), Nat.xor_assoc]) _ (lv_sub hl [2, 3, 4, 1, 5, 0] rfl)
        exact L_17 (nn + 1) (0) (acc) (Nat.zero_le _) (by omega) (by rw [ha]; exact (Nat.xor_zero _).symm) _ (lv_sub hl [1, 2, 3, 4, 5, 0] rfl)
  exact L_5 (nn + 1) (0) (0) (Nat.zero_le _) (by omega) rfl _ (lv_sub hl [2, 3, 4, 1, 0] rfl)
