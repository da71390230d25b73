/-! planes: points and lines are numbers 0 .. N N + N -/
def plT (n : Nat) : Nat := 2 ^ n * 2 ^ n + 2 ^ n
def lsB (n : Nat) (c : Nat → Nat) (P Q : Nat) : Bool :=
  if Q = 2 ^ n * 2 ^ n + 2 ^ n then decide (2 ^ n * 2 ^ n ≤ P)
  else if 2 ^ n * 2 ^ n ≤ Q then (decide (P = 2 ^ n * 2 ^ n + 2 ^ n) || decide (P >>> n = Q - 2 ^ n * 2 ^ n))
  else if 2 ^ n * 2 ^ n ≤ P then decide (P = 2 ^ n * 2 ^ n + (Q >>> n))
  else decide (tm n c (Q >>> n) (P >>> n) ^^^ (Q &&& (2 ^ n - 1)) = P &&& (2 ^ n - 1))
/-- the line through a lesser and a greater point: its steepness when both are inside and apart -/
def ltM (n : Nat) (c : Nat → Nat) (L : Bool) (a b : Nat) : Option Nat :=
  if 2 ^ n * 2 ^ n ≤ b then some (b - 2 ^ n * 2 ^ n) else slv n c ((a >>> n) ^^^ (b >>> n)) ((a &&& (2 ^ n - 1)) ^^^ (b &&& (2 ^ n - 1))) L
def ltS (n : Nat) (c : Nat → Nat) (a b : Nat) : Option Nat :=
  if 2 ^ n * 2 ^ n ≤ a then some (2 ^ n * 2 ^ n + 2 ^ n)
  else if b = 2 ^ n * 2 ^ n + 2 ^ n ∨ b >>> n = a >>> n then some (2 ^ n * 2 ^ n + (a >>> n))
  else (ltM n c false a b).map fun m => (m <<< n) ||| (tm n c m (a >>> n) ^^^ (a &&& (2 ^ n - 1)))
def mtS (n : Nat) (c : Nat → Nat) (a b : Nat) : Option Nat :=
  if 2 ^ n * 2 ^ n ≤ a then some (2 ^ n * 2 ^ n + 2 ^ n)
  else if b = 2 ^ n * 2 ^ n + 2 ^ n ∨ b >>> n = a >>> n then some (2 ^ n * 2 ^ n + (a >>> n))
  else (ltM n c true a b).map fun x => (x <<< n) ||| (tm n c (a >>> n) x ^^^ (a &&& (2 ^ n - 1)))
def cbF (n : Nat) (c : Nat → Nat) (d : Nat) : Bool := decide (1 ≤ d) && (lpr n c d).isSome
def cbS (n : Nat) (c : Nat → Nat) : Nat := cnt (cbF n c) (2 ^ n) * (2 ^ n >>> 1) * (2 ^ n * 2 ^ n)
theorem hp_lt {n P : Nat} (h : P < 2 ^ n * 2 ^ n) : P >>> n < 2 ^ n := by
  rw [Nat.shiftRight_eq_div_pow]
  exact Nat.div_lt_of_lt_mul h
theorem lw_lt (n P : Nat) : P &&& (2 ^ n - 1) < 2 ^ n := by
  have h0 : 0 < 2 ^ n := Nat.pow_pos (by decide)
  have := @Nat.and_le_right P (2 ^ n - 1)
  omega
theorem sq4 {n : Nat} (h : 2 ^ n ≤ 16) : 2 ^ n * 2 ^ n ≤ 256 := Nat.mul_le_mul h h
theorem rB_l {L : Nat} {x : Int32} (hL : L < 2 ^ 31) : rB 0 L x = decide (¬ x < 0 ∧ ¬ nI L < x) := by
  refine decide_eq_decide.mpr ?_
  rw [i_le, i_le, i_lt, i_lt, nI_toInt' (by omega), nI_toInt' hL, i0]
  constructor
  · rintro ⟨h1, h2⟩; constructor <;> omega
  · rintro ⟨h1, h2⟩; constructor <;> omega
theorem uq_some {p : Nat → Bool} {n k : Nat} (h : uq p n = some k) : k < n ∧ p k = true := by
  unfold uq at h
  split at h
  · have := fl_some h
    exact ⟨by omega, this.2.2.1⟩
  · cases h
theorem slv_lt {n : Nat} {c : Nat → Nat} {x z k : Nat} {L : Bool} (h : slv n c x z L = some k) : k < 2 ^ n := (uq_some h).1

set_option maxHeartbeats 4000000 in
set_option maxRecDepth 100000 in
theorem c_X0_insideOf (l : Launch) {D : va_G} {tys : List (ClassId × FieldType)} {ad : Nat → Nat} {n : Nat} {E : Nat → va_E} {cI : ClassId} {t0 b nn : Nat} {c0 tt : Nat → Nat} (hI : tys[t0]? = some (cI, .int)) (hbn : b + 2 < n) (hw : isW cI ad E b nn c0 tt) : Met l yX0_insideOf wsX0_insideOf ({ frames := 1, cells := 0, slots := 0, locals := 20 } : Room) (va_Pc [.ref (ad (b))] (PB D tys n ad (E))) (k2_QcV (.int (nI (2 ^ nn * 2 ^ nn)))) 0 0 (fun _ => False) := by
  refine g_pure (cc := cX0_insideOf) (maxL := 1) (ret := (some .int)) (by decide) rfl (Nat.le_of_ble_eq_true rfl) ?_
  intro p e s m args below meth c hx hb hrt hts hown hlocks hml hP hK ls hl
  show W p l e ({ frames := 1, cells := 0, slots := 0, locals := 20 } : Room) s m args below meth c s.heap [] 0 0 _ _
  have hl : lv_has ls 1 [(0, .ref (ad (b)))] := hl
  refine lv_aload_n hx hb dX0_insideOf_0 rfl (lv_at hl 0 rfl) ?_
  refine g_callV (b) (C := RX1) (T := TX1) (N := 4) (ci := 0) (As := []) (rest := []) (c_X1_size l hI hbn hw) (cwV 0 hts gX0_insideOf_X1_size rfl rfl rfl (by decide +kernel) ⟨Nat.le_of_ble_eq_true rfl, Nat.le_of_ble_eq_true rfl⟩) hx hb hml hown hts hK hP  (by omega) hw.1 rfl rfl hl.1 rfl (Nat.le_of_ble_eq_true rfl) (Nat.zero_le _) (Nat.zero_le _) dX0_insideOf_1 ?_
  refine lv_aload_n hx hb dX0_insideOf_4 rfl (lv_at hl 0 rfl) ?_
  refine g_callV (b) (C := RX1) (T := TX1) (N := 4) (ci := 0) (As := []) (rest := [.int (nI (2 ^ nn))]) (c_X1_size l hI hbn hw) (cwV 0 hts gX0_insideOf_X1_size rfl rfl rfl (by decide +kernel) ⟨Nat.le_of_ble_eq_true rfl, Nat.le_of_ble_eq_true rfl⟩) hx hb hml hown hts hK hP  (by omega) hw.1 rfl rfl hl.1 rfl (Nat.le_of_ble_eq_true rfl) (Nat.zero_le _) (Nat.zero_le _) dX0_insideOf_5 ?_
  refine n_imul hx hb dX0_insideOf_8 ?_
  exact g_iret hx hb hrt hlocks dX0_insideOf_9 rfl
set_option maxHeartbeats 4000000 in
set_option maxRecDepth 100000 in
theorem c_X0_lastOf (l : Launch) {D : va_G} {tys : List (ClassId × FieldType)} {ad : Nat → Nat} {n : Nat} {E : Nat → va_E} {cI : ClassId} {t0 b nn : Nat} {c0 tt : Nat → Nat} (hI : tys[t0]? = some (cI, .int)) (hbn : b + 2 < n) (hw : isW cI ad E b nn c0 tt) : Met l yX0_lastOf wsX0_lastOf ({ frames := 2, cells := 0, slots := 0, locals := 40 } : Room) (va_Pc [.ref (ad (b))] (PB D tys n ad (E))) (k2_QcV (.int (nI (2 ^ nn * 2 ^ nn + 2 ^ nn)))) 0 0 (fun _ => False) := by
  refine g_pure (cc := cX0_lastOf) (maxL := 1) (ret := (some .int)) (by decide) rfl (Nat.le_of_ble_eq_true rfl) ?_
  intro p e s m args below meth c hx hb hrt hts hown hlocks hml hP hK ls hl
  show W p l e ({ frames := 2, cells := 0, slots := 0, locals := 40 } : Room) s m args below meth c s.heap [] 0 0 _ _
  have hl : lv_has ls 1 [(0, .ref (ad (b)))] := hl
  refine lv_aload_n hx hb dX0_lastOf_0 rfl (lv_at hl 0 rfl) ?_
  refine g_callS (As := [.ref (ad (b))]) (rest := []) (c_X0_insideOf l hI hbn hw) (va_cwS 1 hts gX0_lastOf_X0_insideOf rfl rfl rfl (by decide +kernel) ⟨Nat.le_of_ble_eq_true rfl, Nat.le_of_ble_eq_true rfl⟩) hx hb hml hown hts hK hP  rfl hl.1 rfl (Nat.le_of_ble_eq_true rfl) (Nat.zero_le _) (Nat.zero_le _) dX0_lastOf_1 ?_
  refine lv_aload_n hx hb dX0_lastOf_4 rfl (lv_at hl 0 rfl) ?_
  refine g_callV (b) (C := RX1) (T := TX1) (N := 4) (ci := 0) (As := []) (rest := [.int (nI (2 ^ nn * 2 ^ nn))]) (c_X1_size l hI hbn hw) (cwV 0 hts gX0_lastOf_X1_size rfl rfl rfl (by decide +kernel) ⟨Nat.le_of_ble_eq_true rfl, Nat.le_of_ble_eq_true rfl⟩) hx hb hml hown hts hK hP  (by omega) hw.1 rfl rfl hl.1 rfl (Nat.le_of_ble_eq_true rfl) (Nat.zero_le _) (Nat.zero_le _) dX0_lastOf_5 ?_
  refine n_iadd hx hb dX0_lastOf_8 ?_
  exact g_iret hx hb hrt hlocks dX0_lastOf_9 rfl
set_option maxHeartbeats 4000000 in
set_option maxRecDepth 100000 in
theorem c_X0_has (l : Launch) {D : va_G} {tys : List (ClassId × FieldType)} {ad : Nat → Nat} {n : Nat} {E : Nat → va_E} {cI : ClassId} {t0 b nn : Nat} {c0 tt : Nat → Nat} (hI : tys[t0]? = some (cI, .int)) (hbn : b + 2 < n) (hw : isW cI ad E b nn c0 tt) {x : Int32} (hnn : nn ≤ 4) : Met l yX0_has wsX0_has ({ frames := 3, cells := 0, slots := 0, locals := 60 } : Room) (va_Pc [.ref (ad (b)), .int (x)] (PB D tys n ad (E))) (k2_QcV (.int (bI (rB 0 (2 ^ nn * 2 ^ nn + 2 ^ nn) x)))) 0 0 (fun _ => False) := by
  have p4 := pow4 hnn
  have p0 : 0 < 2 ^ nn := Nat.pow_pos (by decide)
  have p16 := sq4 p4
  refine g_pure (cc := cX0_has) (maxL := 2) (ret := (some .boolean)) (by decide) rfl (Nat.le_of_ble_eq_true rfl) ?_
  intro p e s m args below meth c hx hb hrt hts hown hlocks hml hP hK ls hl
  show W p l e ({ frames := 3, cells := 0, slots := 0, locals := 60 } : Room) s m args below meth c s.heap [] 0 0 _ _
  have hl : lv_has ls 2 [(0, .ref (ad (b))), (1, .int (x))] := hl
  refine lv_iload_n hx hb dX0_has_0 rfl (lv_at hl 1 rfl) ?_
  refine lv_if_lt (tgt := 16) hx hb dX0_has_1 (by decide) (fun h_1 => ?_) (fun h_1 => ?_)
  · refine n_iconst 0 hx hb dX0_has_16 ?_
    exact g_zret (false) hx hb hrt hlocks dX0_has_17 rfl (by rw [rB_l (by omega)]; exact congrArg (fun b => Value.int (bI b)) (decide_eq_false (fun z => z.1 h_1)))
  · refine lv_iload_n hx hb dX0_has_4 rfl (lv_at hl 1 rfl) ?_
    refine lv_aload_n hx hb dX0_has_5 rfl (lv_at hl 0 rfl) ?_
    refine g_callS (As := [.ref (ad (b))]) (rest := [.int (x)]) (c_X0_lastOf l hI hbn hw) (va_cwS 1 hts gX0_has_X0_lastOf rfl rfl rfl (by decide +kernel) ⟨Nat.le_of_ble_eq_true rfl, Nat.le_of_ble_eq_true rfl⟩) hx hb hml hown hts hK hP  rfl hl.1 rfl (Nat.le_of_ble_eq_true rfl) (Nat.zero_le _) (Nat.zero_le _) dX0_has_6 ?_
    refine lv_icmp_gt (tgt := 16) hx hb dX0_has_9 (by decide) (fun h_9 => ?_) (fun h_9 => ?_)
    · refine n_iconst 0 hx hb dX0_has_16 ?_
      exact g_zret (false) hx hb hrt hlocks dX0_has_17 rfl (by rw [rB_l (by omega)]; exact congrArg (fun b => Value.int (bI b)) (decide_eq_false (fun z => z.2 h_9)))
    · refine n_iconst 1 hx hb dX0_has_12 ?_
      refine n_goto 17 hx hb dX0_has_13 (by decide) ?_
      exact g_zret (true) hx hb hrt hlocks dX0_has_17 rfl (by rw [rB_l (by omega)]; exact congrArg (fun b => Value.int (bI b)) (decide_eq_true ⟨h_1, h_9⟩))
set_option maxHeartbeats 4000000 in
set_option maxRecDepth 100000 in
theorem c_X0_highPart (l : Launch) {D : va_G} {tys : List (ClassId × FieldType)} {ad : Nat → Nat} {n : Nat} {E : Nat → va_E} {cI : ClassId} {t0 b nn : Nat} {c0 tt : Nat → Nat} (hI : tys[t0]? = some (cI, .int)) (hbn : b + 2 < n) (hw : isW cI ad E b nn c0 tt) {P : Nat} (hnn : nn ≤ 4) (hP0 : P < 2 ^ 31) : Met l yX0_highPart wsX0_highPart ({ frames := 1, cells := 0, slots := 0, locals := 20 } : Room) (va_Pc [.ref (ad (b)), .int (nI (P))] (PB D tys n ad (E))) (k2_QcV (.int (nI (P >>> nn)))) 0 0 (fun _ => False) := by
  refine g_pure (cc := cX0_highPart) (maxL := 2) (ret := (some .int)) (by decide) rfl (Nat.le_of_ble_eq_true rfl) ?_
  intro p e s m args below meth c hx hb hrt hts hown hlocks hml hP hK ls hl
  show W p l e ({ frames := 1, cells := 0, slots := 0, locals := 20 } : Room) s m args below meth c s.heap [] 0 0 _ _
  have hl : lv_has ls 2 [(0, .ref (ad (b))), (1, .int (nI (P)))] := hl
  refine lv_iload_n hx hb dX0_highPart_0 rfl (lv_at hl 1 rfl) ?_
  refine lv_aload_n hx hb dX0_highPart_1 rfl (lv_at hl 0 rfl) ?_
  refine g_callV (b) (C := RX1) (T := TX1) (N := 4) (ci := 0) (As := []) (rest := [.int (nI (P))]) (c_X1_bits l hI hbn hw) (cwV 0 hts gX0_highPart_X1_bits rfl rfl rfl (by decide +kernel) ⟨Nat.le_of_ble_eq_true rfl, Nat.le_of_ble_eq_true rfl⟩) hx hb hml hown hts hK hP  (by omega) hw.1 rfl rfl hl.1 rfl (Nat.le_of_ble_eq_true rfl) (Nat.zero_le _) (Nat.zero_le _) dX0_highPart_2 ?_
  refine n_ishr hx hb dX0_highPart_5 hP0 (by omega) ?_
  exact g_iret hx hb hrt hlocks dX0_highPart_6 rfl
set_option maxHeartbeats 4000000 in
set_option maxRecDepth 100000 in
theorem c_X0_lowPart (l : Launch) {D : va_G} {tys : List (ClassId × FieldType)} {ad : Nat → Nat} {n : Nat} {E : Nat → va_E} {cI : ClassId} {t0 b nn : Nat} {c0 tt : Nat → Nat} (hI : tys[t0]? = some (cI, .int)) (hbn : b + 2 < n) (hw : isW cI ad E b nn c0 tt) {P : Nat} : Met l yX0_lowPart wsX0_lowPart ({ frames := 1, cells := 0, slots := 0, locals := 20 } : Room) (va_Pc [.ref (ad (b)), .int (nI (P))] (PB D tys n ad (E))) (k2_QcV (.int (nI (P &&& (2 ^ nn - 1))))) 0 0 (fun _ => False) := by
  have p0 : 0 < 2 ^ nn := Nat.pow_pos (by decide)
  refine g_pure (cc := cX0_lowPart) (maxL := 2) (ret := (some .int)) (by decide) rfl (Nat.le_of_ble_eq_true rfl) ?_
  intro p e s m args below meth c hx hb hrt hts hown hlocks hml hP hK ls hl
  show W p l e ({ frames := 1, cells := 0, slots := 0, locals := 20 } : Room) s m args below meth c s.heap [] 0 0 _ _
  have hl : lv_has ls 2 [(0, .ref (ad (b))), (1, .int (nI (P)))] := hl
  refine lv_iload_n hx hb dX0_lowPart_0 rfl (lv_at hl 1 rfl) ?_
  refine lv_aload_n hx hb dX0_lowPart_1 rfl (lv_at hl 0 rfl) ?_
  refine g_callV (b) (C := RX1) (T := TX1) (N := 4) (ci := 0) (As := []) (rest := [.int (nI (P))]) (c_X1_size l hI hbn hw) (cwV 0 hts gX0_lowPart_X1_size rfl rfl rfl (by decide +kernel) ⟨Nat.le_of_ble_eq_true rfl, Nat.le_of_ble_eq_true rfl⟩) hx hb hml hown hts hK hP  (by omega) hw.1 rfl rfl hl.1 rfl (Nat.le_of_ble_eq_true rfl) (Nat.zero_le _) (Nat.zero_le _) dX0_lowPart_2 ?_
  refine n_iconst 1 hx hb dX0_lowPart_5 ?_
  refine n_isub hx hb dX0_lowPart_6 (by omega) ?_
  refine n_iand hx hb dX0_lowPart_7 ?_
  exact g_iret hx hb hrt hlocks dX0_lowPart_8 rfl
set_option maxHeartbeats 4000000 in
set_option maxRecDepth 100000 in
theorem c_X0_lies (l : Launch) {D : va_G} {tys : List (ClassId × FieldType)} {ad : Nat → Nat} {n : Nat} {E : Nat → va_E} {cI : ClassId} {t0 b nn : Nat} {c0 tt : Nat → Nat} (hI : tys[t0]? = some (cI, .int)) (hbn : b + 2 < n) (hw : isW cI ad E b nn c0 tt) {A0 B0 : Nat} (ht : tOK nn c0 tt) (hnn : nn ≤ 4) (hcb : CB nn c0) (hA0 : A0 ≤ 2 ^ nn * 2 ^ nn + 2 ^ nn) (hB0 : B0 ≤ 2 ^ nn * 2 ^ nn + 2 ^ nn) : Met l yX0_lies wsX0_lies ({ frames := 3, cells := 0, slots := 0, locals := 60 } : Room) (va_Pc [.ref (ad (b)), .int (nI (A0)), .int (nI (B0))] (PB D tys n ad (E))) (k2_QcV (.int (bI (lsB nn c0 A0 B0)))) 0 0 (fun _ => False) := by
  have p4 := pow4 hnn
  have p0 : 0 < 2 ^ nn := Nat.pow_pos (by decide)
  have p16 := sq4 p4
  have r1 := shr_le A0 nn
  have r2 := shr_le B0 nn
  have w1 := lw_lt nn A0
  have w2 := lw_lt nn B0
  have w3 := tm_lt hcb (B0 >>> nn) (A0 >>> nn)
  have w4 := Nat.xor_lt_two_pow w3 w2
  refine g_pure (cc := cX0_lies) (maxL := 6) (ret := (some .boolean)) (by decide) rfl (Nat.le_of_ble_eq_true rfl) ?_
  intro p e s m args below meth c hx hb hrt hts hown hlocks hml hP hK ls hl
  show W p l e ({ frames := 3, cells := 0, slots := 0, locals := 60 } : Room) s m args below meth c s.heap [] 0 0 _ _
  have hl : lv_has ls 6 [(0, .ref (ad (b))), (1, .int (nI (A0))), (2, .int (nI (B0)))] := hl
  refine lv_aload_n hx hb dX0_lies_0 rfl (lv_at hl 0 rfl) ?_
  refine g_callS (As := [.ref (ad (b))]) (rest := []) (c_X0_insideOf l hI hbn hw) (va_cwS 1 hts gX0_lies_X0_insideOf rfl rfl rfl (by decide +kernel) ⟨Nat.le_of_ble_eq_true rfl, Nat.le_of_ble_eq_true rfl⟩) hx hb hml hown hts hK hP  rfl hl.1 rfl (Nat.le_of_ble_eq_true rfl) (Nat.zero_le _) (Nat.zero_le _) dX0_lies_1 ?_
  refine lv_istore_n (lv' := [(3, .int (nI (2 ^ nn * 2 ^ nn))), (0, .ref (ad (b))), (1, .int (nI (A0))), (2, .int (nI (B0)))]) hx hb dX0_lies_4 rfl hl (by decide) rfl (fun ls hl => ?_)
  refine lv_aload_n hx hb dX0_lies_5 rfl (lv_at hl 1 rfl) ?_
  refine g_callS (As := [.ref (ad (b))]) (rest := []) (c_X0_lastOf l hI hbn hw) (va_cwS 1 hts gX0_lies_X0_lastOf rfl rfl rfl (by decide +kernel) ⟨Nat.le_of_ble_eq_true rfl, Nat.le_of_ble_eq_true rfl⟩) hx hb hml hown hts hK hP  rfl hl.1 rfl (Nat.le_of_ble_eq_true rfl) (Nat.zero_le _) (Nat.zero_le _) dX0_lies_6 ?_
  refine lv_istore (lv' := [(4, .int (nI (2 ^ nn * 2 ^ nn + 2 ^ nn))), (3, .int (nI (2 ^ nn * 2 ^ nn))), (0, .ref (ad (b))), (1, .int (nI (A0))), (2, .int (nI (B0)))]) hx hb dX0_lies_9 hl (by decide) rfl (fun ls hl => ?_)
  refine lv_iload_n hx hb dX0_lies_11 rfl (lv_at hl 4 rfl) ?_
  refine lv_iload hx hb dX0_lies_12 (lv_at hl 0 rfl) ?_
  refine n_cne (tgt := 28) hx hb dX0_lies_14 (by decide) (by omega) (by omega) (fun h_14 => ?_) (fun h_14 => ?_)
  · refine lv_iload_n hx hb dX0_lies_28 rfl (lv_at hl 4 rfl) ?_
    refine lv_iload_n hx hb dX0_lies_29 rfl (lv_at hl 1 rfl) ?_
    refine n_lt (tgt := 56) hx hb dX0_lies_30 (by decide) (by omega) (by omega) (fun h_30 => ?_) (fun h_30 => ?_)
    · refine lv_aload_n hx hb dX0_lies_56 rfl (lv_at hl 2 rfl) ?_
      refine lv_iload_n hx hb dX0_lies_57 rfl (lv_at hl 4 rfl) ?_
      refine g_callS (As := [.ref (ad (b)), .int (nI (B0))]) (rest := []) (c_X0_highPart l hI hbn hw (P := B0) hnn (by omega)) (va_cwS 2 hts gX0_lies_X0_highPart rfl rfl rfl (by decide +kernel) ⟨Nat.le_of_ble_eq_true rfl, Nat.le_of_ble_eq_true rfl⟩) hx hb hml hown hts hK hP  rfl hl.1 rfl (Nat.le_of_ble_eq_true rfl) (Nat.zero_le _) (Nat.zero_le _) dX0_lies_58 ?_
      refine lv_istore (lv' := [(5, .int (nI (B0 >>> nn))), (4, .int (nI (2 ^ nn * 2 ^ nn + 2 ^ nn))), (3, .int (nI (2 ^ nn * 2 ^ nn))), (0, .ref (ad (b))), (1, .int (nI (A0))), (2, .int (nI (B0)))]) hx hb dX0_lies_61 hl (by decide) rfl (fun ls hl => ?_)
      refine lv_iload_n hx hb dX0_lies_63 rfl (lv_at hl 4 rfl) ?_
      refine lv_iload_n hx hb dX0_lies_64 rfl (lv_at hl 2 rfl) ?_
      refine n_lt (tgt := 82) hx hb dX0_lies_65 (by decide) (by omega) (by omega) (fun h_65 => ?_) (fun h_65 => ?_)
      · refine lv_aload_n hx hb dX0_lies_82 rfl (lv_at hl 3 rfl) ?_
        refine lv_iload hx hb dX0_lies_83 (lv_at hl 0 rfl) ?_
        have v1 := hp_lt h_30
        have v2 := hp_lt h_65
        refine lv_aload_n hx hb dX0_lies_85 rfl (lv_at hl 3 rfl) ?_
        refine lv_iload_n hx hb dX0_lies_86 rfl (lv_at hl 4 rfl) ?_
        refine g_callS (As := [.ref (ad (b)), .int (nI (A0))]) (rest := [.int (nI (B0 >>> nn)), .ref (ad (b))]) (c_X0_highPart l hI hbn hw (P := A0) hnn (by omega)) (va_cwS 2 hts gX0_lies_X0_highPart rfl rfl rfl (by decide +kernel) ⟨Nat.le_of_ble_eq_true rfl, Nat.le_of_ble_eq_true rfl⟩) hx hb hml hown hts hK hP  rfl hl.1 rfl (Nat.le_of_ble_eq_true rfl) (Nat.zero_le _) (Nat.zero_le _) dX0_lies_87 ?_
        refine g_callV (b) (C := RX1) (T := TX1) (N := 4) (ci := 0) (As := [.int (nI (B0 >>> nn)), .int (nI (A0 >>> nn))]) (rest := []) (c_X1_times l hI hbn hw (X := B0 >>> nn) (Y := A0 >>> nn) ht hnn (by omega) (by omega)) (cwV 2 hts gX0_lies_X1_times rfl rfl rfl (by decide +kernel) ⟨Nat.le_of_ble_eq_true rfl, Nat.le_of_ble_eq_true rfl⟩) hx hb hml hown hts hK hP  (by omega) hw.1 rfl rfl hl.1 rfl (Nat.le_of_ble_eq_true rfl) (Nat.zero_le _) (Nat.zero_le _) dX0_lies_90 ?_
        refine lv_aload_n hx hb dX0_lies_93 rfl (lv_at hl 3 rfl) ?_
        refine lv_iload_n hx hb dX0_lies_94 rfl (lv_at hl 5 rfl) ?_
        refine g_callS (As := [.ref (ad (b)), .int (nI (B0))]) (rest := [.int (nI (tm nn c0 (B0 >>> nn) (A0 >>> nn)))]) (c_X0_lowPart l hI hbn hw (P := B0)) (va_cwS 2 hts gX0_lies_X0_lowPart rfl rfl rfl (by decide +kernel) ⟨Nat.le_of_ble_eq_true rfl, Nat.le_of_ble_eq_true rfl⟩) hx hb hml hown hts hK hP  rfl hl.1 rfl (Nat.le_of_ble_eq_true rfl) (Nat.zero_le _) (Nat.zero_le _) dX0_lies_95 ?_
        refine n_ixor hx hb dX0_lies_98 ?_
        refine lv_aload_n hx hb dX0_lies_99 rfl (lv_at hl 3 rfl) ?_
        refine lv_iload_n hx hb dX0_lies_100 rfl (lv_at hl 4 rfl) ?_
        refine g_callS (As := [.ref (ad (b)), .int (nI (A0))]) (rest := [.int (nI ((tm nn c0 (B0 >>> nn) (A0 >>> nn)) ^^^ (B0 &&& (2 ^ nn - 1))))]) (c_X0_lowPart l hI hbn hw (P := A0)) (va_cwS 2 hts gX0_lies_X0_lowPart rfl rfl rfl (by decide +kernel) ⟨Nat.le_of_ble_eq_true rfl, Nat.le_of_ble_eq_true rfl⟩) hx hb hml hown hts hK hP  rfl hl.1 rfl (Nat.le_of_ble_eq_true rfl) (Nat.zero_le _) (Nat.zero_le _) dX0_lies_101 ?_
        refine n_cne (tgt := 111) hx hb dX0_lies_104 (by decide) (by omega) (by omega) (fun h_104 => ?_) (fun h_104 => ?_)
        · refine n_iconst 0 hx hb dX0_lies_111 ?_
          exact g_zret (false) hx hb hrt hlocks dX0_lies_112 rfl (by rw [show lsB nn c0 A0 B0 = false from by unfold lsB; rw [if_neg h_14, if_neg (Nat.not_le.mpr h_30), if_neg (Nat.not_le.mpr h_65), decide_eq_false h_104]])
        · refine n_iconst 1 hx hb dX0_lies_107 ?_
          refine n_goto 112 hx hb dX0_lies_108 (by decide) ?_
          exact g_zret (true) hx hb hrt hlocks dX0_lies_112 rfl (by rw [show lsB nn c0 A0 B0 = true from by unfold lsB; rw [if_neg h_14, if_neg (Nat.not_le.mpr h_30), if_neg (Nat.not_le.mpr h_65), decide_eq_true h_104]])
      · refine lv_iload_n hx hb dX0_lies_68 rfl (lv_at hl 4 rfl) ?_
        refine lv_iload_n hx hb dX0_lies_69 rfl (lv_at hl 2 rfl) ?_
        refine lv_iload hx hb dX0_lies_70 (lv_at hl 0 rfl) ?_
        refine n_iadd hx hb dX0_lies_72 ?_
        refine n_cne (tgt := 80) hx hb dX0_lies_73 (by decide) (by omega) (by omega) (fun h_73 => ?_) (fun h_73 => ?_)
        · refine n_iconst 0 hx hb dX0_lies_80 ?_
          exact g_zret (false) hx hb hrt hlocks dX0_lies_81 rfl (by rw [show lsB nn c0 A0 B0 = false from by unfold lsB; rw [if_neg h_14, if_neg (Nat.not_le.mpr h_30), if_pos h_65, decide_eq_false h_73]])
        · refine n_iconst 1 hx hb dX0_lies_76 ?_
          refine n_goto 81 hx hb dX0_lies_77 (by decide) ?_
          exact g_zret (true) hx hb hrt hlocks dX0_lies_81 rfl (by rw [show lsB nn c0 A0 B0 = true from by unfold lsB; rw [if_neg h_14, if_neg (Nat.not_le.mpr h_30), if_pos h_65, decide_eq_true h_73]])
    · refine lv_iload_n hx hb dX0_lies_33 rfl (lv_at hl 3 rfl) ?_
      refine lv_iload hx hb dX0_lies_34 (lv_at hl 0 rfl) ?_
      refine n_ceq (tgt := 50) hx hb dX0_lies_36 (by decide) (by omega) (by omega) (fun h_36 => ?_) (fun h_36 => ?_)
      · refine n_iconst 1 hx hb dX0_lies_50 ?_
        refine n_goto 55 hx hb dX0_lies_51 (by decide) ?_
        exact g_zret (true) hx hb hrt hlocks dX0_lies_55 rfl (by rw [show lsB nn c0 A0 B0 = true from by unfold lsB; rw [if_neg h_14, if_pos h_30, decide_eq_true h_36, Bool.true_or]])
      · refine lv_aload_n hx hb dX0_lies_39 rfl (lv_at hl 2 rfl) ?_
        refine lv_iload_n hx hb dX0_lies_40 rfl (lv_at hl 3 rfl) ?_
        refine g_callS (As := [.ref (ad (b)), .int (nI (A0))]) (rest := []) (c_X0_highPart l hI hbn hw (P := A0) hnn (by omega)) (va_cwS 2 hts gX0_lies_X0_highPart rfl rfl rfl (by decide +kernel) ⟨Nat.le_of_ble_eq_true rfl, Nat.le_of_ble_eq_true rfl⟩) hx hb hml hown hts hK hP  rfl hl.1 rfl (Nat.le_of_ble_eq_true rfl) (Nat.zero_le _) (Nat.zero_le _) dX0_lies_41 ?_
        refine lv_iload_n hx hb dX0_lies_44 rfl (lv_at hl 4 rfl) ?_
        refine lv_iload_n hx hb dX0_lies_45 rfl (lv_at hl 1 rfl) ?_
        refine n_isub hx hb dX0_lies_46 (by omega) ?_
        refine n_cne (tgt := 54) hx hb dX0_lies_47 (by decide) (by omega) (by omega) (fun h_47 => ?_) (fun h_47 => ?_)
        · refine n_iconst 0 hx hb dX0_lies_54 ?_
          exact g_zret (false) hx hb hrt hlocks dX0_lies_55 rfl (by rw [show lsB nn c0 A0 B0 = false from by unfold lsB; rw [if_neg h_14, if_pos h_30, decide_eq_false h_36, Bool.false_or, decide_eq_false h_47]])
        · refine n_iconst 1 hx hb dX0_lies_50 ?_
          refine n_goto 55 hx hb dX0_lies_51 (by decide) ?_
          exact g_zret (true) hx hb hrt hlocks dX0_lies_55 rfl (by rw [show lsB nn c0 A0 B0 = true from by unfold lsB; rw [if_neg h_14, if_pos h_30, decide_eq_false h_36, Bool.false_or, decide_eq_true h_47]])
  · refine lv_iload_n hx hb dX0_lies_17 rfl (lv_at hl 3 rfl) ?_
    refine lv_iload_n hx hb dX0_lies_18 rfl (lv_at hl 1 rfl) ?_
    refine n_lt (tgt := 26) hx hb dX0_lies_19 (by decide) (by omega) (by omega) (fun h_19 => ?_) (fun h_19 => ?_)
    · refine n_iconst 0 hx hb dX0_lies_26 ?_
      exact g_zret (false) hx hb hrt hlocks dX0_lies_27 rfl (by rw [show lsB nn c0 A0 B0 = false from by unfold lsB; rw [if_pos h_14, decide_eq_false (Nat.not_le.mpr h_19)]])
    · refine n_iconst 1 hx hb dX0_lies_22 ?_
      refine n_goto 27 hx hb dX0_lies_23 (by decide) ?_
      exact g_zret (true) hx hb hrt hlocks dX0_lies_27 rfl (by rw [show lsB nn c0 A0 B0 = true from by unfold lsB; rw [if_pos h_14, decide_eq_true h_19]])
set_option maxHeartbeats 4000000 in
set_option maxRecDepth 100000 in
theorem c_X0_lineThrough (l : Launch) {D : va_G} {tys : List (ClassId × FieldType)} {ad : Nat → Nat} {n : Nat} {E : Nat → va_E} {cI : ClassId} {t0 b nn : Nat} {c0 tt : Nat → Nat} (hI : tys[t0]? = some (cI, .int)) (hbn : b + 2 < n) (hw : isW cI ad E b nn c0 tt) {A0 B0 : Nat} (ht : tOK nn c0 tt) (hnn : nn ≤ 4) (hcb : CB nn c0) (hA0 : A0 ≤ 2 ^ nn * 2 ^ nn + 2 ^ nn) (hB0 : B0 ≤ 2 ^ nn * 2 ^ nn + 2 ^ nn) : Met l yX0_lineThrough wsX0_lineThrough ({ frames := 3, cells := 0, slots := 0, locals := 69 } : Room) (va_Pc [.ref (ad (b)), .int (nI (A0)), .int (nI (B0))] (PB D tys n ad (E))) (k2_QcV (.int (oI (ltS nn c0 A0 B0)))) 0 0 (fun _ => False) := by
  have p4 := pow4 hnn
  have p0 : 0 < 2 ^ nn := Nat.pow_pos (by decide)
  have p16 := sq4 p4
  have r1 := shr_le A0 nn
  have r2 := shr_le B0 nn
  have w1 := lw_lt nn A0
  have w2 := lw_lt nn B0
  refine g_pure (cc := cX0_lineThrough) (maxL := 8) (ret := (some .int)) (by decide) rfl (Nat.le_of_ble_eq_true rfl) ?_
  intro p e s m args below meth c hx hb hrt hts hown hlocks hml hP hK ls hl
  show W p l e ({ frames := 3, cells := 0, slots := 0, locals := 69 } : Room) s m args below meth c s.heap [] 0 0 _ _
  have hl : lv_has ls 8 [(0, .ref (ad (b))), (1, .int (nI (A0))), (2, .int (nI (B0)))] := hl
  refine lv_aload_n hx hb dX0_lineThrough_0 rfl (lv_at hl 0 rfl) ?_
  refine g_callS (As := [.ref (ad (b))]) (rest := []) (c_X0_insideOf l hI hbn hw) (va_cwS 1 hts gX0_lineThrough_X0_insideOf rfl rfl rfl (by decide +kernel) ⟨Nat.le_of_ble_eq_true rfl, Nat.le_of_ble_eq_true rfl⟩) hx hb hml hown hts hK hP  rfl hl.1 rfl (Nat.le_of_ble_eq_true rfl) (Nat.zero_le _) (Nat.zero_le _) dX0_lineThrough_1 ?_
  refine lv_istore_n (lv' := [(3, .int (nI (2 ^ nn * 2 ^ nn))), (0, .ref (ad (b))), (1, .int (nI (A0))), (2, .int (nI (B0)))]) hx hb dX0_lineThrough_4 rfl hl (by decide) rfl (fun ls hl => ?_)
  refine lv_aload_n hx hb dX0_lineThrough_5 rfl (lv_at hl 1 rfl) ?_
  refine g_callS (As := [.ref (ad (b))]) (rest := []) (c_X0_lastOf l hI hbn hw) (va_cwS 1 hts gX0_lineThrough_X0_lastOf rfl rfl rfl (by decide +kernel) ⟨Nat.le_of_ble_eq_true rfl, Nat.le_of_ble_eq_true rfl⟩) hx hb hml hown hts hK hP  rfl hl.1 rfl (Nat.le_of_ble_eq_true rfl) (Nat.zero_le _) (Nat.zero_le _) dX0_lineThrough_6 ?_
  refine lv_istore (lv' := [(4, .int (nI (2 ^ nn * 2 ^ nn + 2 ^ nn))), (3, .int (nI (2 ^ nn * 2 ^ nn))), (0, .ref (ad (b))), (1, .int (nI (A0))), (2, .int (nI (B0)))]) hx hb dX0_lineThrough_9 hl (by decide) rfl (fun ls hl => ?_)
  refine lv_iload_n hx hb dX0_lineThrough_11 rfl (lv_at hl 3 rfl) ?_
  refine lv_iload_n hx hb dX0_lineThrough_12 rfl (lv_at hl 1 rfl) ?_
  refine n_lt (tgt := 19) hx hb dX0_lineThrough_13 (by decide) (by omega) (by omega) (fun h_13 => ?_) (fun h_13 => ?_)
  · have v1 := hp_lt h_13
    refine lv_aload_n hx hb dX0_lineThrough_19 rfl (lv_at hl 2 rfl) ?_
    refine lv_iload_n hx hb dX0_lineThrough_20 rfl (lv_at hl 3 rfl) ?_
    refine g_callS (As := [.ref (ad (b)), .int (nI (A0))]) (rest := []) (c_X0_highPart l hI hbn hw (P := A0) hnn (by omega)) (va_cwS 2 hts gX0_lineThrough_X0_highPart rfl rfl rfl (by decide +kernel) ⟨Nat.le_of_ble_eq_true rfl, Nat.le_of_ble_eq_true rfl⟩) hx hb hml hown hts hK hP  rfl hl.1 rfl (Nat.le_of_ble_eq_true rfl) (Nat.zero_le _) (Nat.zero_le _) dX0_lineThrough_21 ?_
    refine lv_istore (lv' := [(5, .int (nI (A0 >>> nn))), (4, .int (nI (2 ^ nn * 2 ^ nn + 2 ^ nn))), (3, .int (nI (2 ^ nn * 2 ^ nn))), (0, .ref (ad (b))), (1, .int (nI (A0))), (2, .int (nI (B0)))]) hx hb dX0_lineThrough_24 hl (by decide) rfl (fun ls hl => ?_)
    refine lv_iload_n hx hb dX0_lineThrough_26 rfl (lv_at hl 5 rfl) ?_
    refine lv_iload hx hb dX0_lineThrough_27 (lv_at hl 1 rfl) ?_
    refine n_ceq (tgt := 42) hx hb dX0_lineThrough_29 (by decide) (by omega) (by omega) (fun h_29 => ?_) (fun h_29 => ?_)
    · refine lv_iload_n hx hb dX0_lineThrough_42 rfl (lv_at hl 2 rfl) ?_
      refine lv_iload hx hb dX0_lineThrough_43 (lv_at hl 0 rfl) ?_
      refine n_iadd hx hb dX0_lineThrough_45 ?_
      exact g_iret hx hb hrt hlocks dX0_lineThrough_46 (by rw [show ltS nn c0 A0 B0 = some _ from by unfold ltS; rw [if_neg (Nat.not_le.mpr h_13), if_pos (Or.inl h_29)]]; rfl)
    · refine lv_aload_n hx hb dX0_lineThrough_32 rfl (lv_at hl 3 rfl) ?_
      refine lv_iload_n hx hb dX0_lineThrough_33 rfl (lv_at hl 5 rfl) ?_
      refine g_callS (As := [.ref (ad (b)), .int (nI (B0))]) (rest := []) (c_X0_highPart l hI hbn hw (P := B0) hnn (by omega)) (va_cwS 2 hts gX0_lineThrough_X0_highPart rfl rfl rfl (by decide +kernel) ⟨Nat.le_of_ble_eq_true rfl, Nat.le_of_ble_eq_true rfl⟩) hx hb hml hown hts hK hP  rfl hl.1 rfl (Nat.le_of_ble_eq_true rfl) (Nat.zero_le _) (Nat.zero_le _) dX0_lineThrough_34 ?_
      refine lv_iload hx hb dX0_lineThrough_37 (lv_at hl 0 rfl) ?_
      refine n_cne (tgt := 47) hx hb dX0_lineThrough_39 (by decide) (by omega) (by omega) (fun h_39 => ?_) (fun h_39 => ?_)
      · refine lv_iload_n hx hb dX0_lineThrough_47 rfl (lv_at hl 5 rfl) ?_
        refine lv_iload_n hx hb dX0_lineThrough_48 rfl (lv_at hl 2 rfl) ?_
        refine lv_isub hx hb dX0_lineThrough_49 ?_
        refine lv_istore (lv' := [(6, .int (nI B0 - nI (2 ^ nn * 2 ^ nn))), (5, .int (nI (A0 >>> nn))), (4, .int (nI (2 ^ nn * 2 ^ nn + 2 ^ nn))), (3, .int (nI (2 ^ nn * 2 ^ nn))), (0, .ref (ad (b))), (1, .int (nI (A0))), (2, .int (nI (B0)))]) hx hb dX0_lineThrough_50 hl (by decide) rfl (fun ls hl => ?_)
        refine lv_iload_n hx hb dX0_lineThrough_52 rfl (lv_at hl 6 rfl) ?_
        refine lv_iload_n hx hb dX0_lineThrough_53 rfl (lv_at hl 3 rfl) ?_
        refine n_ge (tgt := 87) hx hb dX0_lineThrough_54 (by decide) (by omega) (by omega) (fun h_54 => ?_) (fun h_54 => ?_)
        · have hl : lv_has ls 8 [(6, .int (nI (B0 - 2 ^ nn * 2 ^ nn))), (5, .int (nI (A0 >>> nn))), (4, .int (nI (2 ^ nn * 2 ^ nn + 2 ^ nn))), (3, .int (nI (2 ^ nn * 2 ^ nn))), (0, .ref (ad (b))), (1, .int (nI (A0))), (2, .int (nI (B0)))] := by rw [← pk_sub h_54]; exact hl
          have e9 : ltM nn c0 false A0 B0 = some (B0 - 2 ^ nn * 2 ^ nn) := if_pos h_54
          refine lv_iload hx hb dX0_lineThrough_87 (lv_at hl 0 rfl) ?_
          refine n_eq (show nI (B0 - 2 ^ nn * 2 ^ nn) = oI (ltM nn c0 false A0 B0) from by rw [e9]; rfl) ?_
          refine lv_bipush (v := (-9)) hx hb dX0_lineThrough_89 (by decide) ?_
          refine n_cne_o (tgt := 99) hx hb dX0_lineThrough_91 (by decide) (fun k hk => by
          rw [e9] at hk
          first | (have := slv_lt hk; omega) | (have := Option.some.inj hk; omega)) (fun h_91 => ?_) (fun h_91 => ?_)
          · obtain ⟨m0, hm0⟩ : ∃ m0, ltM nn c0 false A0 B0 = some m0 := Option.ne_none_iff_exists'.mp h_91
            have hm1 : m0 < 2 ^ nn := by
              rw [e9] at hm0
              have := Option.some.inj hm0
              omega
            have hl : lv_has ls 8 [(6, .int (nI (m0))), (5, .int (nI (A0 >>> nn))), (4, .int (nI (2 ^ nn * 2 ^ nn + 2 ^ nn))), (3, .int (nI (2 ^ nn * 2 ^ nn))), (0, .ref (ad (b))), (1, .int (nI (A0))), (2, .int (nI (B0)))] := by rw [show m0 = (B0 - 2 ^ nn * 2 ^ nn) from Option.some.inj (hm0.symm.trans e9)]; exact hl
            refine lv_iload hx hb dX0_lineThrough_99 (lv_at hl 0 rfl) ?_
            refine lv_aload_n hx hb dX0_lineThrough_101 rfl (lv_at hl 4 rfl) ?_
            refine g_callV (b) (C := RX1) (T := TX1) (N := 4) (ci := 0) (As := []) (rest := [.int (nI (m0))]) (c_X1_bits l hI hbn hw) (cwV 0 hts gX0_lineThrough_X1_bits rfl rfl rfl (by decide +kernel) ⟨Nat.le_of_ble_eq_true rfl, Nat.le_of_ble_eq_true rfl⟩) hx hb hml hown hts hK hP  (by omega) hw.1 rfl rfl hl.1 rfl (Nat.le_of_ble_eq_true rfl) (Nat.zero_le _) (Nat.zero_le _) dX0_lineThrough_102 ?_
            refine n_ishl hx hb dX0_lineThrough_105 (by omega) ?_
            refine lv_aload_n hx hb dX0_lineThrough_106 rfl (lv_at hl 4 rfl) ?_
            refine lv_iload hx hb dX0_lineThrough_107 (lv_at hl 0 rfl) ?_
            refine lv_iload hx hb dX0_lineThrough_109 (lv_at hl 1 rfl) ?_
            refine g_callV (b) (C := RX1) (T := TX1) (N := 4) (ci := 0) (As := [.int (nI (m0)), .int (nI (A0 >>> nn))]) (rest := [.int (nI (m0 <<< nn))]) (c_X1_times l hI hbn hw (X := m0) (Y := A0 >>> nn) ht hnn (by omega) (by omega)) (cwV 2 hts gX0_lineThrough_X1_times rfl rfl rfl (by decide +kernel) ⟨Nat.le_of_ble_eq_true rfl, Nat.le_of_ble_eq_true rfl⟩) hx hb hml hown hts hK hP  (by omega) hw.1 rfl rfl hl.1 rfl (Nat.le_of_ble_eq_true rfl) (Nat.zero_le _) (Nat.zero_le _) dX0_lineThrough_111 ?_
            refine lv_aload_n hx hb dX0_lineThrough_114 rfl (lv_at hl 4 rfl) ?_
            refine lv_iload_n hx hb dX0_lineThrough_115 rfl (lv_at hl 5 rfl) ?_
            refine g_callS (As := [.ref (ad (b)), .int (nI (A0))]) (rest := [.int (nI (tm nn c0 m0 (A0 >>> nn))), .int (nI (m0 <<< nn))]) (c_X0_lowPart l hI hbn hw (P := A0)) (va_cwS 2 hts gX0_lineThrough_X0_lowPart rfl rfl rfl (by decide +kernel) ⟨Nat.le_of_ble_eq_true rfl, Nat.le_of_ble_eq_true rfl⟩) hx hb hml hown hts hK hP  rfl hl.1 rfl (Nat.le_of_ble_eq_true rfl) (Nat.zero_le _) (Nat.zero_le _) dX0_lineThrough_116 ?_
            refine n_ixor hx hb dX0_lineThrough_119 ?_
            refine n_ior hx hb dX0_lineThrough_120 ?_
            exact g_iret hx hb hrt hlocks dX0_lineThrough_121 (by rw [show ltS nn c0 A0 B0 = _ from by unfold ltS; rw [if_neg (Nat.not_le.mpr h_13), if_neg (fun z => z.elim h_29 h_39), hm0]]; rfl)
          · refine lv_bipush (v := (-9)) hx hb dX0_lineThrough_94 (by decide) ?_
            refine n_goto 121 hx hb dX0_lineThrough_96 (by decide) ?_
            exact g_iret hx hb hrt hlocks dX0_lineThrough_121 (by rw [show ltS nn c0 A0 B0 = none from by unfold ltS; rw [if_neg (Nat.not_le.mpr h_13), if_neg (fun z => z.elim h_29 h_39), h_91]; rfl]; rfl)
        · have e9 : ltM nn c0 false A0 B0 = slv nn c0 ((A0 >>> nn) ^^^ (B0 >>> nn)) ((A0 &&& (2 ^ nn - 1)) ^^^ (B0 &&& (2 ^ nn - 1))) false := if_neg (Nat.not_le.mpr h_54)
          have v2 := hp_lt h_54
          have v3 := Nat.xor_lt_two_pow v1 v2
          have w3 := Nat.xor_lt_two_pow w1 w2
          refine lv_aload_n hx hb dX0_lineThrough_57 rfl (lv_at hl 4 rfl) ?_
          refine lv_iload_n hx hb dX0_lineThrough_58 rfl (lv_at hl 5 rfl) ?_
          refine g_callS (As := [.ref (ad (b)), .int (nI (A0))]) (rest := []) (c_X0_lowPart l hI hbn hw (P := A0)) (va_cwS 2 hts gX0_lineThrough_X0_lowPart rfl rfl rfl (by decide +kernel) ⟨Nat.le_of_ble_eq_true rfl, Nat.le_of_ble_eq_true rfl⟩) hx hb hml hown hts hK hP  rfl hl.1 rfl (Nat.le_of_ble_eq_true rfl) (Nat.zero_le _) (Nat.zero_le _) dX0_lineThrough_59 ?_
          refine lv_aload_n hx hb dX0_lineThrough_62 rfl (lv_at hl 4 rfl) ?_
          refine lv_iload_n hx hb dX0_lineThrough_63 rfl (lv_at hl 6 rfl) ?_
          refine g_callS (As := [.ref (ad (b)), .int (nI (B0))]) (rest := [.int (nI (A0 &&& (2 ^ nn - 1)))]) (c_X0_lowPart l hI hbn hw (P := B0)) (va_cwS 2 hts gX0_lineThrough_X0_lowPart rfl rfl rfl (by decide +kernel) ⟨Nat.le_of_ble_eq_true rfl, Nat.le_of_ble_eq_true rfl⟩) hx hb hml hown hts hK hP  rfl hl.1 rfl (Nat.le_of_ble_eq_true rfl) (Nat.zero_le _) (Nat.zero_le _) dX0_lineThrough_64 ?_
          refine n_ixor hx hb dX0_lineThrough_67 ?_
          refine lv_istore (lv' := [(7, .int (nI ((A0 &&& (2 ^ nn - 1)) ^^^ (B0 &&& (2 ^ nn - 1))))), (6, .int (nI B0 - nI (2 ^ nn * 2 ^ nn))), (5, .int (nI (A0 >>> nn))), (4, .int (nI (2 ^ nn * 2 ^ nn + 2 ^ nn))), (3, .int (nI (2 ^ nn * 2 ^ nn))), (0, .ref (ad (b))), (1, .int (nI (A0))), (2, .int (nI (B0)))]) hx hb dX0_lineThrough_68 hl (by decide) rfl (fun ls hl => ?_)
          refine lv_aload_n hx hb dX0_lineThrough_70 rfl (lv_at hl 5 rfl) ?_
          refine lv_iload hx hb dX0_lineThrough_71 (lv_at hl 2 rfl) ?_
          refine lv_aload_n hx hb dX0_lineThrough_73 rfl (lv_at hl 5 rfl) ?_
          refine lv_iload_n hx hb dX0_lineThrough_74 rfl (lv_at hl 7 rfl) ?_
          refine g_callS (As := [.ref (ad (b)), .int (nI (B0))]) (rest := [.int (nI (A0 >>> nn)), .ref (ad (b))]) (c_X0_highPart l hI hbn hw (P := B0) hnn (by omega)) (va_cwS 2 hts gX0_lineThrough_X0_highPart rfl rfl rfl (by decide +kernel) ⟨Nat.le_of_ble_eq_true rfl, Nat.le_of_ble_eq_true rfl⟩) hx hb hml hown hts hK hP  rfl hl.1 rfl (Nat.le_of_ble_eq_true rfl) (Nat.zero_le _) (Nat.zero_le _) dX0_lineThrough_75 ?_
          refine n_ixor hx hb dX0_lineThrough_78 ?_
          refine lv_iload hx hb dX0_lineThrough_79 (lv_at hl 0 rfl) ?_
          refine n_iconst 0 hx hb dX0_lineThrough_81 ?_
          refine n_eq (show nI 0 = bI false from rfl) ?_
          refine g_callV (b) (C := RX1) (T := TX1) (N := 4) (ci := 0) (As := [.int (nI ((A0 >>> nn) ^^^ (B0 >>> nn))), .int (nI ((A0 &&& (2 ^ nn - 1)) ^^^ (B0 &&& (2 ^ nn - 1)))), .int (bI (false))]) (rest := []) (c_X1_solve l hI hbn hw (X := (A0 >>> nn) ^^^ (B0 >>> nn)) (Z := (A0 &&& (2 ^ nn - 1)) ^^^ (B0 &&& (2 ^ nn - 1))) (L := false) ht hnn hcb v3 w3) (cwV 3 hts gX0_lineThrough_X1_solve rfl rfl rfl (by decide +kernel) ⟨Nat.le_of_ble_eq_true rfl, Nat.le_of_ble_eq_true rfl⟩) hx hb hml hown hts hK hP  (by omega) hw.1 rfl rfl hl.1 rfl (Nat.le_of_ble_eq_true rfl) (Nat.zero_le _) (Nat.zero_le _) dX0_lineThrough_82 ?_
          refine lv_istore (lv' := [(6, .int (oI (slv nn c0 ((A0 >>> nn) ^^^ (B0 >>> nn)) ((A0 &&& (2 ^ nn - 1)) ^^^ (B0 &&& (2 ^ nn - 1))) false))), (7, .int (nI ((A0 &&& (2 ^ nn - 1)) ^^^ (B0 &&& (2 ^ nn - 1))))), (5, .int (nI (A0 >>> nn))), (4, .int (nI (2 ^ nn * 2 ^ nn + 2 ^ nn))), (3, .int (nI (2 ^ nn * 2 ^ nn))), (0, .ref (ad (b))), (1, .int (nI (A0))), (2, .int (nI (B0)))]) hx hb dX0_lineThrough_85 hl (by decide) rfl (fun ls hl => ?_)
          refine lv_iload hx hb dX0_lineThrough_87 (lv_at hl 0 rfl) ?_
          refine n_eq (show oI (slv nn c0 ((A0 >>> nn) ^^^ (B0 >>> nn)) ((A0 &&& (2 ^ nn - 1)) ^^^ (B0 &&& (2 ^ nn - 1))) false) = oI (ltM nn c0 false A0 B0) from by rw [e9]) ?_
          refine lv_bipush (v := (-9)) hx hb dX0_lineThrough_89 (by decide) ?_
          refine n_cne_o (tgt := 99) hx hb dX0_lineThrough_91 (by decide) (fun k hk => by
          rw [e9] at hk
          first | (have := slv_lt hk; omega) | (have := Option.some.inj hk; omega)) (fun h_91 => ?_) (fun h_91 => ?_)
          · obtain ⟨m0, hm0⟩ : ∃ m0, ltM nn c0 false A0 B0 = some m0 := Option.ne_none_iff_exists'.mp h_91
            have hm1 : m0 < 2 ^ nn := by
              rw [e9] at hm0
              exact slv_lt hm0
            have hl : lv_has ls 8 [(6, .int (nI (m0))), (7, .int (nI ((A0 &&& (2 ^ nn - 1)) ^^^ (B0 &&& (2 ^ nn - 1))))), (5, .int (nI (A0 >>> nn))), (4, .int (nI (2 ^ nn * 2 ^ nn + 2 ^ nn))), (3, .int (nI (2 ^ nn * 2 ^ nn))), (0, .ref (ad (b))), (1, .int (nI (A0))), (2, .int (nI (B0)))] := by rw [show nI m0 = oI (slv nn c0 ((A0 >>> nn) ^^^ (B0 >>> nn)) ((A0 &&& (2 ^ nn - 1)) ^^^ (B0 &&& (2 ^ nn - 1))) false) from by rw [← e9, hm0]; rfl]; exact hl
            refine lv_iload hx hb dX0_lineThrough_99 (lv_at hl 0 rfl) ?_
            refine lv_aload_n hx hb dX0_lineThrough_101 rfl (lv_at hl 5 rfl) ?_
            refine g_callV (b) (C := RX1) (T := TX1) (N := 4) (ci := 0) (As := []) (rest := [.int (nI (m0))]) (c_X1_bits l hI hbn hw) (cwV 0 hts gX0_lineThrough_X1_bits rfl rfl rfl (by decide +kernel) ⟨Nat.le_of_ble_eq_true rfl, Nat.le_of_ble_eq_true rfl⟩) hx hb hml hown hts hK hP  (by omega) hw.1 rfl rfl hl.1 rfl (Nat.le_of_ble_eq_true rfl) (Nat.zero_le _) (Nat.zero_le _) dX0_lineThrough_102 ?_
            refine n_ishl hx hb dX0_lineThrough_105 (by omega) ?_
            refine lv_aload_n hx hb dX0_lineThrough_106 rfl (lv_at hl 5 rfl) ?_
            refine lv_iload hx hb dX0_lineThrough_107 (lv_at hl 0 rfl) ?_
            refine lv_iload hx hb dX0_lineThrough_109 (lv_at hl 2 rfl) ?_
            refine g_callV (b) (C := RX1) (T := TX1) (N := 4) (ci := 0) (As := [.int (nI (m0)), .int (nI (A0 >>> nn))]) (rest := [.int (nI (m0 <<< nn))]) (c_X1_times l hI hbn hw (X := m0) (Y := A0 >>> nn) ht hnn (by omega) (by omega)) (cwV 2 hts gX0_lineThrough_X1_times rfl rfl rfl (by decide +kernel) ⟨Nat.le_of_ble_eq_true rfl, Nat.le_of_ble_eq_true rfl⟩) hx hb hml hown hts hK hP  (by omega) hw.1 rfl rfl hl.1 rfl (Nat.le_of_ble_eq_true rfl) (Nat.zero_le _) (Nat.zero_le _) dX0_lineThrough_111 ?_
            refine lv_aload_n hx hb dX0_lineThrough_114 rfl (lv_at hl 5 rfl) ?_
            refine lv_iload_n hx hb dX0_lineThrough_115 rfl (lv_at hl 6 rfl) ?_
            refine g_callS (As := [.ref (ad (b)), .int (nI (A0))]) (rest := [.int (nI (tm nn c0 m0 (A0 >>> nn))), .int (nI (m0 <<< nn))]) (c_X0_lowPart l hI hbn hw (P := A0)) (va_cwS 2 hts gX0_lineThrough_X0_lowPart rfl rfl rfl (by decide +kernel) ⟨Nat.le_of_ble_eq_true rfl, Nat.le_of_ble_eq_true rfl⟩) hx hb hml hown hts hK hP  rfl hl.1 rfl (Nat.le_of_ble_eq_true rfl) (Nat.zero_le _) (Nat.zero_le _) dX0_lineThrough_116 ?_
            refine n_ixor hx hb dX0_lineThrough_119 ?_
            refine n_ior hx hb dX0_lineThrough_120 ?_
            exact g_iret hx hb hrt hlocks dX0_lineThrough_121 (by rw [show ltS nn c0 A0 B0 = _ from by unfold ltS; rw [if_neg (Nat.not_le.mpr h_13), if_neg (fun z => z.elim h_29 h_39), hm0]]; rfl)
          · refine lv_bipush (v := (-9)) hx hb dX0_lineThrough_94 (by decide) ?_
            refine n_goto 121 hx hb dX0_lineThrough_96 (by decide) ?_
            exact g_iret hx hb hrt hlocks dX0_lineThrough_121 (by rw [show ltS nn c0 A0 B0 = none from by unfold ltS; rw [if_neg (Nat.not_le.mpr h_13), if_neg (fun z => z.elim h_29 h_39), h_91]; rfl]; rfl)
      · refine lv_iload_n hx hb dX0_lineThrough_42 rfl (lv_at hl 2 rfl) ?_
        refine lv_iload hx hb dX0_lineThrough_43 (lv_at hl 0 rfl) ?_
        refine n_iadd hx hb dX0_lineThrough_45 ?_
        exact g_iret hx hb hrt hlocks dX0_lineThrough_46 (by rw [show ltS nn c0 A0 B0 = some _ from by unfold ltS; rw [if_neg (Nat.not_le.mpr h_13), if_pos (Or.inr h_39)]]; rfl)
  · refine lv_iload hx hb dX0_lineThrough_16 (lv_at hl 0 rfl) ?_
    exact g_iret hx hb hrt hlocks dX0_lineThrough_18 (by rw [show ltS nn c0 A0 B0 = some _ from by unfold ltS; rw [if_pos h_13]]; rfl)
set_option maxHeartbeats 4000000 in
set_option maxRecDepth 100000 in
theorem c_X0_pointOfBoth (l : Launch) {D : va_G} {tys : List (ClassId × FieldType)} {ad : Nat → Nat} {n : Nat} {E : Nat → va_E} {cI : ClassId} {t0 b nn : Nat} {c0 tt : Nat → Nat} (hI : tys[t0]? = some (cI, .int)) (hbn : b + 2 < n) (hw : isW cI ad E b nn c0 tt) {A0 B0 : Nat} (ht : tOK nn c0 tt) (hnn : nn ≤ 4) (hcb : CB nn c0) (hA0 : A0 ≤ 2 ^ nn * 2 ^ nn + 2 ^ nn) (hB0 : B0 ≤ 2 ^ nn * 2 ^ nn + 2 ^ nn) : Met l yX0_pointOfBoth wsX0_pointOfBoth ({ frames := 3, cells := 0, slots := 0, locals := 69 } : Room) (va_Pc [.ref (ad (b)), .int (nI (A0)), .int (nI (B0))] (PB D tys n ad (E))) (k2_QcV (.int (oI (mtS nn c0 A0 B0)))) 0 0 (fun _ => False) := by
  have p4 := pow4 hnn
  have p0 : 0 < 2 ^ nn := Nat.pow_pos (by decide)
  have p16 := sq4 p4
  have r1 := shr_le A0 nn
  have r2 := shr_le B0 nn
  have w1 := lw_lt nn A0
  have w2 := lw_lt nn B0
  refine g_pure (cc := cX0_pointOfBoth) (maxL := 8) (ret := (some .int)) (by decide) rfl (Nat.le_of_ble_eq_true rfl) ?_
  intro p e s m args below meth c hx hb hrt hts hown hlocks hml hP hK ls hl
  show W p l e ({ frames := 3, cells := 0, slots := 0, locals := 69 } : Room) s m args below meth c s.heap [] 0 0 _ _
  have hl : lv_has ls 8 [(0, .ref (ad (b))), (1, .int (nI (A0))), (2, .int (nI (B0)))] := hl
  refine lv_aload_n hx hb dX0_pointOfBoth_0 rfl (lv_at hl 0 rfl) ?_
  refine g_callS (As := [.ref (ad (b))]) (rest := []) (c_X0_insideOf l hI hbn hw) (va_cwS 1 hts gX0_pointOfBoth_X0_insideOf rfl rfl rfl (by decide +kernel) ⟨Nat.le_of_ble_eq_true rfl, Nat.le_of_ble_eq_true rfl⟩) hx hb hml hown hts hK hP  rfl hl.1 rfl (Nat.le_of_ble_eq_true rfl) (Nat.zero_le _) (Nat.zero_le _) dX0_pointOfBoth_1 ?_
  refine lv_istore_n (lv' := [(3, .int (nI (2 ^ nn * 2 ^ nn))), (0, .ref (ad (b))), (1, .int (nI (A0))), (2, .int (nI (B0)))]) hx hb dX0_pointOfBoth_4 rfl hl (by decide) rfl (fun ls hl => ?_)
  refine lv_aload_n hx hb dX0_pointOfBoth_5 rfl (lv_at hl 1 rfl) ?_
  refine g_callS (As := [.ref (ad (b))]) (rest := []) (c_X0_lastOf l hI hbn hw) (va_cwS 1 hts gX0_pointOfBoth_X0_lastOf rfl rfl rfl (by decide +kernel) ⟨Nat.le_of_ble_eq_true rfl, Nat.le_of_ble_eq_true rfl⟩) hx hb hml hown hts hK hP  rfl hl.1 rfl (Nat.le_of_ble_eq_true rfl) (Nat.zero_le _) (Nat.zero_le _) dX0_pointOfBoth_6 ?_
  refine lv_istore (lv' := [(4, .int (nI (2 ^ nn * 2 ^ nn + 2 ^ nn))), (3, .int (nI (2 ^ nn * 2 ^ nn))), (0, .ref (ad (b))), (1, .int (nI (A0))), (2, .int (nI (B0)))]) hx hb dX0_pointOfBoth_9 hl (by decide) rfl (fun ls hl => ?_)
  refine lv_iload_n hx hb dX0_pointOfBoth_11 rfl (lv_at hl 3 rfl) ?_
  refine lv_iload_n hx hb dX0_pointOfBoth_12 rfl (lv_at hl 1 rfl) ?_
  refine n_lt (tgt := 19) hx hb dX0_pointOfBoth_13 (by decide) (by omega) (by omega) (fun h_13 => ?_) (fun h_13 => ?_)
  · have v1 := hp_lt h_13
    refine lv_aload_n hx hb dX0_pointOfBoth_19 rfl (lv_at hl 2 rfl) ?_
    refine lv_iload_n hx hb dX0_pointOfBoth_20 rfl (lv_at hl 3 rfl) ?_
    refine g_callS (As := [.ref (ad (b)), .int (nI (A0))]) (rest := []) (c_X0_highPart l hI hbn hw (P := A0) hnn (by omega)) (va_cwS 2 hts gX0_pointOfBoth_X0_highPart rfl rfl rfl (by decide +kernel) ⟨Nat.le_of_ble_eq_true rfl, Nat.le_of_ble_eq_true rfl⟩) hx hb hml hown hts hK hP  rfl hl.1 rfl (Nat.le_of_ble_eq_true rfl) (Nat.zero_le _) (Nat.zero_le _) dX0_pointOfBoth_21 ?_
    refine lv_istore (lv' := [(5, .int (nI (A0 >>> nn))), (4, .int (nI (2 ^ nn * 2 ^ nn + 2 ^ nn))), (3, .int (nI (2 ^ nn * 2 ^ nn))), (0, .ref (ad (b))), (1, .int (nI (A0))), (2, .int (nI (B0)))]) hx hb dX0_pointOfBoth_24 hl (by decide) rfl (fun ls hl => ?_)
    refine lv_iload_n hx hb dX0_pointOfBoth_26 rfl (lv_at hl 5 rfl) ?_
    refine lv_iload hx hb dX0_pointOfBoth_27 (lv_at hl 1 rfl) ?_
    refine n_ceq (tgt := 42) hx hb dX0_pointOfBoth_29 (by decide) (by omega) (by omega) (fun h_29 => ?_) (fun h_29 => ?_)
    · refine lv_iload_n hx hb dX0_pointOfBoth_42 rfl (lv_at hl 2 rfl) ?_
      refine lv_iload hx hb dX0_pointOfBoth_43 (lv_at hl 0 rfl) ?_
      refine n_iadd hx hb dX0_pointOfBoth_45 ?_
      exact g_iret hx hb hrt hlocks dX0_pointOfBoth_46 (by rw [show mtS nn c0 A0 B0 = some _ from by unfold mtS; rw [if_neg (Nat.not_le.mpr h_13), if_pos (Or.inl h_29)]]; rfl)
    · refine lv_aload_n hx hb dX0_pointOfBoth_32 rfl (lv_at hl 3 rfl) ?_
      refine lv_iload_n hx hb dX0_pointOfBoth_33 rfl (lv_at hl 5 rfl) ?_
      refine g_callS (As := [.ref (ad (b)), .int (nI (B0))]) (rest := []) (c_X0_highPart l hI hbn hw (P := B0) hnn (by omega)) (va_cwS 2 hts gX0_pointOfBoth_X0_highPart rfl rfl rfl (by decide +kernel) ⟨Nat.le_of_ble_eq_true rfl, Nat.le_of_ble_eq_true rfl⟩) hx hb hml hown hts hK hP  rfl hl.1 rfl (Nat.le_of_ble_eq_true rfl) (Nat.zero_le _) (Nat.zero_le _) dX0_pointOfBoth_34 ?_
      refine lv_iload hx hb dX0_pointOfBoth_37 (lv_at hl 0 rfl) ?_
      refine n_cne (tgt := 47) hx hb dX0_pointOfBoth_39 (by decide) (by omega) (by omega) (fun h_39 => ?_) (fun h_39 => ?_)
      · refine lv_iload_n hx hb dX0_pointOfBoth_47 rfl (lv_at hl 5 rfl) ?_
        refine lv_iload_n hx hb dX0_pointOfBoth_48 rfl (lv_at hl 2 rfl) ?_
        refine lv_isub hx hb dX0_pointOfBoth_49 ?_
        refine lv_istore (lv' := [(6, .int (nI B0 - nI (2 ^ nn * 2 ^ nn))), (5, .int (nI (A0 >>> nn))), (4, .int (nI (2 ^ nn * 2 ^ nn + 2 ^ nn))), (3, .int (nI (2 ^ nn * 2 ^ nn))), (0, .ref (ad (b))), (1, .int (nI (A0))), (2, .int (nI (B0)))]) hx hb dX0_pointOfBoth_50 hl (by decide) rfl (fun ls hl => ?_)
        refine lv_iload_n hx hb dX0_pointOfBoth_52 rfl (lv_at hl 6 rfl) ?_
        refine lv_iload_n hx hb dX0_pointOfBoth_53 rfl (lv_at hl 3 rfl) ?_
        refine n_ge (tgt := 87) hx hb dX0_pointOfBoth_54 (by decide) (by omega) (by omega) (fun h_54 => ?_) (fun h_54 => ?_)
        · have hl : lv_has ls 8 [(6, .int (nI (B0 - 2 ^ nn * 2 ^ nn))), (5, .int (nI (A0 >>> nn))), (4, .int (nI (2 ^ nn * 2 ^ nn + 2 ^ nn))), (3, .int (nI (2 ^ nn * 2 ^ nn))), (0, .ref (ad (b))), (1, .int (nI (A0))), (2, .int (nI (B0)))] := by rw [← pk_sub h_54]; exact hl
          have e9 : ltM nn c0 true A0 B0 = some (B0 - 2 ^ nn * 2 ^ nn) := if_pos h_54
          refine lv_iload hx hb dX0_pointOfBoth_87 (lv_at hl 0 rfl) ?_
          refine n_eq (show nI (B0 - 2 ^ nn * 2 ^ nn) = oI (ltM nn c0 true A0 B0) from by rw [e9]; rfl) ?_
          refine lv_bipush (v := (-9)) hx hb dX0_pointOfBoth_89 (by decide) ?_
          refine n_cne_o (tgt := 99) hx hb dX0_pointOfBoth_91 (by decide) (fun k hk => by
          rw [e9] at hk
          first | (have := slv_lt hk; omega) | (have := Option.some.inj hk; omega)) (fun h_91 => ?_) (fun h_91 => ?_)
          · obtain ⟨m0, hm0⟩ : ∃ m0, ltM nn c0 true A0 B0 = some m0 := Option.ne_none_iff_exists'.mp h_91
            have hm1 : m0 < 2 ^ nn := by
              rw [e9] at hm0
              have := Option.some.inj hm0
              omega
            have hl : lv_has ls 8 [(6, .int (nI (m0))), (5, .int (nI (A0 >>> nn))), (4, .int (nI (2 ^ nn * 2 ^ nn + 2 ^ nn))), (3, .int (nI (2 ^ nn * 2 ^ nn))), (0, .ref (ad (b))), (1, .int (nI (A0))), (2, .int (nI (B0)))] := by rw [show m0 = (B0 - 2 ^ nn * 2 ^ nn) from Option.some.inj (hm0.symm.trans e9)]; exact hl
            refine lv_iload hx hb dX0_pointOfBoth_99 (lv_at hl 0 rfl) ?_
            refine lv_aload_n hx hb dX0_pointOfBoth_101 rfl (lv_at hl 4 rfl) ?_
            refine g_callV (b) (C := RX1) (T := TX1) (N := 4) (ci := 0) (As := []) (rest := [.int (nI (m0))]) (c_X1_bits l hI hbn hw) (cwV 0 hts gX0_pointOfBoth_X1_bits rfl rfl rfl (by decide +kernel) ⟨Nat.le_of_ble_eq_true rfl, Nat.le_of_ble_eq_true rfl⟩) hx hb hml hown hts hK hP  (by omega) hw.1 rfl rfl hl.1 rfl (Nat.le_of_ble_eq_true rfl) (Nat.zero_le _) (Nat.zero_le _) dX0_pointOfBoth_102 ?_
            refine n_ishl hx hb dX0_pointOfBoth_105 (by omega) ?_
            refine lv_aload_n hx hb dX0_pointOfBoth_106 rfl (lv_at hl 4 rfl) ?_
            refine lv_iload hx hb dX0_pointOfBoth_107 (lv_at hl 1 rfl) ?_
            refine lv_iload hx hb dX0_pointOfBoth_109 (lv_at hl 0 rfl) ?_
            refine g_callV (b) (C := RX1) (T := TX1) (N := 4) (ci := 0) (As := [.int (nI (A0 >>> nn)), .int (nI (m0))]) (rest := [.int (nI (m0 <<< nn))]) (c_X1_times l hI hbn hw (X := A0 >>> nn) (Y := m0) ht hnn (by omega) (by omega)) (cwV 2 hts gX0_pointOfBoth_X1_times rfl rfl rfl (by decide +kernel) ⟨Nat.le_of_ble_eq_true rfl, Nat.le_of_ble_eq_true rfl⟩) hx hb hml hown hts hK hP  (by omega) hw.1 rfl rfl hl.1 rfl (Nat.le_of_ble_eq_true rfl) (Nat.zero_le _) (Nat.zero_le _) dX0_pointOfBoth_111 ?_
            refine lv_aload_n hx hb dX0_pointOfBoth_114 rfl (lv_at hl 4 rfl) ?_
            refine lv_iload_n hx hb dX0_pointOfBoth_115 rfl (lv_at hl 5 rfl) ?_
            refine g_callS (As := [.ref (ad (b)), .int (nI (A0))]) (rest := [.int (nI (tm nn c0 (A0 >>> nn) m0)), .int (nI (m0 <<< nn))]) (c_X0_lowPart l hI hbn hw (P := A0)) (va_cwS 2 hts gX0_pointOfBoth_X0_lowPart rfl rfl rfl (by decide +kernel) ⟨Nat.le_of_ble_eq_true rfl, Nat.le_of_ble_eq_true rfl⟩) hx hb hml hown hts hK hP  rfl hl.1 rfl (Nat.le_of_ble_eq_true rfl) (Nat.zero_le _) (Nat.zero_le _) dX0_pointOfBoth_116 ?_
            refine n_ixor hx hb dX0_pointOfBoth_119 ?_
            refine n_ior hx hb dX0_pointOfBoth_120 ?_
            exact g_iret hx hb hrt hlocks dX0_pointOfBoth_121 (by rw [show mtS nn c0 A0 B0 = _ from by unfold mtS; rw [if_neg (Nat.not_le.mpr h_13), if_neg (fun z => z.elim h_29 h_39), hm0]]; rfl)
          · refine lv_bipush (v := (-9)) hx hb dX0_pointOfBoth_94 (by decide) ?_
            refine n_goto 121 hx hb dX0_pointOfBoth_96 (by decide) ?_
            exact g_iret hx hb hrt hlocks dX0_pointOfBoth_121 (by rw [show mtS nn c0 A0 B0 = none from by unfold mtS; rw [if_neg (Nat.not_le.mpr h_13), if_neg (fun z => z.elim h_29 h_39), h_91]; rfl]; rfl)
        · have e9 : ltM nn c0 true A0 B0 = slv nn c0 ((A0 >>> nn) ^^^ (B0 >>> nn)) ((A0 &&& (2 ^ nn - 1)) ^^^ (B0 &&& (2 ^ nn - 1))) true := if_neg (Nat.not_le.mpr h_54)
          have v2 := hp_lt h_54
          have v3 := Nat.xor_lt_two_pow v1 v2
          have w3 := Nat.xor_lt_two_pow w1 w2
          refine lv_aload_n hx hb dX0_pointOfBoth_57 rfl (lv_at hl 4 rfl) ?_
          refine lv_iload_n hx hb dX0_pointOfBoth_58 rfl (lv_at hl 5 rfl) ?_
          refine g_callS (As := [.ref (ad (b)), .int (nI (A0))]) (rest := []) (c_X0_lowPart l hI hbn hw (P := A0)) (va_cwS 2 hts gX0_pointOfBoth_X0_lowPart rfl rfl rfl (by decide +kernel) ⟨Nat.le_of_ble_eq_true rfl, Nat.le_of_ble_eq_true rfl⟩) hx hb hml hown hts hK hP  rfl hl.1 rfl (Nat.le_of_ble_eq_true rfl) (Nat.zero_le _) (Nat.zero_le _) dX0_pointOfBoth_59 ?_
          refine lv_aload_n hx hb dX0_pointOfBoth_62 rfl (lv_at hl 4 rfl) ?_
          refine lv_iload_n hx hb dX0_pointOfBoth_63 rfl (lv_at hl 6 rfl) ?_
          refine g_callS (As := [.ref (ad (b)), .int (nI (B0))]) (rest := [.int (nI (A0 &&& (2 ^ nn - 1)))]) (c_X0_lowPart l hI hbn hw (P := B0)) (va_cwS 2 hts gX0_pointOfBoth_X0_lowPart rfl rfl rfl (by decide +kernel) ⟨Nat.le_of_ble_eq_true rfl, Nat.le_of_ble_eq_true rfl⟩) hx hb hml hown hts hK hP  rfl hl.1 rfl (Nat.le_of_ble_eq_true rfl) (Nat.zero_le _) (Nat.zero_le _) dX0_pointOfBoth_64 ?_
          refine n_ixor hx hb dX0_pointOfBoth_67 ?_
          refine lv_istore (lv' := [(7, .int (nI ((A0 &&& (2 ^ nn - 1)) ^^^ (B0 &&& (2 ^ nn - 1))))), (6, .int (nI B0 - nI (2 ^ nn * 2 ^ nn))), (5, .int (nI (A0 >>> nn))), (4, .int (nI (2 ^ nn * 2 ^ nn + 2 ^ nn))), (3, .int (nI (2 ^ nn * 2 ^ nn))), (0, .ref (ad (b))), (1, .int (nI (A0))), (2, .int (nI (B0)))]) hx hb dX0_pointOfBoth_68 hl (by decide) rfl (fun ls hl => ?_)
          refine lv_aload_n hx hb dX0_pointOfBoth_70 rfl (lv_at hl 5 rfl) ?_
          refine lv_iload hx hb dX0_pointOfBoth_71 (lv_at hl 2 rfl) ?_
          refine lv_aload_n hx hb dX0_pointOfBoth_73 rfl (lv_at hl 5 rfl) ?_
          refine lv_iload_n hx hb dX0_pointOfBoth_74 rfl (lv_at hl 7 rfl) ?_
          refine g_callS (As := [.ref (ad (b)), .int (nI (B0))]) (rest := [.int (nI (A0 >>> nn)), .ref (ad (b))]) (c_X0_highPart l hI hbn hw (P := B0) hnn (by omega)) (va_cwS 2 hts gX0_pointOfBoth_X0_highPart rfl rfl rfl (by decide +kernel) ⟨Nat.le_of_ble_eq_true rfl, Nat.le_of_ble_eq_true rfl⟩) hx hb hml hown hts hK hP  rfl hl.1 rfl (Nat.le_of_ble_eq_true rfl) (Nat.zero_le _) (Nat.zero_le _) dX0_pointOfBoth_75 ?_
          refine n_ixor hx hb dX0_pointOfBoth_78 ?_
          refine lv_iload hx hb dX0_pointOfBoth_79 (lv_at hl 0 rfl) ?_
          refine n_iconst 1 hx hb dX0_pointOfBoth_81 ?_
          refine n_eq (show nI 1 = bI true from rfl) ?_
          refine g_callV (b) (C := RX1) (T := TX1) (N := 4) (ci := 0) (As := [.int (nI ((A0 >>> nn) ^^^ (B0 >>> nn))), .int (nI ((A0 &&& (2 ^ nn - 1)) ^^^ (B0 &&& (2 ^ nn - 1)))), .int (bI (true))]) (rest := []) (c_X1_solve l hI hbn hw (X := (A0 >>> nn) ^^^ (B0 >>> nn)) (Z := (A0 &&& (2 ^ nn - 1)) ^^^ (B0 &&& (2 ^ nn - 1))) (L := true) ht hnn hcb v3 w3) (cwV 3 hts gX0_pointOfBoth_X1_solve rfl rfl rfl (by decide +kernel) ⟨Nat.le_of_ble_eq_true rfl, Nat.le_of_ble_eq_true rfl⟩) hx hb hml hown hts hK hP  (by omega) hw.1 rfl rfl hl.1 rfl (Nat.le_of_ble_eq_true rfl) (Nat.zero_le _) (Nat.zero_le _) dX0_pointOfBoth_82 ?_
          refine lv_istore (lv' := [(6, .int (oI (slv nn c0 ((A0 >>> nn) ^^^ (B0 >>> nn)) ((A0 &&& (2 ^ nn - 1)) ^^^ (B0 &&& (2 ^ nn - 1))) true))), (7, .int (nI ((A0 &&& (2 ^ nn - 1)) ^^^ (B0 &&& (2 ^ nn - 1))))), (5, .int (nI (A0 >>> nn))), (4, .int (nI (2 ^ nn * 2 ^ nn + 2 ^ nn))), (3, .int (nI (2 ^ nn * 2 ^ nn))), (0, .ref (ad (b))), (1, .int (nI (A0))), (2, .int (nI (B0)))]) hx hb dX0_pointOfBoth_85 hl (by decide) rfl (fun ls hl => ?_)
          refine lv_iload hx hb dX0_pointOfBoth_87 (lv_at hl 0 rfl) ?_
          refine n_eq (show oI (slv nn c0 ((A0 >>> nn) ^^^ (B0 >>> nn)) ((A0 &&& (2 ^ nn - 1)) ^^^ (B0 &&& (2 ^ nn - 1))) true) = oI (ltM nn c0 true A0 B0) from by rw [e9]) ?_
          refine lv_bipush (v := (-9)) hx hb dX0_pointOfBoth_89 (by decide) ?_
          refine n_cne_o (tgt := 99) hx hb dX0_pointOfBoth_91 (by decide) (fun k hk => by
          rw [e9] at hk
          first | (have := slv_lt hk; omega) | (have := Option.some.inj hk; omega)) (fun h_91 => ?_) (fun h_91 => ?_)
          · obtain ⟨m0, hm0⟩ : ∃ m0, ltM nn c0 true A0 B0 = some m0 := Option.ne_none_iff_exists'.mp h_91
            have hm1 : m0 < 2 ^ nn := by
              rw [e9] at hm0
              exact slv_lt hm0
            have hl : lv_has ls 8 [(6, .int (nI (m0))), (7, .int (nI ((A0 &&& (2 ^ nn - 1)) ^^^ (B0 &&& (2 ^ nn - 1))))), (5, .int (nI (A0 >>> nn))), (4, .int (nI (2 ^ nn * 2 ^ nn + 2 ^ nn))), (3, .int (nI (2 ^ nn * 2 ^ nn))), (0, .ref (ad (b))), (1, .int (nI (A0))), (2, .int (nI (B0)))] := by rw [show nI m0 = oI (slv nn c0 ((A0 >>> nn) ^^^ (B0 >>> nn)) ((A0 &&& (2 ^ nn - 1)) ^^^ (B0 &&& (2 ^ nn - 1))) true) from by rw [← e9, hm0]; rfl]; exact hl
            refine lv_iload hx hb dX0_pointOfBoth_99 (lv_at hl 0 rfl) ?_
            refine lv_aload_n hx hb dX0_pointOfBoth_101 rfl (lv_at hl 5 rfl) ?_
            refine g_callV (b) (C := RX1) (T := TX1) (N := 4) (ci := 0) (As := []) (rest := [.int (nI (m0))]) (c_X1_bits l hI hbn hw) (cwV 0 hts gX0_pointOfBoth_X1_bits rfl rfl rfl (by decide +kernel) ⟨Nat.le_of_ble_eq_true rfl, Nat.le_of_ble_eq_true rfl⟩) hx hb hml hown hts hK hP  (by omega) hw.1 rfl rfl hl.1 rfl (Nat.le_of_ble_eq_true rfl) (Nat.zero_le _) (Nat.zero_le _) dX0_pointOfBoth_102 ?_
            refine n_ishl hx hb dX0_pointOfBoth_105 (by omega) ?_
            refine lv_aload_n hx hb dX0_pointOfBoth_106 rfl (lv_at hl 5 rfl) ?_
            refine lv_iload hx hb dX0_pointOfBoth_107 (lv_at hl 2 rfl) ?_
            refine lv_iload hx hb dX0_pointOfBoth_109 (lv_at hl 0 rfl) ?_
            refine g_callV (b) (C := RX1) (T := TX1) (N := 4) (ci := 0) (As := [.int (nI (A0 >>> nn)), .int (nI (m0))]) (rest := [.int (nI (m0 <<< nn))]) (c_X1_times l hI hbn hw (X := A0 >>> nn) (Y := m0) ht hnn (by omega) (by omega)) (cwV 2 hts gX0_pointOfBoth_X1_times rfl rfl rfl (by decide +kernel) ⟨Nat.le_of_ble_eq_true rfl, Nat.le_of_ble_eq_true rfl⟩) hx hb hml hown hts hK hP  (by omega) hw.1 rfl rfl hl.1 rfl (Nat.le_of_ble_eq_true rfl) (Nat.zero_le _) (Nat.zero_le _) dX0_pointOfBoth_111 ?_
            refine lv_aload_n hx hb dX0_pointOfBoth_114 rfl (lv_at hl 5 rfl) ?_
            refine lv_iload_n hx hb dX0_pointOfBoth_115 rfl (lv_at hl 6 rfl) ?_
            refine g_callS (As := [.ref (ad (b)), .int (nI (A0))]) (rest := [.int (nI (tm nn c0 (A0 >>> nn) m0)), .int (nI (m0 <<< nn))]) (c_X0_lowPart l hI hbn hw (P := A0)) (va_cwS 2 hts gX0_pointOfBoth_X0_lowPart rfl rfl rfl (by decide +kernel) ⟨Nat.le_of_ble_eq_true rfl, Nat.le_of_ble_eq_true rfl⟩) hx hb hml hown hts hK hP  rfl hl.1 rfl (Nat.le_of_ble_eq_true rfl) (Nat.zero_le _) (Nat.zero_le _) dX0_pointOfBoth_116 ?_
            refine n_ixor hx hb dX0_pointOfBoth_119 ?_
            refine n_ior hx hb dX0_pointOfBoth_120 ?_
            exact g_iret hx hb hrt hlocks dX0_pointOfBoth_121 (by rw [show mtS nn c0 A0 B0 = _ from by unfold mtS; rw [if_neg (Nat.not_le.mpr h_13), if_neg (fun z => z.elim h_29 h_39), hm0]]; rfl)
          · refine lv_bipush (v := (-9)) hx hb dX0_pointOfBoth_94 (by decide) ?_
            refine n_goto 121 hx hb dX0_pointOfBoth_96 (by decide) ?_
            exact g_iret hx hb hrt hlocks dX0_pointOfBoth_121 (by rw [show mtS nn c0 A0 B0 = none from by unfold mtS; rw [if_neg (Nat.not_le.mpr h_13), if_neg (fun z => z.elim h_29 h_39), h_91]; rfl]; rfl)
      · refine lv_iload_n hx hb dX0_pointOfBoth_42 rfl (lv_at hl 2 rfl) ?_
        refine lv_iload hx hb dX0_pointOfBoth_43 (lv_at hl 0 rfl) ?_
        refine n_iadd hx hb dX0_pointOfBoth_45 ?_
        exact g_iret hx hb hrt hlocks dX0_pointOfBoth_46 (by rw [show mtS nn c0 A0 B0 = some _ from by unfold mtS; rw [if_neg (Nat.not_le.mpr h_13), if_pos (Or.inr h_39)]]; rfl)
  · refine lv_iload hx hb dX0_pointOfBoth_16 (lv_at hl 0 rfl) ?_
    exact g_iret hx hb hrt hlocks dX0_pointOfBoth_18 (by rw [show mtS nn c0 A0 B0 = some _ from by unfold mtS; rw [if_pos h_13]]; rfl)
set_option maxHeartbeats 4000000 in
set_option maxRecDepth 100000 in
theorem c_X0_countBadPairs (l : Launch) {D : va_G} {tys : List (ClassId × FieldType)} {ad : Nat → Nat} {n : Nat} {E : Nat → va_E} {cI : ClassId} {t0 b nn : Nat} {c0 tt : Nat → Nat} (hI : tys[t0]? = some (cI, .int)) (hbn : b + 2 < n) (hw : isW cI ad E b nn c0 tt) (ht : tOK nn c0 tt) (hnn : nn ≤ 4) (hcb : CB nn c0) : Met l yX0_countBadPairs wsX0_countBadPairs ({ frames := 3, cells := 0, slots := 0, locals := 65 } : Room) (va_Pc [.ref (ad (b))] (PB D tys n ad (E))) (k2_QcV (.int (nI (cbS nn c0)))) 0 0 (fun _ => False) := by
  have p4 := pow4 hnn
  have p0 : 0 < 2 ^ nn := Nat.pow_pos (by decide)
  have p16 := sq4 p4
  refine g_pure (cc := cX0_countBadPairs) (maxL := 3) (ret := (some .int)) (by decide) rfl (Nat.le_of_ble_eq_true rfl) ?_
  intro p e s m args below meth c hx hb hrt hts hown hlocks hml hP hK ls hl
  show W p l e ({ frames := 3, cells := 0, slots := 0, locals := 65 } : Room) s m args below meth c s.heap [] 0 0 _ _
  have hl : lv_has ls 3 [(0, .ref (ad (b)))] := hl
  refine n_iconst 0 hx hb dX0_countBadPairs_0 ?_
  refine lv_istore_n (lv' := [(1, .int (nI (0))), (0, .ref (ad (b)))]) hx hb dX0_countBadPairs_1 rfl hl (by decide) rfl (fun ls hl => ?_)
  refine n_iconst 1 hx hb dX0_countBadPairs_2 ?_
  refine lv_istore_n (lv' := [(2, .int (nI (1))), (1, .int (nI (0))), (0, .ref (ad (b)))]) hx hb dX0_countBadPairs_3 rfl hl (by decide) rfl (fun ls hl => ?_)
  have L_4 : ∀ (r : Nat) (acc : Nat) (d : Nat), (1 ≤ d) → (d ≤ 2 ^ nn) → (2 ^ nn < d + r) → (acc = cnt (cbF nn c0) d) → ∀ (ls : Array Slot), lv_has ls 3 [(0, .ref (ad (b))), (1, .int (nI (acc))), (2, .int (nI (d)))] → W p l e ({ frames := 3, cells := 0, slots := 0, locals := 65 } : Room) s m args below meth c s.heap [] 0 0 (MQ below (k2_QcV (.int (nI (cbS nn c0)))) args s 0 0 (fun _ => False)) (F0 m 4 ls []) := by
    intro r
    induction r with
    | zero => intro acc d hd1 hd hr ha; intros; exact absurd hr (by omega)
    | succ r ih =>
      intro acc d hd1 hd hr ha ls hl
      have ih_4 := ih
      refine lv_iload_n hx hb dX0_countBadPairs_4 rfl (lv_at hl 2 rfl) ?_
      refine lv_aload_n hx hb dX0_countBadPairs_5 rfl (lv_at hl 0 rfl) ?_
      refine g_callV (b) (C := RX1) (T := TX1) (N := 4) (ci := 0) (As := []) (rest := [.int (nI (d))]) (c_X1_size l hI hbn hw) (cwV 0 hts gX0_countBadPairs_X1_size rfl rfl rfl (by decide +kernel) ⟨Nat.le_of_ble_eq_true rfl, Nat.le_of_ble_eq_true rfl⟩) hx hb hml hown hts hK hP  (by omega) hw.1 rfl rfl hl.1 rfl (Nat.le_of_ble_eq_true rfl) (Nat.zero_le _) (Nat.zero_le _) dX0_countBadPairs_6 ?_
      refine n_ge (tgt := 31) hx hb dX0_countBadPairs_9 (by decide) (by omega) (by omega) (fun h_9 => ?_) (fun h_9 => ?_)
      · refine lv_iload_n hx hb dX0_countBadPairs_31 rfl (lv_at hl 1 rfl) ?_
        refine lv_aload_n hx hb dX0_countBadPairs_32 rfl (lv_at hl 0 rfl) ?_
        refine g_callV (b) (C := RX1) (T := TX1) (N := 4) (ci := 0) (As := []) (rest := [.int (nI (acc))]) (c_X1_size l hI hbn hw) (cwV 0 hts gX0_countBadPairs_X1_size rfl rfl rfl (by decide +kernel) ⟨Nat.le_of_ble_eq_true rfl, Nat.le_of_ble_eq_true rfl⟩) hx hb hml hown hts hK hP  (by omega) hw.1 rfl rfl hl.1 rfl (Nat.le_of_ble_eq_true rfl) (Nat.zero_le _) (Nat.zero_le _) dX0_countBadPairs_33 ?_
        refine n_iconst 1 hx hb dX0_countBadPairs_36 ?_
        refine n_ishr hx hb dX0_countBadPairs_37 (by omega) (by decide) ?_
        refine n_imul hx hb dX0_countBadPairs_38 ?_
        refine lv_aload_n hx hb dX0_countBadPairs_39 rfl (lv_at hl 0 rfl) ?_
        refine g_callS (As := [.ref (ad (b))]) (rest := [.int (nI (acc * ((2 ^ nn) >>> 1)))]) (c_X0_insideOf l hI hbn hw) (va_cwS 1 hts gX0_countBadPairs_X0_insideOf rfl rfl rfl (by decide +kernel) ⟨Nat.le_of_ble_eq_true rfl, Nat.le_of_ble_eq_true rfl⟩) hx hb hml hown hts hK hP  rfl hl.1 rfl (Nat.le_of_ble_eq_true rfl) (Nat.zero_le _) (Nat.zero_le _) dX0_countBadPairs_40 ?_
        refine n_imul hx hb dX0_countBadPairs_43 ?_
        exact g_iret hx hb hrt hlocks dX0_countBadPairs_44 (by rw [ha, show d = 2 ^ nn by omega]; rfl)
      · refine lv_aload_n hx hb dX0_countBadPairs_12 rfl (lv_at hl 0 rfl) ?_
        refine lv_iload_n hx hb dX0_countBadPairs_13 rfl (lv_at hl 2 rfl) ?_
        refine g_callV (b) (C := RX1) (T := TX1) (N := 4) (ci := 0) (As := [.int (nI (d))]) (rest := []) (c_X1_leastPartner l hI hbn hw (X := d) ht hnn hcb (by omega)) (cwV 1 hts gX0_countBadPairs_X1_leastPartner rfl rfl rfl (by decide +kernel) ⟨Nat.le_of_ble_eq_true rfl, Nat.le_of_ble_eq_true rfl⟩) hx hb hml hown hts hK hP  (by omega) hw.1 rfl rfl hl.1 rfl (Nat.le_of_ble_eq_true rfl) (Nat.zero_le _) (Nat.zero_le _) dX0_countBadPairs_14 ?_
        refine lv_bipush (v := (-9)) hx hb dX0_countBadPairs_17 (by decide) ?_
        refine n_ceq_o (tgt := 25) hx hb dX0_countBadPairs_19 (by decide) (fun k hk => by have := (fl_some hk).2.1; omega) (fun h_19 => ?_) (fun h_19 => ?_)
        · refine n_iinc 2 1 (lv' := [(2, .int (nI (d + 1))), (0, .ref (ad (b))), (1, .int (nI (acc)))]) hx hb dX0_countBadPairs_25 hl rfl (by decide) rfl (fun ls hl => ?_)
          refine n_goto 4 hx hb dX0_countBadPairs_28 (by decide) ?_
          exact ih_4 (acc) (d + 1) (by omega) (by omega) (by omega) (by rw [ha, cnt_n (by unfold cbF; rw [sF h_19, Bool.and_false])]) _ (lv_sub hl [1, 2, 0] rfl)
        · refine n_iinc 1 1 (lv' := [(1, .int (nI (acc + 1))), (0, .ref (ad (b))), (2, .int (nI (d)))]) hx hb dX0_countBadPairs_22 hl rfl (by decide) rfl (fun ls hl => ?_)
          refine n_iinc 2 1 (lv' := [(2, .int (nI (d + 1))), (1, .int (nI (acc + 1))), (0, .ref (ad (b)))]) hx hb dX0_countBadPairs_25 hl rfl (by decide) rfl (fun ls hl => ?_)
          refine n_goto 4 hx hb dX0_countBadPairs_28 (by decide) ?_
          exact ih_4 (acc + 1) (d + 1) (by omega) (by omega) (by omega) (by rw [ha, cnt_y (by unfold cbF; rw [decide_eq_true hd1, sT h_19]; rfl)]) _ (lv_sub hl [2, 1, 0] rfl)
  exact L_4 (2 ^ nn + 1) (0) (1) (Nat.le_refl _) (by omega) (by omega) rfl _ (lv_sub hl [2, 1, 0] rfl)
