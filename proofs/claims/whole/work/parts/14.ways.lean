/-! the walks of the ways -/
theorem WF_x {S S' : Nat → Nat → Nat} (hS : WF S) (h : ∀ i, i < 9 ∨ 12 < i → S' i = S i) : WF S' := WF_same hS (wf_same hS.1 (h _ (by omega)) (h _ (by omega)) (h _ (by omega))) (fun i hi => h i (by omega))
theorem ww_o {N : Nat} {ca cb : Nat → Nat} {S : Nat → Nat → Nat} {C m i : Nat} (h : i < 10 ∨ 12 < i) : wI N cb (wR N C (wO N cb (wU N ca S) C)) m i = S i := by
  rw [wI_o (by omega)]
  unfold wR
  rw [va_up_o (by omega), wO_o (by omega) (by omega)]
  unfold wU
  rw [va_up_o (by omega)]
theorem wO_u {N : Nat} {ca cb : Nat → Nat} {S : Nat → Nat → Nat} {C i : Nat} (h : i < 10 ∨ 12 < i) : wO N cb (wU N ca S) C i = S i := by
  rw [wO_o (by omega) (by omega)]
  unfold wU
  rw [va_up_o (by omega)]
theorem rrV_lt (C n q : Nat) : rrV C n q < 2 ^ n := lw_lt n _
theorem wR_10 {N C : Nat} {S : Nat → Nat → Nat} {i : Nat} (h : i < N) : wR N C S 10 i = rrV C N i := by
  unfold wR
  rw [va_up_at, cpy_in h]
theorem wR_12 {N : Nat} {ca cb : Nat → Nat} {S : Nat → Nat → Nat} {C i : Nat} (h : i < N) : wR N C (wO N cb (wU N ca S) C) 12 i = unw N ca i := by
  unfold wR
  rw [va_up_o (by decide), wO_o (by decide) (by decide)]
  unfold wU
  rw [va_up_at, cpy_in h]
theorem cw_conv {N : Nat} {ca cb f : Nat → Nat} {S : Nat → Nat → Nat} {C m : Nat} (hcb : CB N ca) (hn : 1 ≤ N) (hda : lbr N ca = none) : lvB N ca cb (wR N C (wO N cb (wU N ca S) C) 10) (cpy (tcv N cb (wR N C (wO N cb (wU N ca S) C) 10) (wR N C (wO N cb (wU N ca S) C) 12) (m + 1)) f N) = cwF N ca cb C (m + 1) := by
  unfold cwF
  rw [decide_eq_true (by omega : 1 ≤ m + 1), Bool.true_and]
  refine lvB_cong hcb hn (fun i hi => wR_10 hi) (fun i hi => ?_)
  rw [cpy_in hi]
  unfold tcv
  rw [wR_12 hi, im_cong (unw_ok hda hcb hn hi).1 (fun q hq => wR_10 hq)]
theorem n9 {N : Nat} (h : N ≤ 3) : N * N ≤ 9 := Nat.mul_le_mul h h
theorem isN_0 {o : Option Nat} (h : o.isNone = true) : o = none := by
  cases o with
  | none => rfl
  | some k => cases h
theorem isN_1 {o : Option Nat} (h : o = none) : o.isNone = true := by rw [h]; rfl

set_option maxHeartbeats 4000000 in
set_option maxRecDepth 100000 in
theorem c_X2_readRow (l : Launch) {D : va_G} {tys : List (ClassId × FieldType)} {A : Nat → Prop} {ad : Nat → Nat} {cI cW cM : ClassId} {tI tW tM : Nat} {S : Nat → Nat → Nat} (hI : tys[tI]? = some (cI, .int)) (hWt : tys[tW]? = some (cW, .object "CubeWorlds$World")) (hMt : tys[tM]? = some (cM, .array .int)) (hWF : WF S) {C0 N : Nat} (hC : C0 < 2 ^ 31) (hN : N ≤ 3) : Met l yX2_readRow wsX2_readRow ({ frames := 0, cells := 0, slots := 0, locals := 0 } : Room) (va_Pc [.ref (ad (10)), .int (nI (C0)), .int (nI (N))] (PW D tys A 33 ad (gE cI cW cM ad S))) (QW none (PW D tys A 33 ad (gE cI cW cM ad (va_up S 10 (cpy (rrV C0 N) (S 10) N)))) A) 0 0 A := by
  refine g_writes (cc := cX2_readRow) (maxL := 4) (ret := none) (by decide) rfl (Nat.le_of_ble_eq_true rfl) ?_
  intro p e s m args below meth c hx hb hrt hts hown hlocks hml hP hK hD hS ls hl
  show W p l e ({ frames := 0, cells := 0, slots := 0, locals := 0 } : Room) s m args below meth c s.heap [] 0 0 _ _
  have hl : lv_has ls 4 [(0, .ref (ad (10))), (1, .int (nI (C0))), (2, .int (nI (N)))] := hl
  have hP : va_P D vwCl (pic 33 ad (gE cI cW cM ad (va_up S 10 (cpy (rrV C0 N) (S 10) 0)))) s.heap := by rw [cpy_0, va_up_same rfl]; exact hP
  refine n_iconst 0 hx hb dX2_readRow_0 ?_
  refine lv_istore_n (lv' := [(3, .int (nI (0))), (0, .ref (ad (10))), (1, .int (nI (C0))), (2, .int (nI (N)))]) hx hb dX2_readRow_1 rfl hl (by decide) rfl (fun ls hl => ?_)
  have L_2 : ∀ (r : Nat) (i : Nat), (i ≤ N) → (N < i + r) → ∀ (H : Heap) (locs : List Loc), va_P D vwCl (pic 33 ad (gE cI cW cM ad (va_up S 10 (cpy (rrV C0 N) (S 10) i)))) H → va_S A s.heap H locs → ∀ (ls : Array Slot), lv_has ls 4 [(0, .ref (ad (10))), (1, .int (nI (C0))), (2, .int (nI (N))), (3, .int (nI (i)))] → W p l e ({ frames := 0, cells := 0, slots := 0, locals := 0 } : Room) s m args below meth c H locs 0 0 (MQ below (QW none (PW D tys A 33 ad (gE cI cW cM ad (va_up S 10 (cpy (rrV C0 N) (S 10) N)))) A) args s 0 0 A) (F0 m 2 ls []) := by
    intro r
    induction r with
    | zero => intro i hi hr; intros; exact absurd hr (by omega)
    | succ r ih =>
      intro i hi hr H locs hP hS ls hl
      have ih_2 := ih
      refine lv_iload_n hx hb dX2_readRow_2 rfl (lv_at hl 3 rfl) ?_
      refine lv_iload_n hx hb dX2_readRow_3 rfl (lv_at hl 2 rfl) ?_
      refine n_ge (tgt := 33) hx hb dX2_readRow_4 (by decide) (by omega) (by omega) (fun h_4 => ?_) (fun h_4 => ?_)
      · rw [show i = N by omega] at hP
        exact g_vretW hx hb hrt hlocks hK hP (pic_D _ hD) hS dX2_readRow_33
      · refine lv_iload_n hx hb dX2_readRow_7 rfl (lv_at hl 3 rfl) ?_
        refine lv_aload_n hx hb dX2_readRow_8 rfl (lv_at hl 0 rfl) ?_
        refine g_alen (10) hx hb hK hP (by decide) (gIX 10 4 rfl (by decide) (va_up_at _ _ _)) hI dX2_readRow_9 ?_
        refine n_ge (tgt := 33) hx hb dX2_readRow_10 (by decide) (by omega) (by omega) (fun h_10 => ?_) (fun h_10 => ?_)
        · exact absurd h_10 (by omega)
        · have hm9 : i * N ≤ 9 := Nat.mul_le_mul (by omega : i ≤ 3) hN
          have hp9 : 0 < 2 ^ N := Nat.pow_pos (by decide)
          have hs9 := shl1 N
          refine lv_aload_n hx hb dX2_readRow_13 rfl (lv_at hl 0 rfl) ?_
          refine lv_iload_n hx hb dX2_readRow_14 rfl (lv_at hl 3 rfl) ?_
          refine lv_iload_n hx hb dX2_readRow_15 rfl (lv_at hl 1 rfl) ?_
          refine lv_iload_n hx hb dX2_readRow_16 rfl (lv_at hl 3 rfl) ?_
          refine lv_iload_n hx hb dX2_readRow_17 rfl (lv_at hl 2 rfl) ?_
          refine n_imul hx hb dX2_readRow_18 ?_
          refine n_ishr hx hb dX2_readRow_19 hC (by omega) ?_
          refine n_iconst 1 hx hb dX2_readRow_20 ?_
          refine lv_iload_n hx hb dX2_readRow_21 rfl (lv_at hl 2 rfl) ?_
          refine n_ishl hx hb dX2_readRow_22 (by omega) ?_
          refine n_iconst 1 hx hb dX2_readRow_23 ?_
          refine n_isub hx hb dX2_readRow_24 (by omega) ?_
          refine n_iand hx hb dX2_readRow_25 ?_
          refine g_iast (10) (i) ((C0 >>> (i * N)) &&& ((1 <<< N) - 1)) hx hb hK hP (pic_D _ hD) hS (by decide) (gIX 10 4 rfl (by decide) (va_up_at _ _ _)) hI (by omega) (by decide) dX2_readRow_26 (fun H locs hP hS => ?_)
          rw [gE_upL 10 4 rfl (by decide), va_up_up, show ((C0 >>> (i * N)) &&& ((1 <<< N) - 1)) = rrV C0 N i from by unfold rrV; rw [shl1], cpy_put] at hP
          refine n_iinc 3 1 (lv' := [(3, .int (nI (i + 1))), (0, .ref (ad (10))), (1, .int (nI (C0))), (2, .int (nI (N)))]) hx hb dX2_readRow_27 hl rfl (by decide) rfl (fun ls hl => ?_)
          refine n_goto 2 hx hb dX2_readRow_30 (by decide) ?_
          exact ih_2 (i + 1) (by omega) (by omega) _ _ hP hS _ (lv_sub hl [1, 2, 3, 0] rfl)
  exact L_2 (N + 1) (0) (Nat.zero_le _) (by omega) _ _ hP hS _ (lv_sub hl [1, 2, 3, 0] rfl)
set_option maxHeartbeats 4000000 in
set_option maxRecDepth 100000 in
theorem c_X2_agrees (l : Launch) {D : va_G} {tys : List (ClassId × FieldType)} {ad : Nat → Nat} {cI cW cM : ClassId} {tI tW tM : Nat} {S : Nat → Nat → Nat} (hI : tys[tI]? = some (cI, .int)) (hWt : tys[tW]? = some (cW, .object "CubeWorlds$World")) (hMt : tys[tM]? = some (cM, .array .int)) (hWF : WF S) {k u nn : Nat} {ca cb fa : Nat → Nat} (hk9 : k < 4) (hu9 : u < 4) (e1 : S (13 + 3 * k) 0 = nn) (e2 : S (13 + 3 * k + 1) = ca) (e3 : S (13 + 3 * u) 0 = nn) (e4 : S (13 + 3 * u + 1) = cb) (e5 : S 10 = fa) {J G : Nat} {fc : Nat → Nat} (e6 : S 11 = fc) (hJ : J < nn) (hG : G < 2 ^ nn) (hfa : ∀ i, i < nn → fa i < 2 ^ nn) (hfc : ∀ i, i < nn → fc i < 2 ^ nn) : Met l yX2_agrees wsX2_agrees ({ frames := 2, cells := 0, slots := 0, locals := 43 } : Room) (va_Pc [.ref (ad (0)), .ref (ad (13 + 3 * k)), .ref (ad (13 + 3 * u)), .int (nI (J)), .int (nI (G))] (PB D tys 33 ad (gE cI cW cM ad S))) (k2_QcV (.int (bI (agB nn ca cb fa fc J G)))) 0 0 (fun _ => False) := by
  subst e1
  subst e2
  subst e4
  subst e5
  subst e6
  have qk1 := (hWF.2.1 k hk9).1
  have qk2 := pow4 qk1.2.1
  have e8 : 2 ^ S (13 + 3 * u) 0 = 2 ^ S (13 + 3 * k) 0 := by rw [e3]
  have hcbK := (hWF.2.1 k hk9).2.1
  have hcbU : CB (S (13 + 3 * k) 0) (S (13 + 3 * u + 1)) := e3 ▸ (hWF.2.1 u hu9).2.1
  refine g_pure (cc := cX2_agrees) (maxL := 6) (ret := (some .boolean)) (by decide) rfl (Nat.le_of_ble_eq_true rfl) ?_
  intro p e s m args below meth c hx hb hrt hts hown hlocks hml hP hK ls hl
  show W p l e ({ frames := 2, cells := 0, slots := 0, locals := 43 } : Room) s m args below meth c s.heap [] 0 0 _ _
  have hl : lv_has ls 6 [(0, .ref (ad (0))), (1, .ref (ad (13 + 3 * k))), (2, .ref (ad (13 + 3 * u))), (3, .int (nI (J))), (4, .int (nI (G)))] := hl
  refine n_iconst 0 hx hb dX2_agrees_0 ?_
  refine lv_istore (lv' := [(5, .int (nI (0))), (0, .ref (ad (0))), (1, .ref (ad (13 + 3 * k))), (2, .ref (ad (13 + 3 * u))), (3, .int (nI (J))), (4, .int (nI (G)))]) hx hb dX2_agrees_1 hl (by decide) rfl (fun ls hl => ?_)
  have L_3 : ∀ (r : Nat) (i : Nat), (i ≤ S (13 + 3 * k) 0) → (S (13 + 3 * k) 0 < i + r) → (∀ q, q < i → (tm (S (13 + 3 * k) 0) (S (13 + 3 * u + 1)) (S 10 q) G == im (S 11) (tm (S (13 + 3 * k) 0) (S (13 + 3 * k + 1)) (1 <<< q) (1 <<< J))) = true) → ∀ (ls : Array Slot), lv_has ls 6 [(0, .ref (ad (0))), (1, .ref (ad (13 + 3 * k))), (2, .ref (ad (13 + 3 * u))), (3, .int (nI (J))), (4, .int (nI (G))), (5, .int (nI (i)))] → W p l e ({ frames := 2, cells := 0, slots := 0, locals := 43 } : Room) s m args below meth c s.heap [] 0 0 (MQ below (k2_QcV (.int (bI (agB ((S (13 + 3 * k) 0)) ((S (13 + 3 * k + 1))) ((S (13 + 3 * u + 1))) ((S 10)) ((S 11)) J G)))) args s 0 0 (fun _ => False)) (F0 m 3 ls []) := by
    intro r
    induction r with
    | zero => intro i hi hr hno; intros; exact absurd hr (by omega)
    | succ r ih =>
      intro i hi hr hno ls hl
      have ih_3 := ih
      refine lv_iload hx hb dX2_agrees_3 (lv_at hl 5 rfl) ?_
      refine lv_aload_n hx hb dX2_agrees_5 rfl (lv_at hl 1 rfl) ?_
      refine g_callV (13 + 3 * k) (C := RX1) (T := TX1) (N := 4) (ci := 0) (As := []) (rest := [.int (nI (i))]) (c_X1_bits l hI (by omega) (gE_W hk9 (hWF.2.1 k hk9))) (cwV 0 hts gX2_agrees_X1_bits rfl rfl rfl (by decide +kernel) ⟨Nat.le_of_ble_eq_true rfl, Nat.le_of_ble_eq_true rfl⟩) hx hb hml hown hts hK hP  (by omega) (gE_obj (isO_w hk9)) rfl rfl hl.1 rfl (Nat.le_of_ble_eq_true rfl) (Nat.zero_le _) (Nat.zero_le _) dX2_agrees_6 ?_
      refine n_ge (tgt := 64) hx hb dX2_agrees_9 (by decide) (by omega) (by omega) (fun h_9 => ?_) (fun h_9 => ?_)
      · refine n_iconst 1 hx hb dX2_agrees_64 ?_
        exact g_zret (true) hx hb hrt hlocks dX2_agrees_65 rfl (by rw [show agB _ _ _ (S 10) (S 11) J G = true from al_yes (fun q hq => hno q (by omega))])
      · refine lv_iload hx hb dX2_agrees_12 (lv_at hl 5 rfl) ?_
        refine lv_aload_n hx hb dX2_agrees_14 rfl (lv_at hl 0 rfl) ?_
        refine g_get (0) 4 (C := RX2) (T := TX2) (N := 7) (ci := 1) (ref := "CubeWorlds") hx hb hts (by decide +kernel) hown hK hP (by decide) rfl rfl (by decide) (by decide +kernel) rfl rfl dX2_agrees_15 ?_
        refine g_alen (10) hx hb hK hP (by decide) (gI 10 4 rfl (by decide)) hI dX2_agrees_18 ?_
        refine n_ge (tgt := 64) hx hb dX2_agrees_19 (by decide) (by omega) (by omega) (fun h_19 => ?_) (fun h_19 => ?_)
        · exact absurd h_19 (by omega)
        · have s1 := shl1_lt (k := i) (n := S (13 + 3 * k) 0) (by omega)
          have s2 := shl1_lt (k := J) (n := S (13 + 3 * k) 0) (by omega)
          have f1 := hfa i (by omega)
          have t1 := tm_lt hcbK (1 <<< i) (1 <<< J)
          have t2 := tm_lt hcbU (S 10 i) G
          have t3 := im_lt t1 hfc
          refine lv_aload_n hx hb dX2_agrees_22 rfl (lv_at hl 2 rfl) ?_
          refine lv_aload_n hx hb dX2_agrees_23 rfl (lv_at hl 0 rfl) ?_
          refine g_get (0) 4 (C := RX2) (T := TX2) (N := 7) (ci := 1) (ref := "CubeWorlds") hx hb hts (by decide +kernel) hown hK hP (by decide) rfl rfl (by decide) (by decide +kernel) rfl rfl dX2_agrees_24 ?_
          refine lv_iload hx hb dX2_agrees_27 (lv_at hl 5 rfl) ?_
          refine g_iald (10) (i) (t0 := _) hx hb hK hP (by decide) (gI 10 4 rfl (by decide)) hI (by omega) (by decide) dX2_agrees_29 ?_
          refine lv_iload hx hb dX2_agrees_30 (lv_at hl 4 rfl) ?_
          refine g_callV (13 + 3 * u) (C := RX1) (T := TX1) (N := 4) (ci := 0) (As := [.int (nI ((S 10) (i))), .int (nI (G))]) (rest := []) (c_X1_times l hI (by omega) (gE_W hu9 (hWF.2.1 u hu9)) (X := (S 10) (i)) (Y := G) (hWF.2.1 u hu9).2.2 (hWF.2.1 u hu9).1.2.1 (by omega) (by omega)) (cwV 2 hts gX2_agrees_X1_times rfl rfl rfl (by decide +kernel) ⟨Nat.le_of_ble_eq_true rfl, Nat.le_of_ble_eq_true rfl⟩) hx hb hml hown hts hK hP  (by omega) (gE_obj (isO_w hu9)) rfl rfl hl.1 rfl (Nat.le_of_ble_eq_true rfl) (Nat.zero_le _) (Nat.zero_le _) dX2_agrees_32 ?_
          refine n_eq (show nI (tm (S (13 + 3 * u) 0) (S (13 + 3 * u + 1)) ((S 10) (i)) G) = nI (tm (S (13 + 3 * k) 0) (S (13 + 3 * u + 1)) ((S 10) (i)) G) from by rw [e3]) ?_
          refine lv_aload_n hx hb dX2_agrees_35 rfl (lv_at hl 0 rfl) ?_
          refine g_get (0) 5 (C := RX2) (T := TX2) (N := 7) (ci := 1) (ref := "CubeWorlds") hx hb hts (by decide +kernel) hown hK hP (by decide) rfl rfl (by decide) (by decide +kernel) rfl rfl dX2_agrees_36 ?_
          refine lv_aload_n hx hb dX2_agrees_39 rfl (lv_at hl 1 rfl) ?_
          refine n_iconst 1 hx hb dX2_agrees_40 ?_
          refine lv_iload hx hb dX2_agrees_41 (lv_at hl 5 rfl) ?_
          refine n_ishl hx hb dX2_agrees_43 (by omega) ?_
          refine n_iconst 1 hx hb dX2_agrees_44 ?_
          refine lv_iload_n hx hb dX2_agrees_45 rfl (lv_at hl 3 rfl) ?_
          refine n_ishl hx hb dX2_agrees_46 (by omega) ?_
          refine g_callV (13 + 3 * k) (C := RX1) (T := TX1) (N := 4) (ci := 0) (As := [.int (nI (1 <<< i)), .int (nI (1 <<< J))]) (rest := [.ref (ad (11)), .int (nI (tm (S (13 + 3 * k) 0) (S (13 + 3 * u + 1)) ((S 10) (i)) G))]) (c_X1_times l hI (by omega) (gE_W hk9 (hWF.2.1 k hk9)) (X := 1 <<< i) (Y := 1 <<< J) (hWF.2.1 k hk9).2.2 (hWF.2.1 k hk9).1.2.1 (by omega) (by omega)) (cwV 2 hts gX2_agrees_X1_times rfl rfl rfl (by decide +kernel) ⟨Nat.le_of_ble_eq_true rfl, Nat.le_of_ble_eq_true rfl⟩) hx hb hml hown hts hK hP  (by omega) (gE_obj (isO_w hk9)) rfl rfl hl.1 rfl (Nat.le_of_ble_eq_true rfl) (Nat.zero_le _) (Nat.zero_le _) dX2_agrees_47 ?_
          refine g_callS (As := [.ref (ad (11)), .int (nI (tm (S (13 + 3 * k) 0) (S (13 + 3 * k + 1)) (1 <<< i) (1 <<< J)))]) (rest := [.int (nI (tm (S (13 + 3 * k) 0) (S (13 + 3 * u + 1)) ((S 10) (i)) G))]) (c_X2_sumOf l hI (rI := 11) (f := S 11) (by decide) (gI 11 4 rfl (by decide)) (X := tm (S (13 + 3 * k) 0) (S (13 + 3 * k + 1)) (1 <<< i) (1 <<< J)) (by omega)) (va_cwS 2 hts gX2_agrees_X2_sumOf rfl rfl rfl (by decide +kernel) ⟨Nat.le_of_ble_eq_true rfl, Nat.le_of_ble_eq_true rfl⟩) hx hb hml hown hts hK hP  rfl hl.1 rfl (Nat.le_of_ble_eq_true rfl) (Nat.zero_le _) (Nat.zero_le _) dX2_agrees_50 ?_
          refine n_ceq (tgt := 58) hx hb dX2_agrees_53 (by decide) (by omega) (by omega) (fun h_53 => ?_) (fun h_53 => ?_)
          · refine n_iinc 5 1 (lv' := [(5, .int (nI (i + 1))), (0, .ref (ad (0))), (1, .ref (ad (13 + 3 * k))), (2, .ref (ad (13 + 3 * u))), (3, .int (nI (J))), (4, .int (nI (G)))]) hx hb dX2_agrees_58 hl rfl (by decide) rfl (fun ls hl => ?_)
            refine n_goto 3 hx hb dX2_agrees_61 (by decide) ?_
            exact ih_3 (i + 1) (by omega) (by omega) (ya_s hno (bT h_53)) _ (lv_sub hl [1, 2, 3, 4, 5, 0] rfl)
          · refine n_iconst 0 hx hb dX2_agrees_56 ?_
            exact g_zret (false) hx hb hrt hlocks dX2_agrees_57 rfl (by rw [show agB _ _ _ (S 10) (S 11) J G = false from al_no (k := i) (by omega) (bF h_53)])
  exact L_3 (S (13 + 3 * k) 0 + 1) (0) (Nat.zero_le _) (by omega) (fun j h => absurd h (by omega)) _ (lv_sub hl [1, 2, 3, 4, 5, 0] rfl)
set_option maxHeartbeats 4000000 in
set_option maxRecDepth 100000 in
theorem c_X2_leavesWay (l : Launch) {D : va_G} {tys : List (ClassId × FieldType)} {A : Nat → Prop} {ad : Nat → Nat} {cI cW cM : ClassId} {tI tW tM : Nat} {S : Nat → Nat → Nat} (hI : tys[tI]? = some (cI, .int)) (hWt : tys[tW]? = some (cW, .object "CubeWorlds$World")) (hMt : tys[tM]? = some (cM, .array .int)) (hWF : WF S) {k u nn : Nat} {ca cb fa : Nat → Nat} (hk9 : k < 4) (hu9 : u < 4) (e1 : S (13 + 3 * k) 0 = nn) (e2 : S (13 + 3 * k + 1) = ca) (e3 : S (13 + 3 * u) 0 = nn) (e4 : S (13 + 3 * u + 1) = cb) (e5 : S 10 = fa) {O : Nat} {un : Nat → Nat} (e7 : S 12 = un) (hdiv : lbr nn cb = none) (hfit : fitB fa nn = true) (hfa : ∀ i, i < nn → fa i < 2 ^ nn) (hun : ∀ i, i < nn → un i < 2 ^ nn) (hO : O < 2 ^ nn) : Met l yX2_leavesWay wsX2_leavesWay ({ frames := 3, cells := 0, slots := 0, locals := 69 } : Room) (va_Pc [.ref (ad (0)), .ref (ad (13 + 3 * k)), .ref (ad (13 + 3 * u)), .int (nI (O))] (PW D tys A 33 ad (gE cI cW cM ad S))) (QW (some (.int (bI (lvB nn ca cb fa (cpy (tcv nn cb fa un O) (S 11) nn))))) (PW D tys A 33 ad (gE cI cW cM ad (va_up S 11 (cpy (tcv nn cb fa un O) (S 11) nn)))) A) 0 0 A := by
  subst e1
  subst e2
  subst e4
  subst e5
  subst e7
  have qk1 := (hWF.2.1 k hk9).1
  have qk2 := pow4 qk1.2.1
  have e8 : 2 ^ S (13 + 3 * u) 0 = 2 ^ S (13 + 3 * k) 0 := by rw [e3]
  have hcbK := (hWF.2.1 k hk9).2.1
  have hcbU : CB (S (13 + 3 * k) 0) (S (13 + 3 * u + 1)) := e3 ▸ (hWF.2.1 u hu9).2.1
  have h00 := fit_0 hfit qk1.1
  have h01 := fit_f0 hfit qk1.1
  have z0 : ∀ i, i < S (13 + 3 * k) 0 → (cpy (tcv (S (13 + 3 * k) 0) (S (13 + 3 * u + 1)) (S 10) (S 12) O) (S 11) (S (13 + 3 * k) 0)) i < 2 ^ S (13 + 3 * k) 0 := fun i hi => by rw [cpy_in hi]; exact tm_lt hcbU _ _
  refine g_writes (cc := cX2_leavesWay) (maxL := 7) (ret := (some .boolean)) (by decide) rfl (Nat.le_of_ble_eq_true rfl) ?_
  intro p e s m args below meth c hx hb hrt hts hown hlocks hml hP hK hD hS ls hl
  show W p l e ({ frames := 3, cells := 0, slots := 0, locals := 69 } : Room) s m args below meth c s.heap [] 0 0 _ _
  have hl : lv_has ls 7 [(0, .ref (ad (0))), (1, .ref (ad (13 + 3 * k))), (2, .ref (ad (13 + 3 * u))), (3, .int (nI (O)))] := hl
  refine lv_aload_n hx hb dX2_leavesWay_0 rfl (lv_at hl 1 rfl) ?_
  refine g_callV (13 + 3 * k) (C := RX1) (T := TX1) (N := 4) (ci := 0) (As := []) (rest := []) (c_X1_bits l hI (by omega) (gE_W hk9 (hWF.2.1 k hk9))) (cwV 0 hts gX2_leavesWay_X1_bits rfl rfl rfl (by decide +kernel) ⟨Nat.le_of_ble_eq_true rfl, Nat.le_of_ble_eq_true rfl⟩) hx hb hml hown hts hK hP  (by omega) (gE_obj (isO_w hk9)) rfl rfl hl.1 rfl (Nat.le_of_ble_eq_true rfl) (Nat.zero_le _) (Nat.zero_le _) dX2_leavesWay_1 ?_
  refine lv_istore (lv' := [(4, .int (nI (S (13 + 3 * k) 0))), (0, .ref (ad (0))), (1, .ref (ad (13 + 3 * k))), (2, .ref (ad (13 + 3 * u))), (3, .int (nI (O)))]) hx hb dX2_leavesWay_4 hl (by decide) rfl (fun ls hl => ?_)
  have hP : va_P D vwCl (pic 33 ad (gE cI cW cM ad (va_up S 11 (cpy (tcv (S (13 + 3 * k) 0) (S (13 + 3 * u + 1)) (S 10) (S 12) O) (S 11) 0)))) s.heap := by rw [cpy_0, va_up_same rfl]; exact hP
  refine n_iconst 0 hx hb dX2_leavesWay_6 ?_
  refine lv_istore (lv' := [(5, .int (nI (0))), (4, .int (nI (S (13 + 3 * k) 0))), (0, .ref (ad (0))), (1, .ref (ad (13 + 3 * k))), (2, .ref (ad (13 + 3 * u))), (3, .int (nI (O)))]) hx hb dX2_leavesWay_7 hl (by decide) rfl (fun ls hl => ?_)
  have L_9 : ∀ (r : Nat) (i : Nat), (i ≤ S (13 + 3 * k) 0) → (S (13 + 3 * k) 0 < i + r) → ∀ (H : Heap) (locs : List Loc), va_P D vwCl (pic 33 ad (gE cI cW cM ad (va_up S 11 (cpy (tcv (S (13 + 3 * k) 0) (S (13 + 3 * u + 1)) (S 10) (S 12) O) (S 11) i)))) H → va_S A s.heap H locs → ∀ (ls : Array Slot), lv_has ls 7 [(0, .ref (ad (0))), (1, .ref (ad (13 + 3 * k))), (2, .ref (ad (13 + 3 * u))), (3, .int (nI (O))), (4, .int (nI (S (13 + 3 * k) 0))), (5, .int (nI (i)))] → W p l e ({ frames := 3, cells := 0, slots := 0, locals := 69 } : Room) s m args below meth c H locs 0 0 (MQ below (QW (some (.int (bI (lvB ((S (13 + 3 * k) 0)) ((S (13 + 3 * k + 1))) ((S (13 + 3 * u + 1))) ((S 10)) (cpy (tcv ((S (13 + 3 * k) 0)) ((S (13 + 3 * u + 1))) ((S 10)) ((S 12)) O) (S 11) ((S (13 + 3 * k) 0))))))) (PW D tys A 33 ad (gE cI cW cM ad (va_up S 11 (cpy (tcv ((S (13 + 3 * k) 0)) ((S (13 + 3 * u + 1))) ((S 10)) ((S 12)) O) (S 11) ((S (13 + 3 * k) 0)))))) A) args s 0 0 A) (F0 m 9 ls []) := by
    intro r
    induction r with
    | zero => intro i hi hr; intros; exact absurd hr (by omega)
    | succ r ih =>
      intro i hi hr H locs hP hS ls hl
      have ih_9 := ih
      refine lv_iload hx hb dX2_leavesWay_9 (lv_at hl 5 rfl) ?_
      refine lv_iload hx hb dX2_leavesWay_11 (lv_at hl 4 rfl) ?_
      refine n_ge (tgt := 68) hx hb dX2_leavesWay_13 (by decide) (by omega) (by omega) (fun h_13 => ?_) (fun h_13 => ?_)
      · rw [show i = S (13 + 3 * k) 0 by omega] at hP
        refine n_iconst 0 hx hb dX2_leavesWay_68 ?_
        refine lv_istore (lv' := [(5, .int (nI (0))), (0, .ref (ad (0))), (1, .ref (ad (13 + 3 * k))), (2, .ref (ad (13 + 3 * u))), (3, .int (nI (O))), (4, .int (nI (S (13 + 3 * k) 0)))]) hx hb dX2_leavesWay_69 hl (by decide) rfl (fun ls hl => ?_)
        have L_71 : ∀ (r : Nat) (j : Nat), (j ≤ S (13 + 3 * k) 0) → (S (13 + 3 * k) 0 < j + r) → (∀ q, q < j → agB (S (13 + 3 * k) 0) (S (13 + 3 * k + 1)) (S (13 + 3 * u + 1)) (S 10) (cpy (tcv (S (13 + 3 * k) 0) (S (13 + 3 * u + 1)) (S 10) (S 12) O) (S 11) (S (13 + 3 * k) 0)) q (gvn (S (13 + 3 * k) 0) (S (13 + 3 * u + 1)) (S 10 0) (im (cpy (tcv (S (13 + 3 * k) 0) (S (13 + 3 * u + 1)) (S 10) (S 12) O) (S 11) (S (13 + 3 * k) 0)) (tm (S (13 + 3 * k) 0) (S (13 + 3 * k + 1)) 1 (1 <<< q)))) = true) → ∀ (H : Heap) (locs : List Loc), va_P D vwCl (pic 33 ad (gE cI cW cM ad (va_up S 11 (cpy (tcv (S (13 + 3 * k) 0) (S (13 + 3 * u + 1)) (S 10) (S 12) O) (S 11) (S (13 + 3 * k) 0))))) H → va_S A s.heap H locs → ∀ (ls : Array Slot), lv_has ls 7 [(0, .ref (ad (0))), (1, .ref (ad (13 + 3 * k))), (2, .ref (ad (13 + 3 * u))), (3, .int (nI (O))), (4, .int (nI (S (13 + 3 * k) 0))), (5, .int (nI (j)))] → W p l e ({ frames := 3, cells := 0, slots := 0, locals := 69 } : Room) s m args below meth c H locs 0 0 (MQ below (QW (some (.int (bI (lvB ((S (13 + 3 * k) 0)) ((S (13 + 3 * k + 1))) ((S (13 + 3 * u + 1))) ((S 10)) (cpy (tcv ((S (13 + 3 * k) 0)) ((S (13 + 3 * u + 1))) ((S 10)) ((S 12)) O) (S 11) ((S (13 + 3 * k) 0))))))) (PW D tys A 33 ad (gE cI cW cM ad (va_up S 11 (cpy (tcv ((S (13 + 3 * k) 0)) ((S (13 + 3 * u + 1))) ((S 10)) ((S 12)) O) (S 11) ((S (13 + 3 * k) 0)))))) A) args s 0 0 A) (F0 m 71 ls []) := by
          intro r
          induction r with
          | zero => intro j hj hr2 hno; intros; exact absurd hr2 (by omega)
          | succ r ih =>
            intro j hj hr2 hno H locs hP hS ls hl
            have ih_71 := ih
            refine lv_iload hx hb dX2_leavesWay_71 (lv_at hl 5 rfl) ?_
            refine lv_iload hx hb dX2_leavesWay_73 (lv_at hl 4 rfl) ?_
            refine n_ge (tgt := 128) hx hb dX2_leavesWay_75 (by decide) (by omega) (by omega) (fun h_75 => ?_) (fun h_75 => ?_)
            · refine n_iconst 1 hx hb dX2_leavesWay_128 ?_
              exact g_zretW (true) hx hb hrt hlocks hK hP (pic_D _ hD) hS dX2_leavesWay_129 rfl (by rw [show lvB _ _ _ (S 10) (cpy (tcv (S (13 + 3 * k) 0) (S (13 + 3 * u + 1)) (S 10) (S 12) O) (S 11) (S (13 + 3 * k) 0)) = true from al_yes (fun q hq => hno q (by omega))])
            · have s1 := shl1_lt (k := j) (n := S (13 + 3 * k) 0) (by omega)
              have p1 := shl1_lt (k := 0) (n := S (13 + 3 * k) 0) (by omega)
              have t1 := tm_lt hcbK 1 (1 <<< j)
              have z1 : im (cpy (tcv (S (13 + 3 * k) 0) (S (13 + 3 * u + 1)) (S 10) (S 12) O) (S 11) (S (13 + 3 * k) 0)) (tm (S (13 + 3 * k) 0) (S (13 + 3 * k + 1)) 1 (1 <<< j)) < 2 ^ S (13 + 3 * k) 0 := im_lt t1 z0
              have z2 := (gvn_ok hdiv hcbU h00 h01 z1).1
              refine lv_aload_n hx hb dX2_leavesWay_78 rfl (lv_at hl 2 rfl) ?_
              refine lv_aload_n hx hb dX2_leavesWay_79 rfl (lv_at hl 0 rfl) ?_
              refine g_get (0) 4 (C := RX2) (T := TX2) (N := 7) (ci := 1) (ref := "CubeWorlds") hx hb hts (by decide +kernel) hown hK hP (by decide) rfl rfl (by decide) (by decide +kernel) rfl rfl dX2_leavesWay_80 ?_
              refine n_iconst 0 hx hb dX2_leavesWay_83 ?_
              refine g_iald (10) (0) (t0 := _) hx hb hK hP (by decide) (gIX (S' := va_up S 11 (cpy (tcv (S (13 + 3 * k) 0) (S (13 + 3 * u + 1)) (S 10) (S 12) O) (S 11) (S (13 + 3 * k) 0))) 10 4 rfl (by decide) (by exact va_up_o (by decide))) hI (by decide) (by decide) dX2_leavesWay_84 ?_
              refine lv_aload_n hx hb dX2_leavesWay_85 rfl (lv_at hl 0 rfl) ?_
              refine g_get (0) 5 (C := RX2) (T := TX2) (N := 7) (ci := 1) (ref := "CubeWorlds") hx hb hts (by decide +kernel) hown hK hP (by decide) rfl rfl (by decide) (by decide +kernel) rfl rfl dX2_leavesWay_86 ?_
              refine lv_aload_n hx hb dX2_leavesWay_89 rfl (lv_at hl 1 rfl) ?_
              refine n_iconst 1 hx hb dX2_leavesWay_90 ?_
              refine n_iconst 1 hx hb dX2_leavesWay_91 ?_
              refine lv_iload hx hb dX2_leavesWay_92 (lv_at hl 5 rfl) ?_
              refine n_ishl hx hb dX2_leavesWay_94 (by omega) ?_
              refine g_callV (13 + 3 * k) (C := RX1) (T := TX1) (N := 4) (ci := 0) (As := [.int (nI (1)), .int (nI (1 <<< j))]) (rest := [.ref (ad (11)), .int (nI ((S 10) (0))), .ref (ad (13 + 3 * u))]) (c_X1_times l hI (by omega) (gE_WS (S' := va_up S 11 (cpy (tcv (S (13 + 3 * k) 0) (S (13 + 3 * u + 1)) (S 10) (S 12) O) (S 11) (S (13 + 3 * k) 0))) hk9 (hWF.2.1 k hk9) (by repeat rw [va_up_o (by omega)]) (by repeat rw [va_up_o (by omega)]) (by repeat rw [va_up_o (by omega)])) (X := 1) (Y := 1 <<< j) (hWF.2.1 k hk9).2.2 (hWF.2.1 k hk9).1.2.1 (by omega) (by omega)) (cwV 2 hts gX2_leavesWay_X1_times rfl rfl rfl (by decide +kernel) ⟨Nat.le_of_ble_eq_true rfl, Nat.le_of_ble_eq_true rfl⟩) hx hb hml hown hts hK hP  (by omega) (gE_obj (isO_w hk9)) rfl rfl hl.1 rfl (Nat.le_of_ble_eq_true rfl) (Nat.zero_le _) (Nat.zero_le _) dX2_leavesWay_95 ?_
              refine g_callS (As := [.ref (ad (11)), .int (nI (tm (S (13 + 3 * k) 0) (S (13 + 3 * k + 1)) 1 (1 <<< j)))]) (rest := [.int (nI ((S 10) (0))), .ref (ad (13 + 3 * u))]) (c_X2_sumOf l hI (rI := 11) (f := cpy (tcv (S (13 + 3 * k) 0) (S (13 + 3 * u + 1)) (S 10) (S 12) O) (S 11) (S (13 + 3 * k) 0)) (by decide) (gIX 11 4 rfl (by decide) (va_up_at _ _ _)) (X := tm (S (13 + 3 * k) 0) (S (13 + 3 * k + 1)) 1 (1 <<< j)) (by omega)) (va_cwS 2 hts gX2_leavesWay_X2_sumOf rfl rfl rfl (by decide +kernel) ⟨Nat.le_of_ble_eq_true rfl, Nat.le_of_ble_eq_true rfl⟩) hx hb hml hown hts hK hP  rfl hl.1 rfl (Nat.le_of_ble_eq_true rfl) (Nat.zero_le _) (Nat.zero_le _) dX2_leavesWay_98 ?_
              refine n_iconst 1 hx hb dX2_leavesWay_101 ?_
              refine g_callV (13 + 3 * u) (C := RX1) (T := TX1) (N := 4) (ci := 0) (As := [.int (nI ((S 10) (0))), .int (nI (im (cpy (tcv (S (13 + 3 * k) 0) (S (13 + 3 * u + 1)) (S 10) (S 12) O) (S 11) (S (13 + 3 * k) 0)) (tm (S (13 + 3 * k) 0) (S (13 + 3 * k + 1)) 1 (1 <<< j)))), .int (nI (1))]) (rest := []) (c_X1_solve l hI (by omega) (gE_WS (S' := va_up S 11 (cpy (tcv (S (13 + 3 * k) 0) (S (13 + 3 * u + 1)) (S 10) (S 12) O) (S 11) (S (13 + 3 * k) 0))) hu9 (hWF.2.1 u hu9) (by repeat rw [va_up_o (by omega)]) (by repeat rw [va_up_o (by omega)]) (by repeat rw [va_up_o (by omega)])) (X := S 10 0) (Z := im (cpy (tcv (S (13 + 3 * k) 0) (S (13 + 3 * u + 1)) (S 10) (S 12) O) (S 11) (S (13 + 3 * k) 0)) (tm (S (13 + 3 * k) 0) (S (13 + 3 * k + 1)) 1 (1 <<< j))) (L := true) (hWF.2.1 u hu9).2.2 (hWF.2.1 u hu9).1.2.1 (hWF.2.1 u hu9).2.1 (by omega) (by omega)) (cwV 3 hts gX2_leavesWay_X1_solve rfl rfl rfl (by decide +kernel) ⟨Nat.le_of_ble_eq_true rfl, Nat.le_of_ble_eq_true rfl⟩) hx hb hml hown hts hK hP  (by omega) (gE_obj (isO_w hu9)) rfl rfl hl.1 rfl (Nat.le_of_ble_eq_true rfl) (Nat.zero_le _) (Nat.zero_le _) dX2_leavesWay_102 ?_
              refine n_eq (show oI (slv (S (13 + 3 * u) 0) (S (13 + 3 * u + 1)) (S 10 0) (im (cpy (tcv (S (13 + 3 * k) 0) (S (13 + 3 * u + 1)) (S 10) (S 12) O) (S 11) (S (13 + 3 * k) 0)) (tm (S (13 + 3 * k) 0) (S (13 + 3 * k + 1)) 1 (1 <<< j))) true) = nI (gvn (S (13 + 3 * k) 0) (S (13 + 3 * u + 1)) (S 10 0) (im (cpy (tcv (S (13 + 3 * k) 0) (S (13 + 3 * u + 1)) (S 10) (S 12) O) (S 11) (S (13 + 3 * k) 0)) (tm (S (13 + 3 * k) 0) (S (13 + 3 * k + 1)) 1 (1 <<< j)))) from by rw [e3]; exact oI_get (by obtain ⟨g0, hg0, _⟩ := div_slv hdiv hcbU h00 h01 z1 true; exact ⟨g0, hg0⟩)) ?_
              refine lv_istore (lv' := [(6, .int (nI (gvn (S (13 + 3 * k) 0) (S (13 + 3 * u + 1)) (S 10 0) (im (cpy (tcv (S (13 + 3 * k) 0) (S (13 + 3 * u + 1)) (S 10) (S 12) O) (S 11) (S (13 + 3 * k) 0)) (tm (S (13 + 3 * k) 0) (S (13 + 3 * k + 1)) 1 (1 <<< j)))))), (0, .ref (ad (0))), (1, .ref (ad (13 + 3 * k))), (2, .ref (ad (13 + 3 * u))), (3, .int (nI (O))), (4, .int (nI (S (13 + 3 * k) 0))), (5, .int (nI (j)))]) hx hb dX2_leavesWay_105 hl (by decide) rfl (fun ls hl => ?_)
              refine lv_aload_n hx hb dX2_leavesWay_107 rfl (lv_at hl 1 rfl) ?_
              refine lv_aload_n hx hb dX2_leavesWay_108 rfl (lv_at hl 2 rfl) ?_
              refine lv_aload_n hx hb dX2_leavesWay_109 rfl (lv_at hl 3 rfl) ?_
              refine lv_iload hx hb dX2_leavesWay_110 (lv_at hl 6 rfl) ?_
              refine lv_iload hx hb dX2_leavesWay_112 (lv_at hl 0 rfl) ?_
              refine g_callV (0) (C := RX2) (T := TX2) (N := 7) (ci := 1) (As := [.ref (ad (13 + 3 * k)), .ref (ad (13 + 3 * u)), .int (nI (j)), .int (nI (gvn (S (13 + 3 * k) 0) (S (13 + 3 * u + 1)) (S 10 0) (im (cpy (tcv (S (13 + 3 * k) 0) (S (13 + 3 * u + 1)) (S 10) (S 12) O) (S 11) (S (13 + 3 * k) 0)) (tm (S (13 + 3 * k) 0) (S (13 + 3 * k + 1)) 1 (1 <<< j)))))]) (rest := []) (c_X2_agrees l hI hWt hMt (WF_x hWF (fun i hi => va_up_o (by omega))) (S := va_up S 11 (cpy (tcv (S (13 + 3 * k) 0) (S (13 + 3 * u + 1)) (S 10) (S 12) O) (S 11) (S (13 + 3 * k) 0))) (J := j) (G := gvn (S (13 + 3 * k) 0) (S (13 + 3 * u + 1)) (S 10 0) (im (cpy (tcv (S (13 + 3 * k) 0) (S (13 + 3 * u + 1)) (S 10) (S 12) O) (S 11) (S (13 + 3 * k) 0)) (tm (S (13 + 3 * k) 0) (S (13 + 3 * k + 1)) 1 (1 <<< j)))) hk9 hu9 (by rw [va_up_o (by omega)]) (va_up_o (by omega)) (by rw [va_up_o (by omega)]; exact e3) (va_up_o (by omega)) (va_up_o (by decide)) (va_up_at _ _ _) (by omega) z2 hfa z0) (cwV 4 hts gX2_leavesWay_X2_agrees rfl rfl rfl (by decide +kernel) ⟨Nat.le_of_ble_eq_true rfl, Nat.le_of_ble_eq_true rfl⟩) hx hb hml hown hts hK hP  (by decide) rfl rfl rfl hl.1 rfl (Nat.le_of_ble_eq_true rfl) (Nat.zero_le _) (Nat.zero_le _) dX2_leavesWay_114 ?_
              refine n_ifne_b (tgt := 122) hx hb dX2_leavesWay_117 (by decide) (fun h_117 => ?_) (fun h_117 => ?_)
              · refine n_iinc 6 1 (lv' := [(5, .int (nI (j + 1))), (6, .int (nI (gvn (S (13 + 3 * k) 0) (S (13 + 3 * u + 1)) (S 10 0) (im (cpy (tcv (S (13 + 3 * k) 0) (S (13 + 3 * u + 1)) (S 10) (S 12) O) (S 11) (S (13 + 3 * k) 0)) (tm (S (13 + 3 * k) 0) (S (13 + 3 * k + 1)) 1 (1 <<< j)))))), (0, .ref (ad (0))), (1, .ref (ad (13 + 3 * k))), (2, .ref (ad (13 + 3 * u))), (3, .int (nI (O))), (4, .int (nI (S (13 + 3 * k) 0)))]) hx hb dX2_leavesWay_122 hl rfl (by decide) rfl (fun ls hl => ?_)
                refine n_goto 71 hx hb dX2_leavesWay_125 (by decide) ?_
                exact ih_71 (j + 1) (by omega) (by omega) (ya_s hno h_117) _ _ hP hS _ (lv_sub hl [2, 3, 4, 5, 6, 0] rfl)
              · refine n_iconst 0 hx hb dX2_leavesWay_120 ?_
                exact g_zretW (false) hx hb hrt hlocks hK hP (pic_D _ hD) hS dX2_leavesWay_121 rfl (by rw [show lvB _ _ _ (S 10) (cpy (tcv (S (13 + 3 * k) 0) (S (13 + 3 * u + 1)) (S 10) (S 12) O) (S 11) (S (13 + 3 * k) 0)) = false from al_no (k := j) (by omega) h_117])
        exact L_71 (S (13 + 3 * k) 0 + 1) (0) (Nat.zero_le _) (by omega) (fun j h => absurd h (by omega)) _ _ hP hS _ (lv_sub hl [1, 2, 3, 4, 5, 0] rfl)
      · refine lv_iload hx hb dX2_leavesWay_16 (lv_at hl 5 rfl) ?_
        refine lv_aload_n hx hb dX2_leavesWay_18 rfl (lv_at hl 0 rfl) ?_
        refine g_get (0) 5 (C := RX2) (T := TX2) (N := 7) (ci := 1) (ref := "CubeWorlds") hx hb hts (by decide +kernel) hown hK hP (by decide) rfl rfl (by decide) (by decide +kernel) rfl rfl dX2_leavesWay_19 ?_
        refine g_alen (11) hx hb hK hP (by decide) (gIX (S' := va_up S 11 (cpy (tcv (S (13 + 3 * k) 0) (S (13 + 3 * u + 1)) (S 10) (S 12) O) (S 11) i)) 11 4 rfl (by decide) (by exact va_up_at _ _ _)) hI dX2_leavesWay_22 ?_
        refine n_ge (tgt := 68) hx hb dX2_leavesWay_23 (by decide) (by omega) (by omega) (fun h_23 => ?_) (fun h_23 => ?_)
        · exact absurd h_23 (by omega)
        · refine lv_iload hx hb dX2_leavesWay_26 (lv_at hl 5 rfl) ?_
          refine lv_aload_n hx hb dX2_leavesWay_28 rfl (lv_at hl 0 rfl) ?_
          refine g_get (0) 6 (C := RX2) (T := TX2) (N := 7) (ci := 1) (ref := "CubeWorlds") hx hb hts (by decide +kernel) hown hK hP (by decide) rfl rfl (by decide) (by decide +kernel) rfl rfl dX2_leavesWay_29 ?_
          refine g_alen (12) hx hb hK hP (by decide) (gIX (S' := va_up S 11 (cpy (tcv (S (13 + 3 * k) 0) (S (13 + 3 * u + 1)) (S 10) (S 12) O) (S 11) i)) 12 4 rfl (by decide) (by exact va_up_o (by decide))) hI dX2_leavesWay_32 ?_
          refine n_ge (tgt := 68) hx hb dX2_leavesWay_33 (by decide) (by omega) (by omega) (fun h_33 => ?_) (fun h_33 => ?_)
          · exact absurd h_33 (by omega)
          · have y1 := hun i (by omega)
            have y2 := fit_lt hfit y1
            refine lv_aload_n hx hb dX2_leavesWay_36 rfl (lv_at hl 0 rfl) ?_
            refine g_get (0) 5 (C := RX2) (T := TX2) (N := 7) (ci := 1) (ref := "CubeWorlds") hx hb hts (by decide +kernel) hown hK hP (by decide) rfl rfl (by decide) (by decide +kernel) rfl rfl dX2_leavesWay_37 ?_
            refine lv_iload hx hb dX2_leavesWay_40 (lv_at hl 5 rfl) ?_
            refine lv_aload_n hx hb dX2_leavesWay_42 rfl (lv_at hl 2 rfl) ?_
            refine lv_aload_n hx hb dX2_leavesWay_43 rfl (lv_at hl 0 rfl) ?_
            refine g_get (0) 4 (C := RX2) (T := TX2) (N := 7) (ci := 1) (ref := "CubeWorlds") hx hb hts (by decide +kernel) hown hK hP (by decide) rfl rfl (by decide) (by decide +kernel) rfl rfl dX2_leavesWay_44 ?_
            refine lv_aload_n hx hb dX2_leavesWay_47 rfl (lv_at hl 0 rfl) ?_
            refine g_get (0) 6 (C := RX2) (T := TX2) (N := 7) (ci := 1) (ref := "CubeWorlds") hx hb hts (by decide +kernel) hown hK hP (by decide) rfl rfl (by decide) (by decide +kernel) rfl rfl dX2_leavesWay_48 ?_
            refine lv_iload hx hb dX2_leavesWay_51 (lv_at hl 5 rfl) ?_
            refine g_iald (12) (i) (t0 := _) hx hb hK hP (by decide) (gIX (S' := va_up S 11 (cpy (tcv (S (13 + 3 * k) 0) (S (13 + 3 * u + 1)) (S 10) (S 12) O) (S 11) i)) 12 4 rfl (by decide) (by exact va_up_o (by decide))) hI (by omega) (by decide) dX2_leavesWay_53 ?_
            refine g_callS (As := [.ref (ad (10)), .int (nI ((S 12) (i)))]) (rest := [.ref (ad (13 + 3 * u)), .int (nI (i)), .ref (ad (11))]) (c_X2_sumOf l hI (rI := 10) (f := S 10) (by decide) (gIX 10 4 rfl (by decide) (va_up_o (by decide))) (X := (S 12) (i)) (by omega)) (va_cwS 2 hts gX2_leavesWay_X2_sumOf rfl rfl rfl (by decide +kernel) ⟨Nat.le_of_ble_eq_true rfl, Nat.le_of_ble_eq_true rfl⟩) hx hb hml hown hts hK hP  rfl hl.1 rfl (Nat.le_of_ble_eq_true rfl) (Nat.zero_le _) (Nat.zero_le _) dX2_leavesWay_54 ?_
            refine lv_iload_n hx hb dX2_leavesWay_57 rfl (lv_at hl 3 rfl) ?_
            refine g_callV (13 + 3 * u) (C := RX1) (T := TX1) (N := 4) (ci := 0) (As := [.int (nI (im (S 10) ((S 12) (i)))), .int (nI (O))]) (rest := [.int (nI (i)), .ref (ad (11))]) (c_X1_times l hI (by omega) (gE_WS (S' := va_up S 11 (cpy (tcv (S (13 + 3 * k) 0) (S (13 + 3 * u + 1)) (S 10) (S 12) O) (S 11) i)) hu9 (hWF.2.1 u hu9) (by repeat rw [va_up_o (by omega)]) (by repeat rw [va_up_o (by omega)]) (by repeat rw [va_up_o (by omega)])) (X := im (S 10) ((S 12) (i))) (Y := O) (hWF.2.1 u hu9).2.2 (hWF.2.1 u hu9).1.2.1 (by omega) (by omega)) (cwV 2 hts gX2_leavesWay_X1_times rfl rfl rfl (by decide +kernel) ⟨Nat.le_of_ble_eq_true rfl, Nat.le_of_ble_eq_true rfl⟩) hx hb hml hown hts hK hP  (by omega) (gE_obj (isO_w hu9)) rfl rfl hl.1 rfl (Nat.le_of_ble_eq_true rfl) (Nat.zero_le _) (Nat.zero_le _) dX2_leavesWay_58 ?_
            refine n_eq (show nI (tm (S (13 + 3 * u) 0) (S (13 + 3 * u + 1)) (im (S 10) ((S 12) (i))) O) = nI (tm (S (13 + 3 * k) 0) (S (13 + 3 * u + 1)) (im (S 10) ((S 12) (i))) O) from by rw [e3]) ?_
            refine n_eq (show nI (tm (S (13 + 3 * k) 0) (S (13 + 3 * u + 1)) (im (S 10) ((S 12) (i))) O) = nI (tcv (S (13 + 3 * k) 0) (S (13 + 3 * u + 1)) (S 10) (S 12) O i) from rfl) ?_
            refine g_iast (11) (i) (tcv (S (13 + 3 * k) 0) (S (13 + 3 * u + 1)) (S 10) (S 12) O i) hx hb hK hP (pic_D _ hD) hS (by decide) (gIX (S' := va_up S 11 (cpy (tcv (S (13 + 3 * k) 0) (S (13 + 3 * u + 1)) (S 10) (S 12) O) (S 11) i)) 11 4 rfl (by decide) (by exact va_up_at _ _ _)) hI (by omega) (by decide) dX2_leavesWay_61 (fun H locs hP hS => ?_)
            rw [gE_upL 11 4 rfl (by decide), va_up_up, cpy_put] at hP
            refine n_iinc 5 1 (lv' := [(5, .int (nI (i + 1))), (0, .ref (ad (0))), (1, .ref (ad (13 + 3 * k))), (2, .ref (ad (13 + 3 * u))), (3, .int (nI (O))), (4, .int (nI (S (13 + 3 * k) 0)))]) hx hb dX2_leavesWay_62 hl rfl (by decide) rfl (fun ls hl => ?_)
            refine n_goto 9 hx hb dX2_leavesWay_65 (by decide) ?_
            exact ih_9 (i + 1) (by omega) (by omega) _ _ hP hS _ (lv_sub hl [1, 2, 3, 4, 5, 0] rfl)
  exact L_9 (S (13 + 3 * k) 0 + 1) (0) (Nat.zero_le _) (by omega) _ _ hP hS _ (lv_sub hl [2, 3, 4, 5, 1, 0] rfl)
set_option maxHeartbeats 4000000 in
set_option maxRecDepth 100000 in
theorem c_X2_countWays (l : Launch) {D : va_G} {tys : List (ClassId × FieldType)} {A : Nat → Prop} {ad : Nat → Nat} {cI cW cM : ClassId} {tI tW tM : Nat} {S : Nat → Nat → Nat} (hI : tys[tI]? = some (cI, .int)) (hWt : tys[tW]? = some (cW, .object "CubeWorlds$World")) (hMt : tys[tM]? = some (cM, .array .int)) (hWF : WF S) {k u nn : Nat} {ca cb : Nat → Nat} (hk9 : k < 4) (hu9 : u < 4) (e1 : S (13 + 3 * k) 0 = nn) (e2 : S (13 + 3 * k + 1) = ca) (e3 : S (13 + 3 * u) 0 = nn) (e4 : S (13 + 3 * u + 1) = cb) (hn3 : nn ≤ 3) (hda : lbr nn ca = none) (hdb : lbr nn cb = none) : Met l yX2_countWays wsX2_countWays ({ frames := 4, cells := 0, slots := 0, locals := 95 } : Room) (va_Pc [.ref (ad (0)), .ref (ad (13 + 3 * k)), .ref (ad (13 + 3 * u))] (PW D tys A 33 ad (gE cI cW cM ad S))) (QW (some (.int (nI (cwT nn ca cb)))) (PW D tys A 33 ad (gE cI cW cM ad (wO nn cb (wU nn ca S) (2 ^ (nn * nn))))) A) 0 0 A := by
  subst e1
  subst e2
  subst e4
  have qk1 := (hWF.2.1 k hk9).1
  have qk2 := pow4 qk1.2.1
  have e8 : 2 ^ S (13 + 3 * u) 0 = 2 ^ S (13 + 3 * k) 0 := by rw [e3]
  have hcbK := (hWF.2.1 k hk9).2.1
  have hcbU : CB (S (13 + 3 * k) 0) (S (13 + 3 * u + 1)) := e3 ▸ (hWF.2.1 u hu9).2.1
  have hn9 := n9 hn3
  have hp9 : 2 ^ (S (13 + 3 * k) 0 * S (13 + 3 * k) 0) ≤ 512 := Nat.le_trans (pw2 hn9) (by decide)
  refine g_writes (cc := cX2_countWays) (maxL := 7) (ret := (some .int)) (by decide) rfl (Nat.le_of_ble_eq_true rfl) ?_
  intro p e s m args below meth c hx hb hrt hts hown hlocks hml hP hK hD hS ls hl
  show W p l e ({ frames := 4, cells := 0, slots := 0, locals := 95 } : Room) s m args below meth c s.heap [] 0 0 _ _
  have hl : lv_has ls 7 [(0, .ref (ad (0))), (1, .ref (ad (13 + 3 * k))), (2, .ref (ad (13 + 3 * u)))] := hl
  refine lv_aload_n hx hb dX2_countWays_0 rfl (lv_at hl 1 rfl) ?_
  refine g_callV (13 + 3 * k) (C := RX1) (T := TX1) (N := 4) (ci := 0) (As := []) (rest := []) (c_X1_bits l hI (by omega) (gE_W hk9 (hWF.2.1 k hk9))) (cwV 0 hts gX2_countWays_X1_bits rfl rfl rfl (by decide +kernel) ⟨Nat.le_of_ble_eq_true rfl, Nat.le_of_ble_eq_true rfl⟩) hx hb hml hown hts hK hP  (by omega) (gE_obj (isO_w hk9)) rfl rfl hl.1 rfl (Nat.le_of_ble_eq_true rfl) (Nat.zero_le _) (Nat.zero_le _) dX2_countWays_1 ?_
  refine lv_istore_n (lv' := [(3, .int (nI (S (13 + 3 * k) 0))), (0, .ref (ad (0))), (1, .ref (ad (13 + 3 * k))), (2, .ref (ad (13 + 3 * u)))]) hx hb dX2_countWays_4 rfl hl (by decide) rfl (fun ls hl => ?_)
  have hP : va_P D vwCl (pic 33 ad (gE cI cW cM ad (va_up S 12 (cpy (unw (S (13 + 3 * k) 0) (S (13 + 3 * k + 1))) (S 12) 0)))) s.heap := by rw [cpy_0, va_up_same rfl]; exact hP
  refine n_iconst 0 hx hb dX2_countWays_5 ?_
  refine lv_istore (lv' := [(4, .int (nI (0))), (3, .int (nI (S (13 + 3 * k) 0))), (0, .ref (ad (0))), (1, .ref (ad (13 + 3 * k))), (2, .ref (ad (13 + 3 * u)))]) hx hb dX2_countWays_6 hl (by decide) rfl (fun ls hl => ?_)
  have L_8 : ∀ (r : Nat) (i : Nat), (i ≤ S (13 + 3 * k) 0) → (S (13 + 3 * k) 0 < i + r) → ∀ (H : Heap) (locs : List Loc), va_P D vwCl (pic 33 ad (gE cI cW cM ad (va_up S 12 (cpy (unw (S (13 + 3 * k) 0) (S (13 + 3 * k + 1))) (S 12) i)))) H → va_S A s.heap H locs → ∀ (ls : Array Slot), lv_has ls 7 [(0, .ref (ad (0))), (1, .ref (ad (13 + 3 * k))), (2, .ref (ad (13 + 3 * u))), (3, .int (nI (S (13 + 3 * k) 0))), (4, .int (nI (i)))] → W p l e ({ frames := 4, cells := 0, slots := 0, locals := 95 } : Room) s m args below meth c H locs 0 0 (MQ below (QW (some (.int (nI (cwT ((S (13 + 3 * k) 0)) ((S (13 + 3 * k + 1))) ((S (13 + 3 * u + 1))))))) (PW D tys A 33 ad (gE cI cW cM ad (wO ((S (13 + 3 * k) 0)) ((S (13 + 3 * u + 1))) (wU ((S (13 + 3 * k) 0)) ((S (13 + 3 * k + 1))) S) (2 ^ (((S (13 + 3 * k) 0)) * ((S (13 + 3 * k) 0))))))) A) args s 0 0 A) (F0 m 8 ls []) := by
    intro r
    induction r with
    | zero => intro i hi hr; intros; exact absurd hr (by omega)
    | succ r ih =>
      intro i hi hr H locs hP hS ls hl
      have ih_8 := ih
      refine lv_iload hx hb dX2_countWays_8 (lv_at hl 4 rfl) ?_
      refine lv_iload_n hx hb dX2_countWays_10 rfl (lv_at hl 3 rfl) ?_
      refine n_ge (tgt := 47) hx hb dX2_countWays_11 (by decide) (by omega) (by omega) (fun h_11 => ?_) (fun h_11 => ?_)
      · rw [show i = S (13 + 3 * k) 0 by omega] at hP
        have hP : va_P D vwCl (pic 33 ad (gE cI cW cM ad (wO (S (13 + 3 * k) 0) (S (13 + 3 * u + 1)) (wU (S (13 + 3 * k) 0) (S (13 + 3 * k + 1)) S) 0))) H := hP
        refine n_iconst 0 hx hb dX2_countWays_47 ?_
        refine lv_istore (lv' := [(4, .int (nI (0))), (0, .ref (ad (0))), (1, .ref (ad (13 + 3 * k))), (2, .ref (ad (13 + 3 * u))), (3, .int (nI (S (13 + 3 * k) 0)))]) hx hb dX2_countWays_48 hl (by decide) rfl (fun ls hl => ?_)
        refine n_iconst 0 hx hb dX2_countWays_50 ?_
        refine lv_istore (lv' := [(5, .int (nI (0))), (4, .int (nI (0))), (0, .ref (ad (0))), (1, .ref (ad (13 + 3 * k))), (2, .ref (ad (13 + 3 * u))), (3, .int (nI (S (13 + 3 * k) 0)))]) hx hb dX2_countWays_51 hl (by decide) rfl (fun ls hl => ?_)
        have L_53 : ∀ (r : Nat) (acc : Nat) (C : Nat), (C ≤ 2 ^ (S (13 + 3 * k) 0 * S (13 + 3 * k) 0)) → (2 ^ (S (13 + 3 * k) 0 * S (13 + 3 * k) 0) < C + r) → (acc = sm (cwG (S (13 + 3 * k) 0) (S (13 + 3 * k + 1)) (S (13 + 3 * u + 1))) C) → ∀ (H : Heap) (locs : List Loc), va_P D vwCl (pic 33 ad (gE cI cW cM ad (wO (S (13 + 3 * k) 0) (S (13 + 3 * u + 1)) (wU (S (13 + 3 * k) 0) (S (13 + 3 * k + 1)) S) C))) H → va_S A s.heap H locs → ∀ (ls : Array Slot), lv_has ls 7 [(0, .ref (ad (0))), (1, .ref (ad (13 + 3 * k))), (2, .ref (ad (13 + 3 * u))), (3, .int (nI (S (13 + 3 * k) 0))), (4, .int (nI (acc))), (5, .int (nI (C)))] → W p l e ({ frames := 4, cells := 0, slots := 0, locals := 95 } : Room) s m args below meth c H locs 0 0 (MQ below (QW (some (.int (nI (cwT ((S (13 + 3 * k) 0)) ((S (13 + 3 * k + 1))) ((S (13 + 3 * u + 1))))))) (PW D tys A 33 ad (gE cI cW cM ad (wO ((S (13 + 3 * k) 0)) ((S (13 + 3 * u + 1))) (wU ((S (13 + 3 * k) 0)) ((S (13 + 3 * k + 1))) S) (2 ^ (((S (13 + 3 * k) 0)) * ((S (13 + 3 * k) 0))))))) A) args s 0 0 A) (F0 m 53 ls []) := by
          intro r
          induction r with
          | zero => intro acc C hc1 hr ha; intros; exact absurd hr (by omega)
          | succ r ih =>
            intro acc C hc1 hr ha H locs hP hS ls hl
            have ih_53 := ih
            refine lv_iload hx hb dX2_countWays_53 (lv_at hl 5 rfl) ?_
            refine n_iconst 1 hx hb dX2_countWays_55 ?_
            refine lv_iload_n hx hb dX2_countWays_56 rfl (lv_at hl 3 rfl) ?_
            refine lv_iload_n hx hb dX2_countWays_57 rfl (lv_at hl 3 rfl) ?_
            refine n_imul hx hb dX2_countWays_58 ?_
            refine n_ishl hx hb dX2_countWays_59 (by omega) ?_
            refine n_eq (show nI (1 <<< ((S (13 + 3 * k) 0) * (S (13 + 3 * k) 0))) = nI (2 ^ (S (13 + 3 * k) 0 * S (13 + 3 * k) 0)) from by rw [shl1]) ?_
            refine n_ge (tgt := 122) hx hb dX2_countWays_60 (by decide) (by omega) (by omega) (fun h_60 => ?_) (fun h_60 => ?_)
            · rw [show C = 2 ^ (S (13 + 3 * k) 0 * S (13 + 3 * k) 0) by omega] at hP
              refine lv_iload hx hb dX2_countWays_122 (lv_at hl 4 rfl) ?_
              exact g_iretW hx hb hrt hlocks hK hP (pic_D _ hD) hS dX2_countWays_124 (by rw [ha, show C = 2 ^ (S (13 + 3 * k) 0 * S (13 + 3 * k) 0) by omega]; rfl)
            · have hp7 : 0 < 2 ^ S (13 + 3 * k) 0 := Nat.pow_pos (by decide)
              refine lv_aload_n hx hb dX2_countWays_63 rfl (lv_at hl 0 rfl) ?_
              refine g_get (0) 4 (C := RX2) (T := TX2) (N := 7) (ci := 1) (ref := "CubeWorlds") hx hb hts (by decide +kernel) hown hK hP (by decide) rfl rfl (by decide) (by decide +kernel) rfl rfl dX2_countWays_64 ?_
              refine lv_iload hx hb dX2_countWays_67 (lv_at hl 5 rfl) ?_
              refine lv_iload_n hx hb dX2_countWays_69 rfl (lv_at hl 3 rfl) ?_
              refine g_callSW (As := [.ref (ad (10)), .int (nI (C)), .int (nI (S (13 + 3 * k) 0))]) (rest := []) (c_X2_readRow l hI hWt hMt (WF_x hWF (fun i hi => wO_u (by omega))) (S := wO (S (13 + 3 * k) 0) (S (13 + 3 * u + 1)) (wU (S (13 + 3 * k) 0) (S (13 + 3 * k + 1)) S) C) (C0 := C) (N := S (13 + 3 * k) 0) (by omega) (by omega)) (va_cwS 3 hts gX2_countWays_X2_readRow rfl rfl rfl (by decide +kernel) ⟨Nat.le_of_ble_eq_true rfl, Nat.le_of_ble_eq_true rfl⟩) hx hb hml hown hts hK hP (pic_D _ hD) hS  rfl hl.1 rfl (Nat.le_of_ble_eq_true rfl) (Nat.zero_le _) (Nat.zero_le _) dX2_countWays_70 (fun H locs hP hS => ?_)
              have hP : va_P D vwCl (pic 33 ad (gE cI cW cM ad (wR (S (13 + 3 * k) 0) C (wO (S (13 + 3 * k) 0) (S (13 + 3 * u + 1)) (wU (S (13 + 3 * k) 0) (S (13 + 3 * k + 1)) S) C)))) H := hP
              refine lv_aload_n hx hb dX2_countWays_73 rfl (lv_at hl 0 rfl) ?_
              refine g_get (0) 4 (C := RX2) (T := TX2) (N := 7) (ci := 1) (ref := "CubeWorlds") hx hb hts (by decide +kernel) hown hK hP (by decide) rfl rfl (by decide) (by decide +kernel) rfl rfl dX2_countWays_74 ?_
              refine lv_iload_n hx hb dX2_countWays_77 rfl (lv_at hl 3 rfl) ?_
              refine g_callS (As := [.ref (ad (10)), .int (nI (S (13 + 3 * k) 0))]) (rest := []) (c_X2_isFit l hI (rI := 10) (f := (wR (S (13 + 3 * k) 0) C (wO (S (13 + 3 * k) 0) (S (13 + 3 * u + 1)) (wU (S (13 + 3 * k) 0) (S (13 + 3 * k + 1)) S) C)) 10) (by decide) (gI (S := wR (S (13 + 3 * k) 0) C (wO (S (13 + 3 * k) 0) (S (13 + 3 * u + 1)) (wU (S (13 + 3 * k) 0) (S (13 + 3 * k + 1)) S) C)) 10 4 rfl (by decide)) (nn := S (13 + 3 * k) 0) (by omega) (fun x hx => im_lt (m := 4) hx (fun i hi => by rw [wR_10 hi]; exact Nat.lt_of_lt_of_le (rrV_lt C _ i) (pw2 (by omega))))) (va_cwS 2 hts gX2_countWays_X2_isFit rfl rfl rfl (by decide +kernel) ⟨Nat.le_of_ble_eq_true rfl, Nat.le_of_ble_eq_true rfl⟩) hx hb hml hown hts hK hP  rfl hl.1 rfl (Nat.le_of_ble_eq_true rfl) (Nat.zero_le _) (Nat.zero_le _) dX2_countWays_78 ?_
              refine n_eq (show bI (fitB ((wR (S (13 + 3 * k) 0) C (wO (S (13 + 3 * k) 0) (S (13 + 3 * u + 1)) (wU (S (13 + 3 * k) 0) (S (13 + 3 * k + 1)) S) C)) 10) (S (13 + 3 * k) 0)) = bI (fitB (rrV C (S (13 + 3 * k) 0)) (S (13 + 3 * k) 0)) from by rw [fitB_cong (fun i hi => wR_10 hi)]) ?_
              refine n_ifeq_b (tgt := 116) hx hb dX2_countWays_81 (by decide) (fun h_81 => ?_) (fun h_81 => ?_)
              · rw [show wR (S (13 + 3 * k) 0) C (wO (S (13 + 3 * k) 0) (S (13 + 3 * u + 1)) (wU (S (13 + 3 * k) 0) (S (13 + 3 * k + 1)) S) C) = wO (S (13 + 3 * k) 0) (S (13 + 3 * u + 1)) (wU (S (13 + 3 * k) 0) (S (13 + 3 * k + 1)) S) (C + 1) from (if_neg (by rw [h_81]; decide)).symm] at hP
                refine n_iinc 5 1 (lv' := [(5, .int (nI (C + 1))), (0, .ref (ad (0))), (1, .ref (ad (13 + 3 * k))), (2, .ref (ad (13 + 3 * u))), (3, .int (nI (S (13 + 3 * k) 0))), (4, .int (nI (acc)))]) hx hb dX2_countWays_116 hl rfl (by decide) rfl (fun ls hl => ?_)
                refine n_goto 53 hx hb dX2_countWays_119 (by decide) ?_
                exact ih_53 (acc) (C + 1) (by omega) (by omega) (by rw [ha, sm_s, show cwG (S (13 + 3 * k) 0) (S (13 + 3 * k + 1)) (S (13 + 3 * u + 1)) C = 0 from if_neg (by rw [h_81]; decide)]; rfl) _ _ hP hS _ (lv_sub hl [1, 2, 3, 4, 5, 0] rfl)
              · have hP : va_P D vwCl (pic 33 ad (gE cI cW cM ad (wI (S (13 + 3 * k) 0) (S (13 + 3 * u + 1)) (wR (S (13 + 3 * k) 0) C (wO (S (13 + 3 * k) 0) (S (13 + 3 * u + 1)) (wU (S (13 + 3 * k) 0) (S (13 + 3 * k + 1)) S) C)) 0))) H := hP
                refine n_iconst 1 hx hb dX2_countWays_84 ?_
                refine lv_istore (lv' := [(6, .int (nI (1))), (0, .ref (ad (0))), (1, .ref (ad (13 + 3 * k))), (2, .ref (ad (13 + 3 * u))), (3, .int (nI (S (13 + 3 * k) 0))), (4, .int (nI (acc))), (5, .int (nI (C)))]) hx hb dX2_countWays_85 hl (by decide) rfl (fun ls hl => ?_)
                have L_87 : ∀ (r : Nat) (acc2 : Nat) (w : Nat), (w + 1 ≤ 2 ^ S (13 + 3 * k) 0) → (2 ^ S (13 + 3 * k) 0 < w + 1 + r) → (acc2 = sm (cwG (S (13 + 3 * k) 0) (S (13 + 3 * k + 1)) (S (13 + 3 * u + 1))) C + cnt (cwF (S (13 + 3 * k) 0) (S (13 + 3 * k + 1)) (S (13 + 3 * u + 1)) C) (w + 1)) → ∀ (H : Heap) (locs : List Loc), va_P D vwCl (pic 33 ad (gE cI cW cM ad (wI (S (13 + 3 * k) 0) (S (13 + 3 * u + 1)) (wR (S (13 + 3 * k) 0) C (wO (S (13 + 3 * k) 0) (S (13 + 3 * u + 1)) (wU (S (13 + 3 * k) 0) (S (13 + 3 * k + 1)) S) C)) w))) H → va_S A s.heap H locs → ∀ (ls : Array Slot), lv_has ls 7 [(0, .ref (ad (0))), (1, .ref (ad (13 + 3 * k))), (2, .ref (ad (13 + 3 * u))), (3, .int (nI (S (13 + 3 * k) 0))), (4, .int (nI (acc2))), (5, .int (nI (C))), (6, .int (nI (w + 1)))] → W p l e ({ frames := 4, cells := 0, slots := 0, locals := 95 } : Room) s m args below meth c H locs 0 0 (MQ below (QW (some (.int (nI (cwT ((S (13 + 3 * k) 0)) ((S (13 + 3 * k + 1))) ((S (13 + 3 * u + 1))))))) (PW D tys A 33 ad (gE cI cW cM ad (wO ((S (13 + 3 * k) 0)) ((S (13 + 3 * u + 1))) (wU ((S (13 + 3 * k) 0)) ((S (13 + 3 * k + 1))) S) (2 ^ (((S (13 + 3 * k) 0)) * ((S (13 + 3 * k) 0))))))) A) args s 0 0 A) (F0 m 87 ls []) := by
                  intro r
                  induction r with
                  | zero => intro acc2 w hw1 hr2 ha2; intros; exact absurd hr2 (by omega)
                  | succ r ih =>
                    intro acc2 w hw1 hr2 ha2 H locs hP hS ls hl
                    have ih_87 := ih
                    refine lv_iload hx hb dX2_countWays_87 (lv_at hl 6 rfl) ?_
                    refine lv_aload_n hx hb dX2_countWays_89 rfl (lv_at hl 2 rfl) ?_
                    refine g_callV (13 + 3 * u) (C := RX1) (T := TX1) (N := 4) (ci := 0) (As := []) (rest := [.int (nI (w + 1))]) (c_X1_size l hI (by omega) (gE_WS (S' := wI (S (13 + 3 * k) 0) (S (13 + 3 * u + 1)) (wR (S (13 + 3 * k) 0) C (wO (S (13 + 3 * k) 0) (S (13 + 3 * u + 1)) (wU (S (13 + 3 * k) 0) (S (13 + 3 * k + 1)) S) C)) w) hu9 (hWF.2.1 u hu9) (ww_o (by omega)) (ww_o (by omega)) (ww_o (by omega)))) (cwV 0 hts gX2_countWays_X1_size rfl rfl rfl (by decide +kernel) ⟨Nat.le_of_ble_eq_true rfl, Nat.le_of_ble_eq_true rfl⟩) hx hb hml hown hts hK hP  (by omega) (gE_obj (isO_w hu9)) rfl rfl hl.1 rfl (Nat.le_of_ble_eq_true rfl) (Nat.zero_le _) (Nat.zero_le _) dX2_countWays_90 ?_
                    refine n_eq (show nI (2 ^ S (13 + 3 * u) 0) = nI (2 ^ S (13 + 3 * k) 0) from by rw [e3]) ?_
                    refine n_ge (tgt := 116) hx hb dX2_countWays_93 (by decide) (by omega) (by omega) (fun h_93 => ?_) (fun h_93 => ?_)
                    · rw [show w = 2 ^ S (13 + 3 * k) 0 - 1 by omega, show wI (S (13 + 3 * k) 0) (S (13 + 3 * u + 1)) (wR (S (13 + 3 * k) 0) C (wO (S (13 + 3 * k) 0) (S (13 + 3 * u + 1)) (wU (S (13 + 3 * k) 0) (S (13 + 3 * k + 1)) S) C)) (2 ^ S (13 + 3 * k) 0 - 1) = wO (S (13 + 3 * k) 0) (S (13 + 3 * u + 1)) (wU (S (13 + 3 * k) 0) (S (13 + 3 * k + 1)) S) (C + 1) from (if_pos h_81).symm] at hP
                      refine n_iinc 5 1 (lv' := [(5, .int (nI (C + 1))), (0, .ref (ad (0))), (1, .ref (ad (13 + 3 * k))), (2, .ref (ad (13 + 3 * u))), (3, .int (nI (S (13 + 3 * k) 0))), (4, .int (nI (acc2))), (6, .int (nI (w + 1)))]) hx hb dX2_countWays_116 hl rfl (by decide) rfl (fun ls hl => ?_)
                      refine n_goto 53 hx hb dX2_countWays_119 (by decide) ?_
                      exact ih_53 (acc2) (C + 1) (by omega) (by omega) (by rw [ha2, sm_s, show cwG (S (13 + 3 * k) 0) (S (13 + 3 * k + 1)) (S (13 + 3 * u + 1)) C = cnt (cwF (S (13 + 3 * k) 0) (S (13 + 3 * k + 1)) (S (13 + 3 * u + 1)) C) (2 ^ S (13 + 3 * k) 0) from if_pos h_81, show w + 1 = 2 ^ S (13 + 3 * k) 0 by omega]) _ _ hP hS _ (lv_sub hl [1, 2, 3, 4, 5, 0] rfl)
                    · refine lv_aload_n hx hb dX2_countWays_96 rfl (lv_at hl 0 rfl) ?_
                      refine lv_aload_n hx hb dX2_countWays_97 rfl (lv_at hl 1 rfl) ?_
                      refine lv_aload_n hx hb dX2_countWays_98 rfl (lv_at hl 2 rfl) ?_
                      refine lv_iload hx hb dX2_countWays_99 (lv_at hl 6 rfl) ?_
                      refine g_callVW (0) (C := RX2) (T := TX2) (N := 7) (ci := 1) (As := [.ref (ad (13 + 3 * k)), .ref (ad (13 + 3 * u)), .int (nI (w + 1))]) (rest := []) (c_X2_leavesWay l hI hWt hMt (WF_x hWF (fun i hi => ww_o (by omega))) (S := wI (S (13 + 3 * k) 0) (S (13 + 3 * u + 1)) (wR (S (13 + 3 * k) 0) C (wO (S (13 + 3 * k) 0) (S (13 + 3 * u + 1)) (wU (S (13 + 3 * k) 0) (S (13 + 3 * k + 1)) S) C)) w) (O := w + 1) (fa := (wR (S (13 + 3 * k) 0) C (wO (S (13 + 3 * k) 0) (S (13 + 3 * u + 1)) (wU (S (13 + 3 * k) 0) (S (13 + 3 * k + 1)) S) C)) 10) (un := (wR (S (13 + 3 * k) 0) C (wO (S (13 + 3 * k) 0) (S (13 + 3 * u + 1)) (wU (S (13 + 3 * k) 0) (S (13 + 3 * k + 1)) S) C)) 12) hk9 hu9 (by rw [ww_o (by omega)]) (ww_o (by omega)) (by rw [ww_o (by omega)]; exact e3) (ww_o (by omega)) (wI_o (by decide) w) (wI_o (by decide) w) hdb (by rw [fitB_cong (fun i hi => wR_10 hi)]; exact h_81) (fun i hi => by rw [wR_10 hi]; exact rrV_lt C _ i) (fun i hi => by rw [wR_12 hi]; exact (unw_ok hda hcbK qk1.1 hi).1) (by omega)) (cwV 3 hts gX2_countWays_X2_leavesWay rfl rfl rfl (by decide +kernel) ⟨Nat.le_of_ble_eq_true rfl, Nat.le_of_ble_eq_true rfl⟩) hx hb hml hown hts hK hP (pic_D _ hD) hS  (by decide) rfl rfl rfl hl.1 rfl (Nat.le_of_ble_eq_true rfl) (Nat.zero_le _) (Nat.zero_le _) dX2_countWays_101 (fun H locs hP hS => ?_)
                      have hP : va_P D vwCl (pic 33 ad (gE cI cW cM ad (wI (S (13 + 3 * k) 0) (S (13 + 3 * u + 1)) (wR (S (13 + 3 * k) 0) C (wO (S (13 + 3 * k) 0) (S (13 + 3 * u + 1)) (wU (S (13 + 3 * k) 0) (S (13 + 3 * k + 1)) S) C)) (w + 1)))) H := hP
                      refine n_eq (show bI (lvB (S (13 + 3 * k) 0) (S (13 + 3 * k + 1)) (S (13 + 3 * u + 1)) ((wR (S (13 + 3 * k) 0) C (wO (S (13 + 3 * k) 0) (S (13 + 3 * u + 1)) (wU (S (13 + 3 * k) 0) (S (13 + 3 * k + 1)) S) C)) 10) (cpy (tcv (S (13 + 3 * k) 0) (S (13 + 3 * u + 1)) ((wR (S (13 + 3 * k) 0) C (wO (S (13 + 3 * k) 0) (S (13 + 3 * u + 1)) (wU (S (13 + 3 * k) 0) (S (13 + 3 * k + 1)) S) C)) 10) ((wR (S (13 + 3 * k) 0) C (wO (S (13 + 3 * k) 0) (S (13 + 3 * u + 1)) (wU (S (13 + 3 * k) 0) (S (13 + 3 * k + 1)) S) C)) 12) (w + 1)) ((wI (S (13 + 3 * k) 0) (S (13 + 3 * u + 1)) (wR (S (13 + 3 * k) 0) C (wO (S (13 + 3 * k) 0) (S (13 + 3 * u + 1)) (wU (S (13 + 3 * k) 0) (S (13 + 3 * k + 1)) S) C)) w) 11) (S (13 + 3 * k) 0))) = bI (cwF (S (13 + 3 * k) 0) (S (13 + 3 * k + 1)) (S (13 + 3 * u + 1)) C (w + 1)) from by rw [cw_conv hcbK qk1.1 hda]) ?_
                      refine n_ifeq_b (tgt := 110) hx hb dX2_countWays_104 (by decide) (fun h_104 => ?_) (fun h_104 => ?_)
                      · refine n_iinc 6 1 (lv' := [(6, .int (nI ((w + 1) + 1))), (0, .ref (ad (0))), (1, .ref (ad (13 + 3 * k))), (2, .ref (ad (13 + 3 * u))), (3, .int (nI (S (13 + 3 * k) 0))), (4, .int (nI (acc2))), (5, .int (nI (C)))]) hx hb dX2_countWays_110 hl rfl (by decide) rfl (fun ls hl => ?_)
                        refine n_goto 87 hx hb dX2_countWays_113 (by decide) ?_
                        exact ih_87 (acc2) (w + 1) (by omega) (by omega) (by rw [ha2, cnt_n h_104]) _ _ hP hS _ (lv_sub hl [1, 2, 3, 4, 5, 6, 0] rfl)
                      · refine n_iinc 4 1 (lv' := [(4, .int (nI (acc2 + 1))), (0, .ref (ad (0))), (1, .ref (ad (13 + 3 * k))), (2, .ref (ad (13 + 3 * u))), (3, .int (nI (S (13 + 3 * k) 0))), (5, .int (nI (C))), (6, .int (nI (w + 1)))]) hx hb dX2_countWays_107 hl rfl (by decide) rfl (fun ls hl => ?_)
                        refine n_iinc 6 1 (lv' := [(6, .int (nI ((w + 1) + 1))), (4, .int (nI (acc2 + 1))), (0, .ref (ad (0))), (1, .ref (ad (13 + 3 * k))), (2, .ref (ad (13 + 3 * u))), (3, .int (nI (S (13 + 3 * k) 0))), (5, .int (nI (C)))]) hx hb dX2_countWays_110 hl rfl (by decide) rfl (fun ls hl => ?_)
                        refine n_goto 87 hx hb dX2_countWays_113 (by decide) ?_
                        exact ih_87 (acc2 + 1) (w + 1) (by omega) (by omega) (by rw [ha2, cnt_y h_104, Nat.add_assoc]) _ _ hP hS _ (lv_sub hl [2, 3, 4, 5, 1, 6, 0] rfl)
                exact L_87 (2 ^ S (13 + 3 * k) 0) (acc) (0) (by omega) (by omega) (by rw [ha, cnt_n (p := cwF (S (13 + 3 * k) 0) (S (13 + 3 * k + 1)) (S (13 + 3 * u + 1)) C) (n := 0) rfl]; rfl) _ _ hP hS _ (lv_sub hl [1, 2, 3, 4, 5, 6, 0] rfl)
        exact L_53 (2 ^ (S (13 + 3 * k) 0 * S (13 + 3 * k) 0) + 1) (0) (0) (Nat.zero_le _) (by omega) rfl _ _ hP hS _ (lv_sub hl [2, 3, 4, 5, 1, 0] rfl)
      · refine lv_iload hx hb dX2_countWays_14 (lv_at hl 4 rfl) ?_
        refine lv_aload_n hx hb dX2_countWays_16 rfl (lv_at hl 0 rfl) ?_
        refine g_get (0) 6 (C := RX2) (T := TX2) (N := 7) (ci := 1) (ref := "CubeWorlds") hx hb hts (by decide +kernel) hown hK hP (by decide) rfl rfl (by decide) (by decide +kernel) rfl rfl dX2_countWays_17 ?_
        refine g_alen (12) hx hb hK hP (by decide) (gIX (S' := va_up S 12 (cpy (unw (S (13 + 3 * k) 0) (S (13 + 3 * k + 1))) (S 12) i)) 12 4 rfl (by decide) (va_up_at _ _ _)) hI dX2_countWays_20 ?_
        refine n_ge (tgt := 47) hx hb dX2_countWays_21 (by decide) (by omega) (by omega) (fun h_21 => ?_) (fun h_21 => ?_)
        · exact absurd h_21 (by omega)
        · have s1 := shl1_lt (k := i) (n := S (13 + 3 * k) 0) (by omega)
          have p1 := shl1_lt (k := 0) (n := S (13 + 3 * k) 0) (by omega)
          refine lv_aload_n hx hb dX2_countWays_24 rfl (lv_at hl 0 rfl) ?_
          refine g_get (0) 6 (C := RX2) (T := TX2) (N := 7) (ci := 1) (ref := "CubeWorlds") hx hb hts (by decide +kernel) hown hK hP (by decide) rfl rfl (by decide) (by decide +kernel) rfl rfl dX2_countWays_25 ?_
          refine lv_iload hx hb dX2_countWays_28 (lv_at hl 4 rfl) ?_
          refine lv_aload_n hx hb dX2_countWays_30 rfl (lv_at hl 1 rfl) ?_
          refine n_iconst 1 hx hb dX2_countWays_31 ?_
          refine n_iconst 1 hx hb dX2_countWays_32 ?_
          refine lv_iload hx hb dX2_countWays_33 (lv_at hl 4 rfl) ?_
          refine n_ishl hx hb dX2_countWays_35 (by omega) ?_
          refine n_iconst 0 hx hb dX2_countWays_36 ?_
          refine n_eq (show nI 0 = bI false from rfl) ?_
          refine g_callV (13 + 3 * k) (C := RX1) (T := TX1) (N := 4) (ci := 0) (As := [.int (nI (1)), .int (nI (1 <<< i)), .int (bI (false))]) (rest := [.int (nI (i)), .ref (ad (12))]) (c_X1_solve l hI (by omega) (gE_WS (S' := va_up S 12 (cpy (unw (S (13 + 3 * k) 0) (S (13 + 3 * k + 1))) (S 12) i)) hk9 (hWF.2.1 k hk9) (by repeat rw [va_up_o (by omega)]) (by repeat rw [va_up_o (by omega)]) (by repeat rw [va_up_o (by omega)])) (X := 1) (Z := 1 <<< i) (L := false) (hWF.2.1 k hk9).2.2 (hWF.2.1 k hk9).1.2.1 (hWF.2.1 k hk9).2.1 p1 s1) (cwV 3 hts gX2_countWays_X1_solve rfl rfl rfl (by decide +kernel) ⟨Nat.le_of_ble_eq_true rfl, Nat.le_of_ble_eq_true rfl⟩) hx hb hml hown hts hK hP  (by omega) (gE_obj (isO_w hk9)) rfl rfl hl.1 rfl (Nat.le_of_ble_eq_true rfl) (Nat.zero_le _) (Nat.zero_le _) dX2_countWays_37 ?_
          refine n_eq (show oI (slv (S (13 + 3 * k) 0) (S (13 + 3 * k + 1)) 1 (1 <<< i) false) = nI (unw (S (13 + 3 * k) 0) (S (13 + 3 * k + 1)) i) from oI_get (by obtain ⟨g0, hg0, _⟩ := div_slv hda hcbK (by decide) p1 s1 false; exact ⟨g0, hg0⟩)) ?_
          refine g_iast (12) (i) (unw (S (13 + 3 * k) 0) (S (13 + 3 * k + 1)) i) hx hb hK hP (pic_D _ hD) hS (by decide) (gIX (S' := va_up S 12 (cpy (unw (S (13 + 3 * k) 0) (S (13 + 3 * k + 1))) (S 12) i)) 12 4 rfl (by decide) (va_up_at _ _ _)) hI (by omega) (by decide) dX2_countWays_40 (fun H locs hP hS => ?_)
          rw [gE_upL 12 4 rfl (by decide), va_up_up, cpy_put] at hP
          refine n_iinc 4 1 (lv' := [(4, .int (nI (i + 1))), (0, .ref (ad (0))), (1, .ref (ad (13 + 3 * k))), (2, .ref (ad (13 + 3 * u))), (3, .int (nI (S (13 + 3 * k) 0)))]) hx hb dX2_countWays_41 hl rfl (by decide) rfl (fun ls hl => ?_)
          refine n_goto 8 hx hb dX2_countWays_44 (by decide) ?_
          exact ih_8 (i + 1) (by omega) (by omega) _ _ hP hS _ (lv_sub hl [1, 2, 3, 4, 0] rfl)
  exact L_8 (S (13 + 3 * k) 0 + 1) (0) (Nat.zero_le _) (by omega) _ _ hP hS _ (lv_sub hl [2, 3, 4, 1, 0] rfl)
set_option maxHeartbeats 4000000 in
set_option maxRecDepth 100000 in
theorem c_X2_ways (l : Launch) {D : va_G} {tys : List (ClassId × FieldType)} {A : Nat → Prop} {ad : Nat → Nat} {cI cW cM : ClassId} {tI tW tM : Nat} {S : Nat → Nat → Nat} (hI : tys[tI]? = some (cI, .int)) (hWt : tys[tW]? = some (cW, .object "CubeWorlds$World")) (hMt : tys[tM]? = some (cM, .array .int)) (hWF : WF S) {a b0 : Int32} : Met l yX2_ways wsX2_ways ({ frames := 5, cells := 0, slots := 0, locals := 121 } : Room) (va_Pc [.ref (ad (0)), .int (a), .int (b0)] (PW D tys A 33 ad (gE cI cW cM ad S))) (QW (some (.int (sC_ways (cN S) (cC S) a b0))) (PW D tys A 33 ad (gE cI cW cM ad (nC_ways S a b0))) A) 0 0 A := by
  refine g_writes (cc := cX2_ways) (maxL := 5) (ret := (some .int)) (by decide) rfl (Nat.le_of_ble_eq_true rfl) ?_
  intro p e s m args below meth c hx hb hrt hts hown hlocks hml hP hK hD hS ls hl
  show W p l e ({ frames := 5, cells := 0, slots := 0, locals := 121 } : Room) s m args below meth c s.heap [] 0 0 _ _
  have hl : lv_has ls 5 [(0, .ref (ad (0))), (1, .int (a)), (2, .int (b0))] := hl
  refine lv_aload_n hx hb dX2_ways_0 rfl (lv_at hl 0 rfl) ?_
  refine lv_iload_n hx hb dX2_ways_1 rfl (lv_at hl 1 rfl) ?_
  cases hs_2 : rB 0 3 a with
  | false =>
    refine g_callV (0) (C := RX2) (T := TX2) (N := 7) (ci := 1) (As := [.int (a)]) (rest := []) (c_X2_worldIn_n l hI hWt hMt hWF hs_2) (cwV 1 hts gX2_ways_X2_worldIn rfl rfl rfl (by decide +kernel) ⟨Nat.le_of_ble_eq_true rfl, Nat.le_of_ble_eq_true rfl⟩) hx hb hml hown hts hK hP  (by decide) rfl rfl rfl hl.1 rfl (Nat.le_of_ble_eq_true rfl) (Nat.zero_le _) (Nat.zero_le _) dX2_ways_2 ?_
    refine lv_astore_nN (lv' := [(3, .null), (0, .ref (ad (0))), (1, .int (a)), (2, .int (b0))]) hx hb dX2_ways_5 rfl hl (by decide) rfl (fun ls hl => ?_)
    refine lv_aload_n hx hb dX2_ways_6 rfl (lv_at hl 1 rfl) ?_
    refine lv_iload_n hx hb dX2_ways_7 rfl (lv_at hl 3 rfl) ?_
    cases hs_8 : rB 0 3 b0 with
    | false =>
      refine g_callV (0) (C := RX2) (T := TX2) (N := 7) (ci := 1) (As := [.int (b0)]) (rest := []) (c_X2_worldIn_n l hI hWt hMt hWF hs_8) (cwV 1 hts gX2_ways_X2_worldIn rfl rfl rfl (by decide +kernel) ⟨Nat.le_of_ble_eq_true rfl, Nat.le_of_ble_eq_true rfl⟩) hx hb hml hown hts hK hP  (by decide) rfl rfl rfl hl.1 rfl (Nat.le_of_ble_eq_true rfl) (Nat.zero_le _) (Nat.zero_le _) dX2_ways_8 ?_
      refine lv_astoreN (lv' := [(4, .null), (3, .null), (0, .ref (ad (0))), (1, .int (a)), (2, .int (b0))]) hx hb dX2_ways_11 hl (by decide) rfl (fun ls hl => ?_)
      refine lv_aload_nN hx hb dX2_ways_13 rfl (lv_at hl 1 rfl) ?_
      refine lv_ifnullN (tgt := 22) hx hb dX2_ways_14 (by decide) ?_
      refine lv_iconst (v := (-1)) hx hb dX2_ways_22 (by decide) ?_
      have hP : va_P D vwCl (pic 33 ad (gE cI cW cM ad (nC_ways S a b0))) s.heap := by rw [show nC_ways S a b0 = S from by unfold nC_ways; (try dsimp only [cN, cC, cM_]); rw [rg_n hs_2]]; exact hP
      exact g_iretW hx hb hrt hlocks hK hP (pic_D _ hD) hS dX2_ways_23 (by unfold sC_ways; (try dsimp only [cN, cC, cM_]); rw [rg_n hs_2])
    | true =>
      obtain ⟨u, hu1, hu2, e9⟩ := rB_some (by omega) (by omega) hs_8
      subst e9
      have hu9 : u < 4 := by omega
      have qu1 := (hWF.2.1 u hu9).1
      have qu2 := pow4 qu1.2.1
      have qu3 : 0 < 2 ^ S (13 + 3 * u) 0 := Nat.pow_pos (by decide)
      have qu4 := sq4 qu2
      refine g_callV (0) (C := RX2) (T := TX2) (N := 7) (ci := 1) (As := [.int (nI (u))]) (rest := []) (c_X2_worldIn_y l hI hWt hMt hWF (k := u) (by omega)) (cwV 1 hts gX2_ways_X2_worldIn rfl rfl rfl (by decide +kernel) ⟨Nat.le_of_ble_eq_true rfl, Nat.le_of_ble_eq_true rfl⟩) hx hb hml hown hts hK hP  (by decide) rfl rfl rfl hl.1 rfl (Nat.le_of_ble_eq_true rfl) (Nat.zero_le _) (Nat.zero_le _) dX2_ways_8 ?_
      refine lv_astore (lv' := [(4, .ref (ad (13 + 3 * u))), (3, .null), (0, .ref (ad (0))), (1, .int (a)), (2, .int (nI (u)))]) hx hb dX2_ways_11 hl (by decide) rfl (fun ls hl => ?_)
      refine lv_aload_nN hx hb dX2_ways_13 rfl (lv_at hl 1 rfl) ?_
      refine lv_ifnullN (tgt := 22) hx hb dX2_ways_14 (by decide) ?_
      refine lv_iconst (v := (-1)) hx hb dX2_ways_22 (by decide) ?_
      have hP : va_P D vwCl (pic 33 ad (gE cI cW cM ad (nC_ways S a ((nI u))))) s.heap := by rw [show nC_ways S a ((nI u)) = S from by unfold nC_ways; (try dsimp only [cN, cC, cM_]); rw [rg_n hs_2]]; exact hP
      exact g_iretW hx hb hrt hlocks hK hP (pic_D _ hD) hS dX2_ways_23 (by unfold sC_ways; (try dsimp only [cN, cC, cM_]); rw [rg_n hs_2])
  | true =>
    obtain ⟨k, hk1, hk2, e9⟩ := rB_some (by omega) (by omega) hs_2
    subst e9
    have hk9 : k < 4 := by omega
    have qk1 := (hWF.2.1 k hk9).1
    have qk2 := pow4 qk1.2.1
    have qk3 : 0 < 2 ^ S (13 + 3 * k) 0 := Nat.pow_pos (by decide)
    have qk4 := sq4 qk2
    refine g_callV (0) (C := RX2) (T := TX2) (N := 7) (ci := 1) (As := [.int (nI (k))]) (rest := []) (c_X2_worldIn_y l hI hWt hMt hWF (k := k) (by omega)) (cwV 1 hts gX2_ways_X2_worldIn rfl rfl rfl (by decide +kernel) ⟨Nat.le_of_ble_eq_true rfl, Nat.le_of_ble_eq_true rfl⟩) hx hb hml hown hts hK hP  (by decide) rfl rfl rfl hl.1 rfl (Nat.le_of_ble_eq_true rfl) (Nat.zero_le _) (Nat.zero_le _) dX2_ways_2 ?_
    refine lv_astore_n (lv' := [(3, .ref (ad (13 + 3 * k))), (0, .ref (ad (0))), (1, .int (nI (k))), (2, .int (b0))]) hx hb dX2_ways_5 rfl hl (by decide) rfl (fun ls hl => ?_)
    refine lv_aload_n hx hb dX2_ways_6 rfl (lv_at hl 1 rfl) ?_
    refine lv_iload_n hx hb dX2_ways_7 rfl (lv_at hl 3 rfl) ?_
    cases hs_8 : rB 0 3 b0 with
    | false =>
      refine g_callV (0) (C := RX2) (T := TX2) (N := 7) (ci := 1) (As := [.int (b0)]) (rest := []) (c_X2_worldIn_n l hI hWt hMt hWF hs_8) (cwV 1 hts gX2_ways_X2_worldIn rfl rfl rfl (by decide +kernel) ⟨Nat.le_of_ble_eq_true rfl, Nat.le_of_ble_eq_true rfl⟩) hx hb hml hown hts hK hP  (by decide) rfl rfl rfl hl.1 rfl (Nat.le_of_ble_eq_true rfl) (Nat.zero_le _) (Nat.zero_le _) dX2_ways_8 ?_
      refine lv_astoreN (lv' := [(4, .null), (3, .ref (ad (13 + 3 * k))), (0, .ref (ad (0))), (1, .int (nI (k))), (2, .int (b0))]) hx hb dX2_ways_11 hl (by decide) rfl (fun ls hl => ?_)
      refine lv_aload_n hx hb dX2_ways_13 rfl (lv_at hl 1 rfl) ?_
      refine lv_ifnull hx hb dX2_ways_14 ?_
      refine lv_aloadN hx hb dX2_ways_17 (lv_at hl 0 rfl) ?_
      refine lv_ifnonnullN hx hb dX2_ways_19 ?_
      refine lv_iconst (v := (-1)) hx hb dX2_ways_22 (by decide) ?_
      have hP : va_P D vwCl (pic 33 ad (gE cI cW cM ad (nC_ways S ((nI k)) b0))) s.heap := by rw [show nC_ways S ((nI k)) b0 = S from by unfold nC_ways; (try dsimp only [cN, cC, cM_]); rw [rg_y (by omega) (by omega) (by omega), rg_n hs_8]]; exact hP
      exact g_iretW hx hb hrt hlocks hK hP (pic_D _ hD) hS dX2_ways_23 (by unfold sC_ways; (try dsimp only [cN, cC, cM_]); rw [rg_y (by omega) (by omega) (by omega), rg_n hs_8])
    | true =>
      obtain ⟨u, hu1, hu2, e9⟩ := rB_some (by omega) (by omega) hs_8
      subst e9
      have hu9 : u < 4 := by omega
      have qu1 := (hWF.2.1 u hu9).1
      have qu2 := pow4 qu1.2.1
      have qu3 : 0 < 2 ^ S (13 + 3 * u) 0 := Nat.pow_pos (by decide)
      have qu4 := sq4 qu2
      refine g_callV (0) (C := RX2) (T := TX2) (N := 7) (ci := 1) (As := [.int (nI (u))]) (rest := []) (c_X2_worldIn_y l hI hWt hMt hWF (k := u) (by omega)) (cwV 1 hts gX2_ways_X2_worldIn rfl rfl rfl (by decide +kernel) ⟨Nat.le_of_ble_eq_true rfl, Nat.le_of_ble_eq_true rfl⟩) hx hb hml hown hts hK hP  (by decide) rfl rfl rfl hl.1 rfl (Nat.le_of_ble_eq_true rfl) (Nat.zero_le _) (Nat.zero_le _) dX2_ways_8 ?_
      refine lv_astore (lv' := [(4, .ref (ad (13 + 3 * u))), (3, .ref (ad (13 + 3 * k))), (0, .ref (ad (0))), (1, .int (nI (k))), (2, .int (nI (u)))]) hx hb dX2_ways_11 hl (by decide) rfl (fun ls hl => ?_)
      refine lv_aload_n hx hb dX2_ways_13 rfl (lv_at hl 1 rfl) ?_
      refine lv_ifnull hx hb dX2_ways_14 ?_
      refine lv_aload hx hb dX2_ways_17 (lv_at hl 0 rfl) ?_
      refine lv_ifnonnull (tgt := 24) hx hb dX2_ways_19 (by decide) ?_
      refine lv_aload_n hx hb dX2_ways_24 rfl (lv_at hl 1 rfl) ?_
      refine g_callV (13 + 3 * k) (C := RX1) (T := TX1) (N := 4) (ci := 0) (As := []) (rest := []) (c_X1_bits l hI (by omega) (gE_W hk9 (hWF.2.1 k hk9))) (cwV 0 hts gX2_ways_X1_bits rfl rfl rfl (by decide +kernel) ⟨Nat.le_of_ble_eq_true rfl, Nat.le_of_ble_eq_true rfl⟩) hx hb hml hown hts hK hP  (by omega) (gE_obj (isO_w hk9)) rfl rfl hl.1 rfl (Nat.le_of_ble_eq_true rfl) (Nat.zero_le _) (Nat.zero_le _) dX2_ways_25 ?_
      refine lv_aload hx hb dX2_ways_28 (lv_at hl 0 rfl) ?_
      refine g_callV (13 + 3 * u) (C := RX1) (T := TX1) (N := 4) (ci := 0) (As := []) (rest := [.int (nI (S (13 + 3 * k) 0))]) (c_X1_bits l hI (by omega) (gE_W hu9 (hWF.2.1 u hu9))) (cwV 0 hts gX2_ways_X1_bits rfl rfl rfl (by decide +kernel) ⟨Nat.le_of_ble_eq_true rfl, Nat.le_of_ble_eq_true rfl⟩) hx hb hml hown hts hK hP  (by omega) (gE_obj (isO_w hu9)) rfl rfl hl.1 rfl (Nat.le_of_ble_eq_true rfl) (Nat.zero_le _) (Nat.zero_le _) dX2_ways_30 ?_
      refine n_cne (tgt := 44) hx hb dX2_ways_33 (by decide) (by omega) (by omega) (fun h_33 => ?_) (fun h_33 => ?_)
      · refine lv_bipush (v := (-3)) hx hb dX2_ways_44 (by decide) ?_
        have hP : va_P D vwCl (pic 33 ad (gE cI cW cM ad (nC_ways S ((nI k)) ((nI u))))) s.heap := by rw [show nC_ways S ((nI k)) ((nI u)) = S from by unfold nC_ways; (try dsimp only [cN, cC, cM_]); rw [rg_y (by omega) (by omega) (by omega), rg_y (by omega) (by omega) (by omega), if_pos (Or.inl h_33)]]; exact hP
        exact g_iretW hx hb hrt hlocks hK hP (pic_D _ hD) hS dX2_ways_46 (by unfold sC_ways; (try dsimp only [cN, cC, cM_]); rw [rg_y (by omega) (by omega) (by omega), rg_y (by omega) (by omega) (by omega), if_pos (Or.inl h_33)])
      · refine lv_aload_n hx hb dX2_ways_36 rfl (lv_at hl 1 rfl) ?_
        refine g_callV (13 + 3 * k) (C := RX1) (T := TX1) (N := 4) (ci := 0) (As := []) (rest := []) (c_X1_bits l hI (by omega) (gE_W hk9 (hWF.2.1 k hk9))) (cwV 0 hts gX2_ways_X1_bits rfl rfl rfl (by decide +kernel) ⟨Nat.le_of_ble_eq_true rfl, Nat.le_of_ble_eq_true rfl⟩) hx hb hml hown hts hK hP  (by omega) (gE_obj (isO_w hk9)) rfl rfl hl.1 rfl (Nat.le_of_ble_eq_true rfl) (Nat.zero_le _) (Nat.zero_le _) dX2_ways_37 ?_
        refine n_iconst 3 hx hb dX2_ways_40 ?_
        refine n_le (tgt := 47) hx hb dX2_ways_41 (by decide) (by omega) (by omega) (fun h_41 => ?_) (fun h_41 => ?_)
        · refine lv_aload_n hx hb dX2_ways_47 rfl (lv_at hl 1 rfl) ?_
          refine g_callV (13 + 3 * k) (C := RX1) (T := TX1) (N := 4) (ci := 0) (As := []) (rest := []) (c_X1_isWhole l hI (by omega) (gE_W hk9 (hWF.2.1 k hk9)) (hWF.2.1 k hk9).2.2 (hWF.2.1 k hk9).1.2.1 (hWF.2.1 k hk9).2.1) (cwV 0 hts gX2_ways_X1_isWhole rfl rfl rfl (by decide +kernel) ⟨Nat.le_of_ble_eq_true rfl, Nat.le_of_ble_eq_true rfl⟩) hx hb hml hown hts hK hP  (by omega) (gE_obj (isO_w hk9)) rfl rfl hl.1 rfl (Nat.le_of_ble_eq_true rfl) (Nat.zero_le _) (Nat.zero_le _) dX2_ways_48 ?_
          refine n_ifeq_b (tgt := 62) hx hb dX2_ways_51 (by decide) (fun h_51 => ?_) (fun h_51 => ?_)
          · refine lv_bipush (v := (-3)) hx hb dX2_ways_62 (by decide) ?_
            have hP : va_P D vwCl (pic 33 ad (gE cI cW cM ad (nC_ways S ((nI k)) ((nI u))))) s.heap := by rw [show nC_ways S ((nI k)) ((nI u)) = S from by unfold nC_ways; (try dsimp only [cN, cC, cM_]); rw [rg_y (by omega) (by omega) (by omega), rg_y (by omega) (by omega) (by omega), if_neg (fun z => z.elim (fun w => w h_33) (fun w => absurd w (by omega))), if_pos h_51]]; exact hP
            exact g_iretW hx hb hrt hlocks hK hP (pic_D _ hD) hS dX2_ways_64 (by unfold sC_ways; (try dsimp only [cN, cC, cM_]); rw [rg_y (by omega) (by omega) (by omega), rg_y (by omega) (by omega) (by omega), if_neg (fun z => z.elim (fun w => w h_33) (fun w => absurd w (by omega))), if_pos h_51])
          · refine lv_aload hx hb dX2_ways_54 (lv_at hl 0 rfl) ?_
            refine g_callV (13 + 3 * u) (C := RX1) (T := TX1) (N := 4) (ci := 0) (As := []) (rest := []) (c_X1_isWhole l hI (by omega) (gE_W hu9 (hWF.2.1 u hu9)) (hWF.2.1 u hu9).2.2 (hWF.2.1 u hu9).1.2.1 (hWF.2.1 u hu9).2.1) (cwV 0 hts gX2_ways_X1_isWhole rfl rfl rfl (by decide +kernel) ⟨Nat.le_of_ble_eq_true rfl, Nat.le_of_ble_eq_true rfl⟩) hx hb hml hown hts hK hP  (by omega) (gE_obj (isO_w hu9)) rfl rfl hl.1 rfl (Nat.le_of_ble_eq_true rfl) (Nat.zero_le _) (Nat.zero_le _) dX2_ways_56 ?_
            refine n_ifne_b (tgt := 65) hx hb dX2_ways_59 (by decide) (fun h_59 => ?_) (fun h_59 => ?_)
            · refine lv_aload_n hx hb dX2_ways_65 rfl (lv_at hl 2 rfl) ?_
              refine lv_aload_n hx hb dX2_ways_66 rfl (lv_at hl 1 rfl) ?_
              refine lv_aload hx hb dX2_ways_67 (lv_at hl 0 rfl) ?_
              refine g_callVW (0) (C := RX2) (T := TX2) (N := 7) (ci := 1) (As := [.ref (ad (13 + 3 * k)), .ref (ad (13 + 3 * u))]) (rest := []) (c_X2_countWays l hI hWt hMt hWF hk9 hu9 rfl rfl h_33.symm rfl (by omega) (isN_0 h_51) (by rw [h_33]; exact isN_0 h_59)) (cwV 2 hts gX2_ways_X2_countWays rfl rfl rfl (by decide +kernel) ⟨Nat.le_of_ble_eq_true rfl, Nat.le_of_ble_eq_true rfl⟩) hx hb hml hown hts hK hP (pic_D _ hD) hS  (by decide) rfl rfl rfl hl.1 rfl (Nat.le_of_ble_eq_true rfl) (Nat.zero_le _) (Nat.zero_le _) dX2_ways_69 (fun H locs hP hS => ?_)
              have hP : va_P D vwCl (pic 33 ad (gE cI cW cM ad (nC_ways S ((nI k)) ((nI u))))) H := by rw [show nC_ways S ((nI k)) ((nI u)) = wO (S (13 + 3 * k) 0) (S (13 + 3 * u + 1)) (wU (S (13 + 3 * k) 0) (S (13 + 3 * k + 1)) S) (2 ^ (S (13 + 3 * k) 0 * S (13 + 3 * k) 0)) from by unfold nC_ways; (try dsimp only [cN, cC, cM_]); rw [rg_y (by omega) (by omega) (by omega), rg_y (by omega) (by omega) (by omega), if_neg (fun z => z.elim (fun w => w h_33) (fun w => absurd w (by omega))), if_neg (by rw [h_51]; decide), if_neg (by rw [h_59]; decide)]]; exact hP
              exact g_iretW hx hb hrt hlocks hK hP (pic_D _ hD) hS dX2_ways_72 (by unfold sC_ways; (try dsimp only [cN, cC, cM_]); rw [rg_y (by omega) (by omega) (by omega), rg_y (by omega) (by omega) (by omega), if_neg (fun z => z.elim (fun w => w h_33) (fun w => absurd w (by omega))), if_neg (by rw [h_51]; decide), if_neg (by rw [h_59]; decide)])
            · refine lv_bipush (v := (-3)) hx hb dX2_ways_62 (by decide) ?_
              have hP : va_P D vwCl (pic 33 ad (gE cI cW cM ad (nC_ways S ((nI k)) ((nI u))))) s.heap := by rw [show nC_ways S ((nI k)) ((nI u)) = S from by unfold nC_ways; (try dsimp only [cN, cC, cM_]); rw [rg_y (by omega) (by omega) (by omega), rg_y (by omega) (by omega) (by omega), if_neg (fun z => z.elim (fun w => w h_33) (fun w => absurd w (by omega))), if_neg (by rw [h_51]; decide), if_pos h_59]]; exact hP
              exact g_iretW hx hb hrt hlocks hK hP (pic_D _ hD) hS dX2_ways_64 (by unfold sC_ways; (try dsimp only [cN, cC, cM_]); rw [rg_y (by omega) (by omega) (by omega), rg_y (by omega) (by omega) (by omega), if_neg (fun z => z.elim (fun w => w h_33) (fun w => absurd w (by omega))), if_neg (by rw [h_51]; decide), if_pos h_59])
        · refine lv_bipush (v := (-3)) hx hb dX2_ways_44 (by decide) ?_
          have hP : va_P D vwCl (pic 33 ad (gE cI cW cM ad (nC_ways S ((nI k)) ((nI u))))) s.heap := by rw [show nC_ways S ((nI k)) ((nI u)) = S from by unfold nC_ways; (try dsimp only [cN, cC, cM_]); rw [rg_y (by omega) (by omega) (by omega), rg_y (by omega) (by omega) (by omega), if_pos (Or.inr h_41)]]; exact hP
          exact g_iretW hx hb hrt hlocks hK hP (pic_D _ hD) hS dX2_ways_46 (by unfold sC_ways; (try dsimp only [cN, cC, cM_]); rw [rg_y (by omega) (by omega) (by omega), rg_y (by omega) (by omega) (by omega), if_pos (Or.inr h_41)])
