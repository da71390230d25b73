/-! cubes by codes; the ways -/
theorem tm_cong {n : Nat} {c c' : Nat → Nat} (h : ∀ i, i < n → ∀ j, j < n → c (4 * i + j) = c' (4 * i + j)) : tm n c = tm n c' := by
  funext x y
  refine xs_cong (fun i hi => xs_cong (fun j hj => ?_))
  rw [h i hi j hj]
theorem lpr_cong {n : Nat} {c c' : Nat → Nat} (h : tm n c = tm n c') : lpr n c = lpr n c' := by
  funext x
  unfold lpr
  rw [h]
theorem lbr_cong {n : Nat} {c c' : Nat → Nat} (h : tm n c = tm n c') : lbr n c = lbr n c' := by
  unfold lbr
  rw [lpr_cong h]
def rcV (C n i j : Nat) : Nat := (C >>> (n * (n * i + j))) &&& (2 ^ n - 1)
def rcC (n C q : Nat) : Nat := rcV C n (q / 4) (q % 4)
theorem rcV_lt (C n i j : Nat) : rcV C n i j < 2 ^ n := lw_lt n _
def cubT (S : Nat → Nat → Nat) (n C : Nat) : Nat → Nat := cf n (rcV C n) (S 9) n 0
/-- what the codes below c leave -/
def cubS (S : Nat → Nat → Nat) (n : Nat) : Nat → Nat → Nat → Nat
  | 0 => S
  | c + 1 => takeS (va_up (cubS S n c) 9 (cubT (cubS S n c) n c)) 6 n (cubT (cubS S n c) n c)
theorem cpy_in {e c : Nat → Nat} {k q : Nat} (h : q < k) : cpy e c k q = e q := if_pos h
theorem cub_cell {S : Nat → Nat → Nat} {n C i j : Nat} {c : Nat → Nat} (hn : n ≤ 4) (hi : i < n) (hj : j < n) : cpy (cubT S n C) c 16 (4 * i + j) = rcC n C (4 * i + j) := by
  rw [cpy_in (by omega)]
  unfold cubT rcC
  rw [cf_at hi hj hn]
  congr 1 <;> omega
theorem wf_take {S : Nat → Nat → Nat} {b K : Nat} {e : Nat → Nat} (h1 : 1 ≤ K) (h4 : K ≤ 4) (he : ∀ i, i < K → ∀ j, j < K → e (4 * i + j) < 2 ^ K) : wf (takeS S b K e) b := by
  have e0 : takeS S b K e b = obS K (2 ^ K) := by unfold takeS; rw [va_up_o (by omega), va_up_o (by omega), va_up_at]
  have e1 : takeS S b K e (b + 1) = cpy e (S (b + 1)) 16 := by unfold takeS; rw [va_up_o (by omega), va_up_at]
  have e2 : takeS S b K e (b + 2) = pf K (cpy e (S (b + 1)) 16) (S (b + 2)) (2 ^ K) 0 := by unfold takeS; rw [va_up_at]
  unfold wf
  rw [e0, e1, e2]
  refine ⟨⟨h1, h4, rfl⟩, fun i hi j hj => ?_, pf_OK (pow4 h4)⟩
  show cpy e (S (b + 1)) 16 (4 * i + j) < 2 ^ K
  rw [cpy_in (by have : obS K (2 ^ K) 0 = K := rfl; omega)]
  exact he i hi j hj
theorem wf_same {S S' : Nat → Nat → Nat} {b : Nat} (h : wf S b) (h0 : S' b = S b) (h1 : S' (b + 1) = S (b + 1)) (h2 : S' (b + 2) = S (b + 2)) : wf S' b := by
  unfold wf
  rw [h0, h1, h2]
  exact h
theorem take_o {S : Nat → Nat → Nat} {b K i : Nat} {e : Nat → Nat} (h : i < b ∨ b + 2 < i) : takeS S b K e i = S i := by
  unfold takeS
  rw [va_up_o (by omega), va_up_o (by omega), va_up_o (by omega)]
theorem cub_o {S : Nat → Nat → Nat} {n i : Nat} (h : i < 6 ∨ 9 < i) : ∀ c, cubS S n c i = S i
  | 0 => rfl
  | c + 1 => by
    show takeS _ 6 n _ i = _
    rw [take_o (by omega), va_up_o (by omega), cub_o h c]
theorem cub_wf {S : Nat → Nat → Nat} {n : Nat} (h1 : 1 ≤ n) (h4 : n ≤ 4) (hS : wf S 6) : ∀ c, wf (cubS S n c) 6
  | 0 => hS
  | c + 1 => wf_take h1 h4 (fun i hi j hj => by
    unfold cubT
    rw [cf_at hi hj h4]
    exact rcV_lt _ _ _ _)
theorem WF_same {S S' : Nat → Nat → Nat} (hS : WF S) (h6 : wf S' 6) (h : ∀ i, i < 6 ∨ 12 < i → S' i = S i) : WF S' :=
  ⟨h6, fun k hk => wf_same (hS.2.1 k hk) (h _ (by omega)) (h _ (by omega)) (h _ (by omega)), fun m hm i hi => by rw [h (3 + m) (by omega)]; exact hS.2.2 m hm i hi⟩
theorem cub_WF {S : Nat → Nat → Nat} {n c : Nat} (h1 : 1 ≤ n) (h4 : n ≤ 4) (hS : WF S) : WF (cubS S n c) := WF_same hS (cub_wf h1 h4 hS.1 c) (fun i hi => cub_o (by omega) c)
theorem gE_W6S {cI cW cM : ClassId} {ad : Nat → Nat} {S S' : Nat → Nat → Nat} (hw : wf S 6) (h0 : S' 6 = S 6) (h1 : S' 7 = S 7) (h2 : S' 8 = S 8) : isW cI ad (gE cI cW cM ad S') 6 (S 6 0) (S 7) (S 8) :=
  ⟨by rw [gE_obj (by rfl), h0, hw.1.2.2], gIS 7 16 rfl (by decide) h1, gIS 8 256 rfl (by decide) h2⟩
def sC_cubes (x : Int32) : Int32 := rg 1 2 x (-2) fun N => nI (cnt (fun C => (lbr N (rcC N C)).isNone) (2 ^ (N * N * N)))
def nC_cubes (S : Nat → Nat → Nat) (x : Int32) : Nat → Nat → Nat := rg 1 2 x S fun N => cubS S N (2 ^ (N * N * N))
theorem n3 {N : Nat} (h : N ≤ 2) : N * N * N ≤ 8 := Nat.mul_le_mul (Nat.mul_le_mul h h) h
theorem k3_lt {x : Int32} (h : x < nI 1 → False) (h2 : x ≤ nI 2) : rB 1 2 x = true := decide_eq_true ⟨k2_le (fun z => h z), h2⟩
theorem rc_row {C N i : Nat} : C >>> (N * (N * i + N)) = C >>> (N * (N * (i + 1) + 0)) := by rw [Nat.mul_add N i 1, Nat.mul_one, Nat.add_zero]
theorem rc_col {C N i j : Nat} : (C >>> (N * (N * i + j))) >>> N = C >>> (N * (N * i + (j + 1))) := by rw [← Nat.shiftRight_add, ← Nat.add_assoc, Nat.mul_add N (N * i + j) 1, Nat.mul_one]
theorem cub_CB {S : Nat → Nat → Nat} {n C : Nat} {c : Nat → Nat} (hn : n ≤ 4) : CB n (cpy (cubT S n C) c 16) := fun i hi j hj => by
  rw [cub_cell hn hi hj]
  exact rcV_lt _ _ _ _
theorem gE_take6 {cI cW cM : ClassId} {ad : Nat → Nat} {S : Nat → Nat → Nat} {K : Nat} {e c t : Nat → Nat} (hc : S 7 = c) (ht : S 8 = t) : va_up (va_up (va_up (gE cI cW cM ad S) 6 (.inr (0, [.int (nI K), .int (nI (2 ^ K)), .ref (ad (6 + 1)), .ref (ad (6 + 2))]))) (6 + 1) (.inl (cI, 16, .inl (nF (cpy e c 16))))) (6 + 2) (.inl (cI, 256, .inl (nF (pf K (cpy e c 16) t (2 ^ K) 0)))) = gE cI cW cM ad (takeS S 6 K e) := by
  subst hc
  subst ht
  exact gE_take (b := 6) rfl rfl rfl

set_option maxHeartbeats 4000000 in
set_option maxRecDepth 100000 in
theorem c_X2_readCells (l : Launch) {D : va_G} {tys : List (ClassId × FieldType)} {A : Nat → Prop} {ad : Nat → Nat} {cI cW cM : ClassId} {tI tW tM : Nat} {S : Nat → Nat → Nat} (hI : tys[tI]? = some (cI, .int)) (hWt : tys[tW]? = some (cW, .object "CubeWorlds$World")) (hMt : tys[tM]? = some (cM, .array .int)) (hWF : WF S) {C0 N : Nat} (hC : C0 < 2 ^ 31) (hN : N ≤ 4) : Met l yX2_readCells wsX2_readCells ({ frames := 1, cells := 0, slots := 0, locals := 21 } : Room) (va_Pc [.ref (ad (0)), .int (nI (C0)), .int (nI (N))] (PW D tys A 33 ad (gE cI cW cM ad S))) (QW none (PW D tys A 33 ad (gE cI cW cM ad (va_up S 9 (cubT S N C0)))) A) 0 0 A := by
  refine g_writes (cc := cX2_readCells) (maxL := 6) (ret := none) (by decide) rfl (Nat.le_of_ble_eq_true rfl) ?_
  intro p e s m args below meth c hx hb hrt hts hown hlocks hml hP hK hD hS ls hl
  show W p l e ({ frames := 1, cells := 0, slots := 0, locals := 21 } : Room) s m args below meth c s.heap [] 0 0 _ _
  have hl : lv_has ls 6 [(0, .ref (ad (0))), (1, .int (nI (C0))), (2, .int (nI (N)))] := hl
  refine lv_iload_n hx hb dX2_readCells_0 rfl (lv_at hl 1 rfl) ?_
  refine lv_istore_n (lv' := [(3, .int (nI (C0))), (0, .ref (ad (0))), (1, .int (nI (C0))), (2, .int (nI (N)))]) hx hb dX2_readCells_1 rfl hl (by decide) rfl (fun ls hl => ?_)
  have hP : va_P D vwCl (pic 33 ad (gE cI cW cM ad (va_up S 9 (cf N (rcV C0 N) (S 9) 0 0)))) s.heap := by rw [cf_00, va_up_same rfl]; exact hP
  refine n_iconst 0 hx hb dX2_readCells_2 ?_
  refine lv_istore (lv' := [(4, .int (nI (0))), (3, .int (nI (C0))), (0, .ref (ad (0))), (1, .int (nI (C0))), (2, .int (nI (N)))]) hx hb dX2_readCells_3 hl (by decide) rfl (fun ls hl => ?_)
  have L_5 : ∀ (r : Nat) (i : Nat) (w : Nat), (i ≤ N) → (N < i + r) → (w = C0 >>> (N * (N * i + 0))) → ∀ (H : Heap) (locs : List Loc), va_P D vwCl (pic 33 ad (gE cI cW cM ad (va_up S 9 (cf N (rcV C0 N) (S 9) i 0)))) H → va_S A s.heap H locs → ∀ (ls : Array Slot), lv_has ls 6 [(0, .ref (ad (0))), (1, .int (nI (C0))), (2, .int (nI (N))), (3, .int (nI (w))), (4, .int (nI (i)))] → W p l e ({ frames := 1, cells := 0, slots := 0, locals := 21 } : Room) s m args below meth c H locs 0 0 (MQ below (QW none (PW D tys A 33 ad (gE cI cW cM ad (va_up S 9 (cubT S N C0)))) A) args s 0 0 A) (F0 m 5 ls []) := by
    intro r
    induction r with
    | zero => intro i w hi hr hw9; intros; exact absurd hr (by omega)
    | succ r ih =>
      intro i w hi hr hw9 H locs hP hS ls hl
      have ih_5 := ih
      refine lv_iload hx hb dX2_readCells_5 (lv_at hl 4 rfl) ?_
      refine lv_iload_n hx hb dX2_readCells_7 rfl (lv_at hl 2 rfl) ?_
      refine n_ge (tgt := 55) hx hb dX2_readCells_8 (by decide) (by omega) (by omega) (fun h_8 => ?_) (fun h_8 => ?_)
      · rw [show i = N by omega] at hP
        exact g_vretW hx hb hrt hlocks hK hP (pic_D _ hD) hS dX2_readCells_55
      · refine n_iconst 0 hx hb dX2_readCells_11 ?_
        refine lv_istore (lv' := [(5, .int (nI (0))), (0, .ref (ad (0))), (1, .int (nI (C0))), (2, .int (nI (N))), (3, .int (nI (w))), (4, .int (nI (i)))]) hx hb dX2_readCells_12 hl (by decide) rfl (fun ls hl => ?_)
        have L_14 : ∀ (r : Nat) (j : Nat) (w2 : Nat), (j ≤ N) → (N < j + r) → (w2 = C0 >>> (N * (N * i + j))) → ∀ (H : Heap) (locs : List Loc), va_P D vwCl (pic 33 ad (gE cI cW cM ad (va_up S 9 (cf N (rcV C0 N) (S 9) i j)))) H → va_S A s.heap H locs → ∀ (ls : Array Slot), lv_has ls 6 [(0, .ref (ad (0))), (1, .int (nI (C0))), (2, .int (nI (N))), (3, .int (nI (w2))), (4, .int (nI (i))), (5, .int (nI (j)))] → W p l e ({ frames := 1, cells := 0, slots := 0, locals := 21 } : Room) s m args below meth c H locs 0 0 (MQ below (QW none (PW D tys A 33 ad (gE cI cW cM ad (va_up S 9 (cubT S N C0)))) A) args s 0 0 A) (F0 m 14 ls []) := by
          intro r
          induction r with
          | zero => intro j w2 hj hr2 hw2; intros; exact absurd hr2 (by omega)
          | succ r ih =>
            intro j w2 hj hr2 hw2 H locs hP hS ls hl
            have ih_14 := ih
            rw [hw2] at hl
            refine lv_iload hx hb dX2_readCells_14 (lv_at hl 5 rfl) ?_
            refine lv_iload_n hx hb dX2_readCells_16 rfl (lv_at hl 2 rfl) ?_
            refine n_ge (tgt := 49) hx hb dX2_readCells_17 (by decide) (by omega) (by omega) (fun h_17 => ?_) (fun h_17 => ?_)
            · rw [show j = N by omega, cf_row] at hP
              refine n_iinc 4 1 (lv' := [(4, .int (nI (i + 1))), (0, .ref (ad (0))), (1, .int (nI (C0))), (2, .int (nI (N))), (3, .int (nI (C0 >>> (N * (N * i + j))))), (5, .int (nI (j)))]) hx hb dX2_readCells_49 hl rfl (by decide) rfl (fun ls hl => ?_)
              refine n_goto 5 hx hb dX2_readCells_52 (by decide) ?_
              exact ih_5 (i + 1) (C0 >>> (N * (N * i + j))) (by omega) (by omega) (by rw [show j = N by omega, rc_row]) _ _ hP hS _ (lv_sub hl [1, 2, 3, 4, 0] rfl)
            · have hr9 := shr_le C0 (N * (N * i + j))
              have hp9 : 0 < 2 ^ N := Nat.pow_pos (by decide)
              have hs9 := shl1 N
              refine lv_aload_n hx hb dX2_readCells_20 rfl (lv_at hl 0 rfl) ?_
              refine g_get (0) 3 (C := RX2) (T := TX2) (N := 7) (ci := 1) (ref := "CubeWorlds") hx hb hts (by decide +kernel) hown hK hP (by decide) rfl rfl (by decide) (by decide +kernel) rfl rfl dX2_readCells_21 ?_
              refine lv_iload hx hb dX2_readCells_24 (lv_at hl 4 rfl) ?_
              refine lv_iload hx hb dX2_readCells_26 (lv_at hl 5 rfl) ?_
              refine g_callS (As := [.int (nI (i)), .int (nI (j))]) (rest := [.ref (ad (9))]) (c_X2_cellIndex l hI (by omega) (gE_WS (S' := va_up S 9 (cf N (rcV C0 N) (S 9) i j)) (k := 0) (by decide) (hWF.2.1 0 (by decide)) (by repeat rw [va_up_o (by omega)]) (by repeat rw [va_up_o (by omega)]) (by repeat rw [va_up_o (by omega)])) (I := i) (J := j) (by omega) (by omega)) (va_cwS 2 hts gX2_readCells_X2_cellIndex rfl rfl rfl (by decide +kernel) ⟨Nat.le_of_ble_eq_true rfl, Nat.le_of_ble_eq_true rfl⟩) hx hb hml hown hts hK hP  rfl hl.1 rfl (Nat.le_of_ble_eq_true rfl) (Nat.zero_le _) (Nat.zero_le _) dX2_readCells_28 ?_
              refine lv_iload_n hx hb dX2_readCells_31 rfl (lv_at hl 3 rfl) ?_
              refine n_iconst 1 hx hb dX2_readCells_32 ?_
              refine lv_iload_n hx hb dX2_readCells_33 rfl (lv_at hl 2 rfl) ?_
              refine n_ishl hx hb dX2_readCells_34 (by omega) ?_
              refine n_iconst 1 hx hb dX2_readCells_35 ?_
              refine n_isub hx hb dX2_readCells_36 (by omega) ?_
              refine n_iand hx hb dX2_readCells_37 ?_
              refine g_iast (9) (4 * i + j) ((C0 >>> (N * (N * i + j))) &&& ((1 <<< N) - 1)) hx hb hK hP (pic_D _ hD) hS (by decide) (gIX (S' := va_up S 9 (cf N (rcV C0 N) (S 9) i j)) 9 16 rfl (by decide) (by exact va_up_at _ _ _)) hI (by omega) (by decide) dX2_readCells_38 (fun H locs hP hS => ?_)
              rw [gE_upL 9 16 rfl (by decide), va_up_up, show ((C0 >>> (N * (N * i + j))) &&& ((1 <<< N) - 1)) = rcV C0 N i j from by unfold rcV; rw [shl1], cf_put (by omega) (by omega)] at hP
              refine lv_iload_n hx hb dX2_readCells_39 rfl (lv_at hl 3 rfl) ?_
              refine lv_iload_n hx hb dX2_readCells_40 rfl (lv_at hl 2 rfl) ?_
              refine n_ishr hx hb dX2_readCells_41 (by omega) (by omega) ?_
              refine lv_istore_n (lv' := [(3, .int (nI ((C0 >>> (N * (N * i + j))) >>> N))), (0, .ref (ad (0))), (1, .int (nI (C0))), (2, .int (nI (N))), (4, .int (nI (i))), (5, .int (nI (j)))]) hx hb dX2_readCells_42 rfl hl (by decide) rfl (fun ls hl => ?_)
              refine n_iinc 5 1 (lv' := [(5, .int (nI (j + 1))), (3, .int (nI ((C0 >>> (N * (N * i + j))) >>> N))), (0, .ref (ad (0))), (1, .int (nI (C0))), (2, .int (nI (N))), (4, .int (nI (i)))]) hx hb dX2_readCells_43 hl rfl (by decide) rfl (fun ls hl => ?_)
              refine n_goto 14 hx hb dX2_readCells_46 (by decide) ?_
              exact ih_14 (j + 1) ((C0 >>> (N * (N * i + j))) >>> N) (by omega) (by omega) rc_col _ _ hP hS _ (lv_sub hl [2, 3, 4, 1, 5, 0] rfl)
        exact L_14 (N + 1) (0) (w) (Nat.zero_le _) (by omega) hw9 _ _ hP hS _ (lv_sub hl [1, 2, 3, 4, 5, 0] rfl)
  exact L_5 (N + 1) (0) (C0) (Nat.zero_le _) (by omega) rfl _ _ hP hS _ (lv_sub hl [2, 3, 4, 1, 0] rfl)
set_option maxHeartbeats 4000000 in
set_option maxRecDepth 100000 in
theorem c_X2_cubes (l : Launch) {D : va_G} {tys : List (ClassId × FieldType)} {A : Nat → Prop} {ad : Nat → Nat} {cI cW cM : ClassId} {tI tW tM : Nat} {S : Nat → Nat → Nat} (hI : tys[tI]? = some (cI, .int)) (hWt : tys[tW]? = some (cW, .object "CubeWorlds$World")) (hMt : tys[tM]? = some (cM, .array .int)) (hWF : WF S) {x : Int32} : Met l yX2_cubes wsX2_cubes ({ frames := 5, cells := 0, slots := 0, locals := 113 } : Room) (va_Pc [.ref (ad (0)), .int (x)] (PW D tys A 33 ad (gE cI cW cM ad S))) (QW (some (.int (sC_cubes x))) (PW D tys A 33 ad (gE cI cW cM ad (nC_cubes S x))) A) 0 0 A := by
  refine g_writes (cc := cX2_cubes) (maxL := 5) (ret := (some .int)) (by decide) rfl (Nat.le_of_ble_eq_true rfl) ?_
  intro p e s m args below meth c hx hb hrt hts hown hlocks hml hP hK hD hS ls hl
  show W p l e ({ frames := 5, cells := 0, slots := 0, locals := 113 } : Room) s m args below meth c s.heap [] 0 0 _ _
  have hl : lv_has ls 5 [(0, .ref (ad (0))), (1, .int (x))] := hl
  cases hs_0 : rB 1 2 x with
  | false =>
    refine lv_iload_n hx hb dX2_cubes_0 rfl (lv_at hl 1 rfl) ?_
    refine n_iconst 1 hx hb dX2_cubes_1 ?_
    refine lv_icmp_lt (tgt := 10) hx hb dX2_cubes_2 (by decide) (fun h_2 => ?_) (fun h_2 => ?_)
    · refine lv_bipush (v := (-2)) hx hb dX2_cubes_10 (by decide) ?_
      have hP : va_P D vwCl (pic 33 ad (gE cI cW cM ad (nC_cubes S x))) s.heap := by rw [show nC_cubes S x = S from by unfold nC_cubes; (try dsimp only [cN, cC, cM_]); rw [rg_n hs_0]]; exact hP
      exact g_iretW hx hb hrt hlocks hK hP (pic_D _ hD) hS dX2_cubes_12 (by unfold sC_cubes; (try dsimp only [cN, cC, cM_]); rw [rg_n hs_0])
    · refine lv_iload_n hx hb dX2_cubes_5 rfl (lv_at hl 1 rfl) ?_
      refine n_iconst 2 hx hb dX2_cubes_6 ?_
      refine lv_icmp_le (tgt := 13) hx hb dX2_cubes_7 (by decide) (fun h_7 => ?_) (fun h_7 => ?_)
      · exact absurd (k3_lt h_2 h_7) (by rw [hs_0]; decide)
      · refine lv_bipush (v := (-2)) hx hb dX2_cubes_10 (by decide) ?_
        have hP : va_P D vwCl (pic 33 ad (gE cI cW cM ad (nC_cubes S x))) s.heap := by rw [show nC_cubes S x = S from by unfold nC_cubes; (try dsimp only [cN, cC, cM_]); rw [rg_n hs_0]]; exact hP
        exact g_iretW hx hb hrt hlocks hK hP (pic_D _ hD) hS dX2_cubes_12 (by unfold sC_cubes; (try dsimp only [cN, cC, cM_]); rw [rg_n hs_0])
  | true =>
    obtain ⟨N, hN1, hN2, e9⟩ := rB_some (by omega) (by omega) hs_0
    subst e9
    refine lv_iload_n hx hb dX2_cubes_0 rfl (lv_at hl 1 rfl) ?_
    refine n_iconst 1 hx hb dX2_cubes_1 ?_
    refine n_lt (tgt := 10) hx hb dX2_cubes_2 (by decide) (by omega) (by decide) (fun h_2 => ?_) (fun h_2 => ?_)
    · exact absurd h_2 (by omega)
    · refine lv_iload_n hx hb dX2_cubes_5 rfl (lv_at hl 1 rfl) ?_
      refine n_iconst 2 hx hb dX2_cubes_6 ?_
      refine n_le (tgt := 13) hx hb dX2_cubes_7 (by decide) (by omega) (by decide) (fun h_7 => ?_) (fun h_7 => ?_)
      · have hN3 := n3 (N := N) (by omega)
        refine lv_iload_n hx hb dX2_cubes_13 rfl (lv_at hl 1 rfl) ?_
        refine lv_iload_n hx hb dX2_cubes_14 rfl (lv_at hl 1 rfl) ?_
        refine n_imul hx hb dX2_cubes_15 ?_
        refine lv_iload_n hx hb dX2_cubes_16 rfl (lv_at hl 1 rfl) ?_
        refine n_imul hx hb dX2_cubes_17 ?_
        refine lv_istore_n (lv' := [(2, .int (nI ((N * N) * N))), (0, .ref (ad (0))), (1, .int (nI (N)))]) hx hb dX2_cubes_18 rfl hl (by decide) rfl (fun ls hl => ?_)
        refine n_iconst 0 hx hb dX2_cubes_19 ?_
        refine lv_istore_n (lv' := [(3, .int (nI (0))), (2, .int (nI ((N * N) * N))), (0, .ref (ad (0))), (1, .int (nI (N)))]) hx hb dX2_cubes_20 rfl hl (by decide) rfl (fun ls hl => ?_)
        refine n_iconst 0 hx hb dX2_cubes_21 ?_
        refine lv_istore (lv' := [(4, .int (nI (0))), (3, .int (nI (0))), (2, .int (nI ((N * N) * N))), (0, .ref (ad (0))), (1, .int (nI (N)))]) hx hb dX2_cubes_22 hl (by decide) rfl (fun ls hl => ?_)
        have L_24 : ∀ (r : Nat) (acc : Nat) (C : Nat), (C ≤ 2 ^ (N * N * N)) → (2 ^ (N * N * N) < C + r) → (acc = cnt (fun C => (lbr N (rcC N C)).isNone) C) → ∀ (H : Heap) (locs : List Loc), va_P D vwCl (pic 33 ad (gE cI cW cM ad (cubS S N C))) H → va_S A s.heap H locs → ∀ (ls : Array Slot), lv_has ls 5 [(0, .ref (ad (0))), (1, .int (nI (N))), (2, .int (nI (N * N * N))), (3, .int (nI (acc))), (4, .int (nI (C)))] → W p l e ({ frames := 5, cells := 0, slots := 0, locals := 113 } : Room) s m args below meth c H locs 0 0 (MQ below (QW (some (.int (sC_cubes ((nI N))))) (PW D tys A 33 ad (gE cI cW cM ad (nC_cubes S ((nI N))))) A) args s 0 0 A) (F0 m 24 ls []) := by
          intro r
          induction r with
          | zero => intro acc C hc1 hr ha; intros; exact absurd hr (by omega)
          | succ r ih =>
            intro acc C hc1 hr ha H locs hP hS ls hl
            have ih_24 := ih
            have hp8 : 2 ^ (N * N * N) ≤ 256 := Nat.le_trans (pw2 hN3) (by decide)
            refine lv_iload hx hb dX2_cubes_24 (lv_at hl 4 rfl) ?_
            refine n_iconst 1 hx hb dX2_cubes_26 ?_
            refine lv_iload_n hx hb dX2_cubes_27 rfl (lv_at hl 2 rfl) ?_
            refine n_ishl hx hb dX2_cubes_28 (by omega) ?_
            refine n_eq (show nI (1 <<< (N * N * N)) = nI (2 ^ (N * N * N)) from by rw [shl1]) ?_
            refine n_ge (tgt := 70) hx hb dX2_cubes_29 (by decide) (by omega) (by omega) (fun h_29 => ?_) (fun h_29 => ?_)
            · rw [show C = 2 ^ (N * N * N) by omega] at hP
              refine lv_iload_n hx hb dX2_cubes_70 rfl (lv_at hl 3 rfl) ?_
              have hP : va_P D vwCl (pic 33 ad (gE cI cW cM ad (nC_cubes S ((nI N))))) H := by rw [show nC_cubes S ((nI N)) = cubS S N (2 ^ (N * N * N)) from by unfold nC_cubes; (try dsimp only [cN, cC, cM_]); rw [rg_y (by omega) (by omega) (by omega)]]; exact hP
              exact g_iretW hx hb hrt hlocks hK hP (pic_D _ hD) hS dX2_cubes_71 (by unfold sC_cubes; rw [rg_y (by omega) (by omega) (by omega), ha, show C = 2 ^ (N * N * N) by omega])
            · have hp8 : 2 ^ (N * N * N) ≤ 256 := Nat.le_trans (pw2 hN3) (by decide)
              refine lv_aload_n hx hb dX2_cubes_32 rfl (lv_at hl 0 rfl) ?_
              refine lv_iload hx hb dX2_cubes_33 (lv_at hl 4 rfl) ?_
              refine lv_iload_n hx hb dX2_cubes_35 rfl (lv_at hl 1 rfl) ?_
              refine g_callVW (0) (C := RX2) (T := TX2) (N := 7) (ci := 1) (As := [.int (nI (C)), .int (nI (N))]) (rest := []) (c_X2_readCells l hI hWt hMt (cub_WF (by omega) (by omega) hWF) (S := cubS S N C) (C0 := C) (N := N) (by omega) (by omega)) (cwV 2 hts gX2_cubes_X2_readCells rfl rfl rfl (by decide +kernel) ⟨Nat.le_of_ble_eq_true rfl, Nat.le_of_ble_eq_true rfl⟩) hx hb hml hown hts hK hP (pic_D _ hD) hS  (by decide) rfl rfl rfl hl.1 rfl (Nat.le_of_ble_eq_true rfl) (Nat.zero_le _) (Nat.zero_le _) dX2_cubes_36 (fun H locs hP hS => ?_)
              refine lv_aload_n hx hb dX2_cubes_39 rfl (lv_at hl 0 rfl) ?_
              refine g_get (0) 2 (C := RX2) (T := TX2) (N := 7) (ci := 1) (ref := "CubeWorlds") hx hb hts (by decide +kernel) hown hK hP (by decide) rfl rfl (by decide) (by decide +kernel) rfl rfl dX2_cubes_40 ?_
              refine lv_iload_n hx hb dX2_cubes_43 rfl (lv_at hl 1 rfl) ?_
              refine lv_aload_n hx hb dX2_cubes_44 rfl (lv_at hl 0 rfl) ?_
              refine g_get (0) 3 (C := RX2) (T := TX2) (N := 7) (ci := 1) (ref := "CubeWorlds") hx hb hts (by decide +kernel) hown hK hP (by decide) rfl rfl (by decide) (by decide +kernel) rfl rfl dX2_cubes_45 ?_
              refine g_callVW (6) (C := RX1) (T := TX1) (N := 4) (ci := 0) (As := [.int (nI (N)), .ref (ad (9))]) (rest := []) (c_X1_take l hI (by decide) (gE_W6S (S := cubS S N C) (S' := va_up (cubS S N C) 9 (cubT (cubS S N C) N C)) (cub_wf (by omega) (by omega) hWF.1 C) (by repeat rw [va_up_o (by omega)]) (by repeat rw [va_up_o (by omega)]) (by repeat rw [va_up_o (by omega)])) (K := N) (cx := 9) (e0 := cubT (cubS S N C) N C) (by omega) (by decide) (by decide) (gIX 9 16 rfl (by decide) (va_up_at _ _ _))) (cwV 2 hts gX2_cubes_X1_take rfl rfl rfl (by decide +kernel) ⟨Nat.le_of_ble_eq_true rfl, Nat.le_of_ble_eq_true rfl⟩) hx hb hml hown hts hK hP (pic_D _ hD) hS  (by decide) (gE_obj rfl) rfl rfl hl.1 rfl (Nat.le_of_ble_eq_true rfl) (Nat.zero_le _) (Nat.zero_le _) dX2_cubes_48 (fun H locs hP hS => ?_)
              refine lv_aload_n hx hb dX2_cubes_51 rfl (lv_at hl 0 rfl) ?_
              refine g_get (0) 2 (C := RX2) (T := TX2) (N := 7) (ci := 1) (ref := "CubeWorlds") hx hb hts (by decide +kernel) hown hK hP (by decide) (by rw [va_up_o (by decide), va_up_o (by decide), va_up_o (by decide)]; rfl) rfl (by decide) (by decide +kernel) rfl rfl dX2_cubes_52 ?_
              refine g_callV (6) (C := RX1) (T := TX1) (N := 4) (ci := 0) (As := []) (rest := []) (c_X1_isWhole l hI (by decide) isW.up12 (pf_OK (pow4 (by omega))) (by omega) (cub_CB (by omega))) (cwV 0 hts gX2_cubes_X1_isWhole rfl rfl rfl (by decide +kernel) ⟨Nat.le_of_ble_eq_true rfl, Nat.le_of_ble_eq_true rfl⟩) hx hb hml hown hts hK hP  (by decide) isW.up12.1 rfl rfl hl.1 rfl (Nat.le_of_ble_eq_true rfl) (Nat.zero_le _) (Nat.zero_le _) dX2_cubes_55 ?_
              rw [gE_take6 (va_up_o (show 7 ≠ 9 by decide)) (va_up_o (show 8 ≠ 9 by decide))] at hP
              have hP : va_P D vwCl (pic 33 ad (gE cI cW cM ad (cubS S N (C + 1)))) H := hP
              refine n_ifeq_b (tgt := 64) hx hb dX2_cubes_58 (by decide) (fun h_58 => ?_) (fun h_58 => ?_)
              · refine n_iinc 4 1 (lv' := [(4, .int (nI (C + 1))), (0, .ref (ad (0))), (1, .int (nI (N))), (2, .int (nI (N * N * N))), (3, .int (nI (acc)))]) hx hb dX2_cubes_64 hl rfl (by decide) rfl (fun ls hl => ?_)
                refine n_goto 24 hx hb dX2_cubes_67 (by decide) ?_
                exact ih_24 (acc) (C + 1) (by omega) (by omega) (by rw [ha, cnt_n (p := fun C => (lbr N (rcC N C)).isNone) (by rw [← lbr_cong (tm_cong (fun i hi j hj => cub_cell (S := cubS S N C) (c := (cubS S N C) 7) (by omega) hi hj))]; exact h_58)]) _ _ hP hS _ (lv_sub hl [1, 2, 3, 4, 0] rfl)
              · refine n_iinc 3 1 (lv' := [(3, .int (nI (acc + 1))), (0, .ref (ad (0))), (1, .int (nI (N))), (2, .int (nI (N * N * N))), (4, .int (nI (C)))]) hx hb dX2_cubes_61 hl rfl (by decide) rfl (fun ls hl => ?_)
                refine n_iinc 4 1 (lv' := [(4, .int (nI (C + 1))), (3, .int (nI (acc + 1))), (0, .ref (ad (0))), (1, .int (nI (N))), (2, .int (nI (N * N * N)))]) hx hb dX2_cubes_64 hl rfl (by decide) rfl (fun ls hl => ?_)
                refine n_goto 24 hx hb dX2_cubes_67 (by decide) ?_
                exact ih_24 (acc + 1) (C + 1) (by omega) (by omega) (by rw [ha, cnt_y (p := fun C => (lbr N (rcC N C)).isNone) (by rw [← lbr_cong (tm_cong (fun i hi j hj => cub_cell (S := cubS S N C) (c := (cubS S N C) 7) (by omega) hi hj))]; exact h_58)]) _ _ hP hS _ (lv_sub hl [2, 3, 4, 1, 0] rfl)
        exact L_24 (2 ^ (N * N * N) + 1) (0) (0) (Nat.zero_le _) (by omega) rfl _ _ hP hS _ (lv_sub hl [3, 4, 2, 1, 0] rfl)
      · exact absurd h_7 (by omega)
