/-! CubeWorldsModel: what the calls that write leave -/
def zrS (s : Nat) (f : Nat → Nat) (k q : Nat) : Nat := if 16 * s ≤ q ∧ q < 16 * s + k then 0 else f q
theorem zr_0 (s : Nat) (f : Nat → Nat) : zrS s f 0 = f := by
  funext q
  unfold zrS
  rw [if_neg (by omega)]
theorem zr_put {s : Nat} {f : Nat → Nat} {k : Nat} : va_up (zrS s f k) (16 * s + k) 0 = zrS s f (k + 1) := by
  funext q
  unfold va_up zrS
  by_cases h : q = 16 * s + k
  · rw [if_pos h, if_pos (by omega)]
  · rw [if_neg h]
    by_cases h2 : 16 * s ≤ q ∧ q < 16 * s + k
    · rw [if_pos h2, if_pos (by omega)]
    · rw [if_neg h2, if_neg (by omega)]
def clrS (S : Nat → Nat → Nat) (s n : Nat) : Nat → Nat → Nat := va_up (va_up S 26 (va_up (S 26) s n)) 27 (zrS s (S 27) 16)
def cpR (t : Nat) (f : Nat → Nat) (k q : Nat) : Nat := if 16 * t ≤ q ∧ q < 16 * t + k then f (64 + (q - 16 * t)) else f q
theorem cpR_0 (t : Nat) (f : Nat → Nat) : cpR t f 0 = f := by
  funext q
  unfold cpR
  rw [if_neg (by omega)]
theorem cpR_rd {t : Nat} {f : Nat → Nat} {k i : Nat} (ht : t < 4) (hk : k ≤ 16) : cpR t f k (16 * 4 + i) = f (64 + i) := by
  unfold cpR
  rw [if_neg (by omega)]
theorem cpR_put {t : Nat} {f : Nat → Nat} {k : Nat} : va_up (cpR t f k) (16 * t + k) (f (64 + k)) = cpR t f (k + 1) := by
  funext q
  unfold va_up cpR
  by_cases h : q = 16 * t + k
  · rw [if_pos h, if_pos (by omega), h]
    congr 1
    omega
  · rw [if_neg h]
    by_cases h2 : 16 * t ≤ q ∧ q < 16 * t + k
    · rw [if_pos h2, if_pos (by omega)]
    · rw [if_neg h2, if_neg (by omega)]
def cpyS (S : Nat → Nat → Nat) (t : Nat) : Nat → Nat → Nat := va_up (va_up S 26 (va_up (S 26) t (S 26 4))) 27 (cpR t (S 27) 16)
/-- the cube's cells from b on are filled -/
def cfR (b n : Nat) (v : Nat → Nat → Nat) (f : Nat → Nat) (x y q : Nat) : Nat := if (b ≤ q ∧ q < b + 16) ∧ (((q - b) / 4 < x ∧ (q - b) % 4 < n) ∨ ((q - b) / 4 = x ∧ (q - b) % 4 < y)) then v ((q - b) / 4) ((q - b) % 4) else f q
theorem cfR_00 (b n : Nat) (v : Nat → Nat → Nat) (f : Nat → Nat) : cfR b n v f 0 0 = f := by
  funext q
  unfold cfR
  rw [if_neg (by omega)]
theorem cfR_put {b n : Nat} {v : Nat → Nat → Nat} {f : Nat → Nat} {i j : Nat} (hi : i < n) (hj : j < n) (hn : n ≤ 4) : va_up (cfR b n v f i j) (b + 4 * i + j) (v i j) = cfR b n v f i (j + 1) := by
  funext q
  unfold va_up cfR
  by_cases h : q = b + 4 * i + j
  · have h1 : (q - b) / 4 = i := by omega
    have h2 : (q - b) % 4 = j := by omega
    rw [if_pos h, h1, h2, if_pos (by omega)]
  · rw [if_neg h]
    by_cases h2 : (b ≤ q ∧ q < b + 16) ∧ (((q - b) / 4 < i ∧ (q - b) % 4 < n) ∨ ((q - b) / 4 = i ∧ (q - b) % 4 < j))
    · rw [if_pos h2, if_pos (by omega)]
    · rw [if_neg h2, if_neg (by omega)]
theorem cfR_row {b n : Nat} {v : Nat → Nat → Nat} {f : Nat → Nat} {i : Nat} : cfR b n v f i n = cfR b n v f (i + 1) 0 := by
  funext q
  unfold cfR
  by_cases h : (b ≤ q ∧ q < b + 16) ∧ (((q - b) / 4 < i ∧ (q - b) % 4 < n) ∨ ((q - b) / 4 = i ∧ (q - b) % 4 < n))
  · rw [if_pos h, if_pos (by omega)]
  · rw [if_neg h, if_neg (by omega)]
theorem cfR_o {b n : Nat} {v : Nat → Nat → Nat} {f : Nat → Nat} {x y q : Nat} (h : q < b ∨ b + 16 ≤ q) : cfR b n v f x y q = f q := by
  unfold cfR
  rw [if_neg (by omega)]
theorem cfR_at {b n : Nat} {v : Nat → Nat → Nat} {f : Nat → Nat} {i j : Nat} (hi : i < n) (hj : j < n) (hn : n ≤ 4) : cfR b n v f n 0 (b + (4 * i + j)) = v i j := by
  unfold cfR
  have h1 : (b + (4 * i + j) - b) / 4 = i := by omega
  have h2 : (b + (4 * i + j) - b) % 4 = j := by omega
  rw [h1, h2, if_pos (by omega)]
/-- world t is that of n whose products of bits are v, by way of the row 4 -/
def newR (S : Nat → Nat → Nat) (t n : Nat) (v : Nat → Nat → Nat) : Nat → Nat → Nat := cpyS (va_up (clrS S 4 n) 27 (cfR 64 n v (clrS S 4 n 27) n 0)) t
def nR_world (S : Nat → Nat → Nat) (a x : Int32) : Nat → Nat → Nat := rg 0 3 a S fun k => rg 1 4 x S fun N => clrS S k N
def ptR (S : Nat → Nat → Nat) (k I J V : Nat) : Nat → Nat → Nat := va_up S 27 (va_up (S 27) (16 * k + 4 * I + J) V)
def nR_put (S : Nat → Nat → Nat) (a x y v : Int32) : Nat → Nat → Nat := rg 0 3 a S fun k => rg 0 (2 ^ rN_ S k - 1) v S fun V => rg 0 (rN_ S k - 1) x S fun I => rg 0 (rN_ S k - 1) y S fun J => ptR S k I J V
def nR_map (S : Nat → Nat → Nat) (a x v : Int32) : Nat → Nat → Nat := rg 0 2 a S fun g => rg 0 3 x S fun I => rg 0 15 v S fun V => va_up S 28 (va_up (S 28) (4 * g + I) V)
def nR_turn (S : Nat → Nat → Nat) (a b w : Int32) : Nat → Nat → Nat := rg 0 3 a S fun k => rg 0 3 b S fun u => rg 0 5 w S fun T => newR S k (rN_ S u) (tcS (rN_ S u) (rC S u) T)
def nR_carry (S : Nat → Nat → Nat) (a b : Int32) : Nat → Nat → Nat := rg 0 3 a S fun k => rg 0 3 b S fun u => if amf (rM S) (rN_ S u) then newR S k (rN_ S u) (crS (rN_ S u) (rC S u) (rM S)) else S
theorem clr_26 {S : Nat → Nat → Nat} {N u : Nat} (hu : u < 4) (f : Nat → Nat) : va_up (clrS S 4 N) 27 f 26 u = S 26 u := by
  show va_up (S 26) 4 N u = _
  rw [va_up_o (by omega)]
theorem clr_27 {S : Nat → Nat → Nat} {N n q : Nat} {v : Nat → Nat → Nat} {x y : Nat} (hq : q < 64) : cfR 64 n v (clrS S 4 N 27) x y q = S 27 q := by
  rw [cfR_o (by omega)]
  show zrS 4 (S 27) 16 q = _
  unfold zrS
  rw [if_neg (by omega)]
theorem clr_rC {S : Nat → Nat → Nat} {N n u : Nat} {v : Nat → Nat → Nat} {x y : Nat} (hu : u < 4) : rC (va_up (clrS S 4 N) 27 (cfR 64 n v (clrS S 4 N 27) x y)) u = rC S u := rC_eq hu (fun q hq => by rw [va_up_at]; exact clr_27 hq)
theorem clr_rC2 {S : Nat → Nat → Nat} {N n u : Nat} {v : Nat → Nat → Nat} {x y i w : Nat} (hu : u < 4) (hi : 64 ≤ i) : rC (va_up (clrS S 4 N) 27 (va_up (cfR 64 n v (clrS S 4 N 27) x y) i w)) u = rC S u := rC_eq hu (fun q hq => by rw [va_up_at, va_up_o (by omega)]; exact clr_27 hq)
theorem clr_z {S : Nat → Nat → Nat} {N n : Nat} {v : Nat → Nat → Nat} {i j : Nat} (hi : i < 4) (hj : j < 4) : cfR 64 n v (clrS S 4 N 27) i j (64 + 4 * i + j) = 0 := by
  unfold cfR
  rw [if_neg (by omega)]
  show zrS 4 (S 27) 16 _ = _
  unfold zrS
  rw [if_pos (by omega)]
theorem src_at {f : Nat → Nat} {n v x : Nat} (hx : x < 2 ^ n) (h : im f x = v) (hno : ∀ j, j < x → ¬ im f j = v) : src f n v = x := by
  unfold src
  rw [fl_at (p := fun x => im f x == v) (Nat.zero_le x) (by omega) (bT h) (fun j _ hj => bF (hno j hj))]
  rfl

set_option maxHeartbeats 4000000 in
set_option maxRecDepth 100000 in
theorem c_X3_clear (l : Launch) {D : va_G} {tys : List (ClassId × FieldType)} {A : Nat → Prop} {ad : Nat → Nat} {cI cW cM : ClassId} {tI : Nat} {S : Nat → Nat → Nat} (hI : tys[tI]? = some (cI, .int)) {k N : Nat} (hk5 : k < 5) : Met l yX3_clear wsX3_clear ({ frames := 0, cells := 0, slots := 0, locals := 0 } : Room) (va_Pc [.ref (ad (25)), .int (nI (k)), .int (nI (N))] (PW D tys A 33 ad (gE cI cW cM ad S))) (QW none (PW D tys A 33 ad (gE cI cW cM ad (clrS S k N))) A) 0 0 A := by
  refine g_writes (cc := cX3_clear) (maxL := 4) (ret := none) (by decide) rfl (Nat.le_of_ble_eq_true rfl) ?_
  intro p e s m args below meth c hx hb hrt hts hown hlocks hml hP hK hD hS ls hl
  show W p l e ({ frames := 0, cells := 0, slots := 0, locals := 0 } : Room) s m args below meth c s.heap [] 0 0 _ _
  have hl : lv_has ls 4 [(0, .ref (ad (25))), (1, .int (nI (k))), (2, .int (nI (N)))] := hl
  refine lv_aload_n hx hb dX3_clear_0 rfl (lv_at hl 0 rfl) ?_
  refine g_get (25) 0 (C := RX3) (T := TX3) (N := 7) (ci := 2) (ref := "CubeWorldsModel") hx hb hts (by decide +kernel) hown hK hP (by decide) rfl rfl (by decide) (by decide +kernel) rfl rfl dX3_clear_1 ?_
  refine lv_iload_n hx hb dX3_clear_4 rfl (lv_at hl 1 rfl) ?_
  refine lv_iload_n hx hb dX3_clear_5 rfl (lv_at hl 2 rfl) ?_
  refine g_iast (26) (k) (N) hx hb hK hP (pic_D _ hD) hS (by decide) (gIX (S' := S) (f := S 26) 26 5 rfl (by decide) rfl) hI hk5 (by decide) dX3_clear_6 (fun H locs hP hS => ?_)
  rw [gE_upL 26 5 rfl (by decide)] at hP
  have hP : va_P D vwCl (pic 33 ad (gE cI cW cM ad (va_up (va_up S 26 (va_up (S 26) k N)) 27 (zrS k (S 27) 0)))) H := by rw [zr_0, va_up_same (show va_up S 26 (va_up (S 26) k N) 27 = S 27 from rfl)]; exact hP
  refine n_iconst 0 hx hb dX3_clear_7 ?_
  refine lv_istore_n (lv' := [(3, .int (nI (0))), (0, .ref (ad (25))), (1, .int (nI (k))), (2, .int (nI (N)))]) hx hb dX3_clear_8 rfl hl (by decide) rfl (fun ls hl => ?_)
  have L_9 : ∀ (r : Nat) (i : Nat), (i ≤ 16) → (16 < i + r) → ∀ (H : Heap) (locs : List Loc), va_P D vwCl (pic 33 ad (gE cI cW cM ad (va_up (va_up S 26 (va_up (S 26) k N)) 27 (zrS k (S 27) i)))) H → va_S A s.heap H locs → ∀ (ls : Array Slot), lv_has ls 4 [(0, .ref (ad (25))), (1, .int (nI (k))), (2, .int (nI (N))), (3, .int (nI (i)))] → W p l e ({ frames := 0, cells := 0, slots := 0, locals := 0 } : Room) s m args below meth c H locs 0 0 (MQ below (QW none (PW D tys A 33 ad (gE cI cW cM ad (clrS S k N))) A) args s 0 0 A) (F0 m 9 ls []) := by
    intro r
    induction r with
    | zero => intro i hi hr; intros; exact absurd hr (by omega)
    | succ r ih =>
      intro i hi hr H locs hP hS ls hl
      have ih_9 := ih
      refine lv_iload_n hx hb dX3_clear_9 rfl (lv_at hl 3 rfl) ?_
      refine lv_bipush (v := nI 16) hx hb dX3_clear_10 (by decide) ?_
      refine n_ge (tgt := 33) hx hb dX3_clear_12 (by decide) (by omega) (by omega) (fun h_12 => ?_) (fun h_12 => ?_)
      · rw [show i = 16 by omega] at hP
        exact g_vretW hx hb hrt hlocks hK hP (pic_D _ hD) hS dX3_clear_33
      · refine lv_aload_n hx hb dX3_clear_15 rfl (lv_at hl 0 rfl) ?_
        refine g_get (25) 1 (C := RX3) (T := TX3) (N := 7) (ci := 2) (ref := "CubeWorldsModel") hx hb hts (by decide +kernel) hown hK hP (by decide) rfl rfl (by decide) (by decide +kernel) rfl rfl dX3_clear_16 ?_
        refine lv_bipush (v := nI 16) hx hb dX3_clear_19 (by decide) ?_
        refine lv_iload_n hx hb dX3_clear_21 rfl (lv_at hl 1 rfl) ?_
        refine n_imul hx hb dX3_clear_22 ?_
        refine lv_iload_n hx hb dX3_clear_23 rfl (lv_at hl 3 rfl) ?_
        refine n_iadd hx hb dX3_clear_24 ?_
        refine n_iconst 0 hx hb dX3_clear_25 ?_
        refine g_iast (27) ((16 * k) + i) (0) hx hb hK hP (pic_D _ hD) hS (by decide) (gIX (S' := va_up (va_up S 26 (va_up (S 26) k N)) 27 (zrS k (S 27) i)) 27 80 rfl (by decide) (by exact va_up_at _ _ _)) hI (by omega) (by decide) dX3_clear_26 (fun H locs hP hS => ?_)
        rw [gE_upL 27 80 rfl (by decide), va_up_up, zr_put] at hP
        refine n_iinc 3 1 (lv' := [(3, .int (nI (i + 1))), (0, .ref (ad (25))), (1, .int (nI (k))), (2, .int (nI (N)))]) hx hb dX3_clear_27 hl rfl (by decide) rfl (fun ls hl => ?_)
        refine n_goto 9 hx hb dX3_clear_30 (by decide) ?_
        exact ih_9 (i + 1) (by omega) (by omega) _ _ hP hS _ (lv_sub hl [1, 2, 3, 0] rfl)
  exact L_9 17 (0) (Nat.zero_le _) (by omega) _ _ hP hS _ (lv_sub hl [1, 2, 3, 0] rfl)
set_option maxHeartbeats 4000000 in
set_option maxRecDepth 100000 in
theorem c_X3_world (l : Launch) {D : va_G} {tys : List (ClassId × FieldType)} {A : Nat → Prop} {ad : Nat → Nat} {cI cW cM : ClassId} {tI : Nat} {S : Nat → Nat → Nat} (hI : tys[tI]? = some (cI, .int)) (hRF : RF S) {a x : Int32} : Met l yX3_world wsX3_world ({ frames := 2, cells := 0, slots := 0, locals := 42 } : Room) (va_Pc [.ref (ad (25)), .int (a), .int (x)] (PW D tys A 33 ad (gE cI cW cM ad S))) (QW (some (.int (sC_world a x))) (PW D tys A 33 ad (gE cI cW cM ad (nR_world S a x))) A) 0 0 A := by
  refine g_writes (cc := cX3_world) (maxL := 3) (ret := (some .int)) (by decide) rfl (Nat.le_of_ble_eq_true rfl) ?_
  intro p e s m args below meth c hx hb hrt hts hown hlocks hml hP hK hD hS ls hl
  show W p l e ({ frames := 2, cells := 0, slots := 0, locals := 42 } : Room) s m args below meth c s.heap [] 0 0 _ _
  have hl : lv_has ls 3 [(0, .ref (ad (25))), (1, .int (a)), (2, .int (x))] := hl
  refine lv_iload_n hx hb dX3_world_0 rfl (lv_at hl 1 rfl) ?_
  refine g_callS (As := [.int (a)]) (rest := []) (c_X3_isSlot l hI (v := a)) (va_cwS 1 hts gX3_world_X3_isSlot rfl rfl rfl (by decide +kernel) ⟨Nat.le_of_ble_eq_true rfl, Nat.le_of_ble_eq_true rfl⟩) hx hb hml hown hts hK hP  rfl hl.1 rfl (Nat.le_of_ble_eq_true rfl) (Nat.zero_le _) (Nat.zero_le _) dX3_world_1 ?_
  refine n_ifne_b (tgt := 9) hx hb dX3_world_4 (by decide) (fun h_4 => ?_) (fun h_4 => ?_)
  · obtain ⟨k, hk1, hk2, e9⟩ := rB_some (by omega) (by omega) h_4
    subst e9
    have hk5 : k < 5 := by omega
    have qk1 := (hRF.1 k (by omega)).1
    have h4k := qk1.2
    have hcbk := (hRF.1 k (by omega)).2
    have qk2 := pow4 h4k
    have qk3 : 0 < 2 ^ S 26 k := Nat.pow_pos (by decide)
    have qk4 := sq4 qk2
    refine lv_iload_n hx hb dX3_world_9 rfl (lv_at hl 2 rfl) ?_
    refine n_iconst 1 hx hb dX3_world_10 ?_
    refine n_iconst 4 hx hb dX3_world_11 ?_
    refine g_callS (As := [.int (x), .int (nI (1)), .int (nI (4))]) (rest := []) (c_X3_in l hI (v := x) (lo := 1) (hi := 4)) (va_cwS 3 hts gX3_world_X3_in rfl rfl rfl (by decide +kernel) ⟨Nat.le_of_ble_eq_true rfl, Nat.le_of_ble_eq_true rfl⟩) hx hb hml hown hts hK hP  rfl hl.1 rfl (Nat.le_of_ble_eq_true rfl) (Nat.zero_le _) (Nat.zero_le _) dX3_world_12 ?_
    refine n_ifne_b (tgt := 21) hx hb dX3_world_15 (by decide) (fun h_15 => ?_) (fun h_15 => ?_)
    · obtain ⟨N, hN1, hN2, e9⟩ := rB_some (by omega) (by omega) h_15
      subst e9
      refine lv_aload_n hx hb dX3_world_21 rfl (lv_at hl 0 rfl) ?_
      refine lv_iload_n hx hb dX3_world_22 rfl (lv_at hl 1 rfl) ?_
      refine lv_iload_n hx hb dX3_world_23 rfl (lv_at hl 2 rfl) ?_
      refine g_callVW (25) (C := RX3) (T := TX3) (N := 7) (ci := 2) (As := [.int (nI (k)), .int (nI (N))]) (rest := []) (c_X3_clear l hI (S := S) (k := k) (N := N) (by omega)) (cwV 2 hts gX3_world_X3_clear rfl rfl rfl (by decide +kernel) ⟨Nat.le_of_ble_eq_true rfl, Nat.le_of_ble_eq_true rfl⟩) hx hb hml hown hts hK hP (pic_D _ hD) hS  (by decide) rfl rfl rfl hl.1 rfl (Nat.le_of_ble_eq_true rfl) (Nat.zero_le _) (Nat.zero_le _) dX3_world_24 (fun H locs hP hS => ?_)
      refine n_iconst 1 hx hb dX3_world_27 ?_
      refine lv_iload_n hx hb dX3_world_28 rfl (lv_at hl 2 rfl) ?_
      refine n_ishl hx hb dX3_world_29 (by omega) ?_
      refine n_eq (show nI (1 <<< N) = nI (2 ^ N) from by rw [shl1]) ?_
      have hP : va_P D vwCl (pic 33 ad (gE cI cW cM ad (nR_world S ((nI k)) ((nI N))))) H := by rw [show nR_world S ((nI k)) ((nI N)) = clrS S k N from by unfold nR_world; (try dsimp only [rN_]); rw [rg_y (by omega) (by omega) (by omega), rg_y (by omega) (by omega) (by omega)]]; exact hP
      exact g_iretW hx hb hrt hlocks hK hP (pic_D _ hD) hS dX3_world_30 (by unfold sC_world; (try dsimp only [rN_]); rw [rg_y (by omega) (by omega) (by omega), rg_y (by omega) (by omega) (by omega)])
    · refine lv_bipush (v := (-2)) hx hb dX3_world_18 (by decide) ?_
      have hP : va_P D vwCl (pic 33 ad (gE cI cW cM ad (nR_world S ((nI k)) x))) s.heap := by rw [show nR_world S ((nI k)) x = S from by unfold nR_world; (try dsimp only [rN_]); rw [rg_y (by omega) (by omega) (by omega), rg_n h_15]]; exact hP
      exact g_iretW hx hb hrt hlocks hK hP (pic_D _ hD) hS dX3_world_20 (by unfold sC_world; (try dsimp only [rN_]); rw [rg_y (by omega) (by omega) (by omega), rg_n h_15])
  · refine lv_iconst (v := (-1)) hx hb dX3_world_7 (by decide) ?_
    have hP : va_P D vwCl (pic 33 ad (gE cI cW cM ad (nR_world S a x))) s.heap := by rw [show nR_world S a x = S from by unfold nR_world; (try dsimp only [rN_]); rw [rg_n h_4]]; exact hP
    exact g_iretW hx hb hrt hlocks hK hP (pic_D _ hD) hS dX3_world_8 (by unfold sC_world; (try dsimp only [rN_]); rw [rg_n h_4])
set_option maxHeartbeats 4000000 in
set_option maxRecDepth 100000 in
theorem c_X3_put (l : Launch) {D : va_G} {tys : List (ClassId × FieldType)} {A : Nat → Prop} {ad : Nat → Nat} {cI cW cM : ClassId} {tI : Nat} {S : Nat → Nat → Nat} (hI : tys[tI]? = some (cI, .int)) (hRF : RF S) {a x y v : Int32} : Met l yX3_put wsX3_put ({ frames := 2, cells := 0, slots := 0, locals := 44 } : Room) (va_Pc [.ref (ad (25)), .int (a), .int (x), .int (y), .int (v)] (PW D tys A 33 ad (gE cI cW cM ad S))) (QW (some (.int (sC_put (rN_ S) (rC S) a x y v))) (PW D tys A 33 ad (gE cI cW cM ad (nR_put S a x y v))) A) 0 0 A := by
  refine g_writes (cc := cX3_put) (maxL := 7) (ret := (some .int)) (by decide) rfl (Nat.le_of_ble_eq_true rfl) ?_
  intro p e s m args below meth c hx hb hrt hts hown hlocks hml hP hK hD hS ls hl
  show W p l e ({ frames := 2, cells := 0, slots := 0, locals := 44 } : Room) s m args below meth c s.heap [] 0 0 _ _
  have hl : lv_has ls 7 [(0, .ref (ad (25))), (1, .int (a)), (2, .int (x)), (3, .int (y)), (4, .int (v))] := hl
  refine lv_iload_n hx hb dX3_put_0 rfl (lv_at hl 1 rfl) ?_
  refine g_callS (As := [.int (a)]) (rest := []) (c_X3_isSlot l hI (v := a)) (va_cwS 1 hts gX3_put_X3_isSlot rfl rfl rfl (by decide +kernel) ⟨Nat.le_of_ble_eq_true rfl, Nat.le_of_ble_eq_true rfl⟩) hx hb hml hown hts hK hP  rfl hl.1 rfl (Nat.le_of_ble_eq_true rfl) (Nat.zero_le _) (Nat.zero_le _) dX3_put_1 ?_
  refine n_ifeq_b (tgt := 17) hx hb dX3_put_4 (by decide) (fun h_4 => ?_) (fun h_4 => ?_)
  · refine lv_iconst (v := (-1)) hx hb dX3_put_17 (by decide) ?_
    have hP : va_P D vwCl (pic 33 ad (gE cI cW cM ad (nR_put S a x y v))) s.heap := by rw [show nR_put S a x y v = S from by unfold nR_put; (try dsimp only [rN_]); rw [rg_n h_4]]; exact hP
    exact g_iretW hx hb hrt hlocks hK hP (pic_D _ hD) hS dX3_put_18 (by unfold sC_put; (try dsimp only [rN_]); rw [rg_n h_4])
  · obtain ⟨k, hk1, hk2, e9⟩ := rB_some (by omega) (by omega) h_4
    subst e9
    have hk5 : k < 5 := by omega
    have qk1 := (hRF.1 k (by omega)).1
    have h4k := qk1.2
    have hcbk := (hRF.1 k (by omega)).2
    have qk2 := pow4 h4k
    have qk3 : 0 < 2 ^ S 26 k := Nat.pow_pos (by decide)
    have qk4 := sq4 qk2
    refine lv_aload_n hx hb dX3_put_7 rfl (lv_at hl 0 rfl) ?_
    refine lv_iload_n hx hb dX3_put_8 rfl (lv_at hl 1 rfl) ?_
    refine lv_iload hx hb dX3_put_9 (lv_at hl 4 rfl) ?_
    refine g_callV (25) (C := RX3) (T := TX3) (N := 7) (ci := 2) (As := [.int (nI (k)), .int (v)]) (rest := []) (c_X3_isNumber l hI (k := k) hk5 h4k (v := v)) (cwV 2 hts gX3_put_X3_isNumber rfl rfl rfl (by decide +kernel) ⟨Nat.le_of_ble_eq_true rfl, Nat.le_of_ble_eq_true rfl⟩) hx hb hml hown hts hK hP  (by decide) rfl rfl rfl hl.1 rfl (Nat.le_of_ble_eq_true rfl) (Nat.zero_le _) (Nat.zero_le _) dX3_put_11 ?_
    refine n_ifne_b (tgt := 19) hx hb dX3_put_14 (by decide) (fun h_14 => ?_) (fun h_14 => ?_)
    · obtain ⟨V, hV1, hV2, e9⟩ := rB_some (by omega) (by omega) h_14
      subst e9
      refine lv_iload_n hx hb dX3_put_19 rfl (lv_at hl 2 rfl) ?_
      refine n_iconst 0 hx hb dX3_put_20 ?_
      refine lv_aload_n hx hb dX3_put_21 rfl (lv_at hl 0 rfl) ?_
      refine g_get (25) 0 (C := RX3) (T := TX3) (N := 7) (ci := 2) (ref := "CubeWorldsModel") hx hb hts (by decide +kernel) hown hK hP (by decide) rfl rfl (by decide) (by decide +kernel) rfl rfl dX3_put_22 ?_
      refine lv_iload_n hx hb dX3_put_25 rfl (lv_at hl 1 rfl) ?_
      refine g_iald (26) (k) (t0 := _) hx hb hK hP (by decide) (gIX (S' := S) (f := S 26) 26 5 rfl (by decide) rfl) hI (by omega) (by decide) dX3_put_26 ?_
      refine n_iconst 1 hx hb dX3_put_27 ?_
      refine n_isub hx hb dX3_put_28 (by omega) ?_
      refine g_callS (As := [.int (x), .int (nI (0)), .int (nI (((S 26) (k)) - 1))]) (rest := []) (c_X3_in l hI (v := x) (lo := 0) (hi := ((S 26) (k)) - 1)) (va_cwS 3 hts gX3_put_X3_in rfl rfl rfl (by decide +kernel) ⟨Nat.le_of_ble_eq_true rfl, Nat.le_of_ble_eq_true rfl⟩) hx hb hml hown hts hK hP  rfl hl.1 rfl (Nat.le_of_ble_eq_true rfl) (Nat.zero_le _) (Nat.zero_le _) dX3_put_29 ?_
      refine n_ifeq_b (tgt := 51) hx hb dX3_put_32 (by decide) (fun h_32 => ?_) (fun h_32 => ?_)
      · refine lv_bipush (v := (-2)) hx hb dX3_put_51 (by decide) ?_
        have hP : va_P D vwCl (pic 33 ad (gE cI cW cM ad (nR_put S ((nI k)) x y ((nI V))))) s.heap := by rw [show nR_put S ((nI k)) x y ((nI V)) = S from by unfold nR_put; (try dsimp only [rN_]); rw [rg_y (by omega) (by omega) (by omega), rg_y (by omega) (by omega) (by omega), rg_n h_32]]; exact hP
        exact g_iretW hx hb hrt hlocks hK hP (pic_D _ hD) hS dX3_put_53 (by unfold sC_put; (try dsimp only [rN_]); rw [rg_y (by omega) (by omega) (by omega), rg_y (by omega) (by omega) (by omega), rg_n h_32])
      · obtain ⟨I, hI1, hI2, e9⟩ := rB_some (by omega) (by omega) h_32
        subst e9
        refine lv_iload_n hx hb dX3_put_35 rfl (lv_at hl 3 rfl) ?_
        refine n_iconst 0 hx hb dX3_put_36 ?_
        refine lv_aload_n hx hb dX3_put_37 rfl (lv_at hl 0 rfl) ?_
        refine g_get (25) 0 (C := RX3) (T := TX3) (N := 7) (ci := 2) (ref := "CubeWorldsModel") hx hb hts (by decide +kernel) hown hK hP (by decide) rfl rfl (by decide) (by decide +kernel) rfl rfl dX3_put_38 ?_
        refine lv_iload_n hx hb dX3_put_41 rfl (lv_at hl 1 rfl) ?_
        refine g_iald (26) (k) (t0 := _) hx hb hK hP (by decide) (gIX (S' := S) (f := S 26) 26 5 rfl (by decide) rfl) hI (by omega) (by decide) dX3_put_42 ?_
        refine n_iconst 1 hx hb dX3_put_43 ?_
        refine n_isub hx hb dX3_put_44 (by omega) ?_
        refine g_callS (As := [.int (y), .int (nI (0)), .int (nI (((S 26) (k)) - 1))]) (rest := []) (c_X3_in l hI (v := y) (lo := 0) (hi := ((S 26) (k)) - 1)) (va_cwS 3 hts gX3_put_X3_in rfl rfl rfl (by decide +kernel) ⟨Nat.le_of_ble_eq_true rfl, Nat.le_of_ble_eq_true rfl⟩) hx hb hml hown hts hK hP  rfl hl.1 rfl (Nat.le_of_ble_eq_true rfl) (Nat.zero_le _) (Nat.zero_le _) dX3_put_45 ?_
        refine n_ifne_b (tgt := 54) hx hb dX3_put_48 (by decide) (fun h_48 => ?_) (fun h_48 => ?_)
        · obtain ⟨J, hJ1, hJ2, e9⟩ := rB_some (by omega) (by omega) h_48
          subst e9
          refine lv_bipush (v := nI 16) hx hb dX3_put_54 (by decide) ?_
          refine lv_iload_n hx hb dX3_put_56 rfl (lv_at hl 1 rfl) ?_
          refine n_imul hx hb dX3_put_57 ?_
          refine n_iconst 4 hx hb dX3_put_58 ?_
          refine lv_iload_n hx hb dX3_put_59 rfl (lv_at hl 2 rfl) ?_
          refine n_imul hx hb dX3_put_60 ?_
          refine n_iadd hx hb dX3_put_61 ?_
          refine lv_iload_n hx hb dX3_put_62 rfl (lv_at hl 3 rfl) ?_
          refine n_iadd hx hb dX3_put_63 ?_
          refine lv_istore (lv' := [(5, .int (nI (((16 * k) + (4 * I)) + J))), (0, .ref (ad (25))), (1, .int (nI (k))), (2, .int (nI (I))), (3, .int (nI (J))), (4, .int (nI (V)))]) hx hb dX3_put_64 hl (by decide) rfl (fun ls hl => ?_)
          refine lv_aload_n hx hb dX3_put_66 rfl (lv_at hl 1 rfl) ?_
          refine g_get (25) 1 (C := RX3) (T := TX3) (N := 7) (ci := 2) (ref := "CubeWorldsModel") hx hb hts (by decide +kernel) hown hK hP (by decide) rfl rfl (by decide) (by decide +kernel) rfl rfl dX3_put_67 ?_
          refine lv_iload hx hb dX3_put_70 (lv_at hl 0 rfl) ?_
          refine g_iald (27) (((16 * k) + (4 * I)) + J) (t0 := _) hx hb hK hP (by decide) (gIX (S' := S) (f := S 27) 27 80 rfl (by decide) rfl) hI (by omega) (by decide) dX3_put_72 ?_
          refine n_eq (show nI ((S 27) (((16 * k) + (4 * I)) + J)) = nI (rC S k (4 * I + J)) from by rw [rC_at S k I J (by omega) (by omega)]) ?_
          refine lv_istore (lv' := [(6, .int (nI (rC S k (4 * I + J)))), (5, .int (nI (((16 * k) + (4 * I)) + J))), (0, .ref (ad (25))), (1, .int (nI (k))), (2, .int (nI (I))), (3, .int (nI (J))), (4, .int (nI (V)))]) hx hb dX3_put_73 hl (by decide) rfl (fun ls hl => ?_)
          refine lv_aload_n hx hb dX3_put_75 rfl (lv_at hl 2 rfl) ?_
          refine g_get (25) 1 (C := RX3) (T := TX3) (N := 7) (ci := 2) (ref := "CubeWorldsModel") hx hb hts (by decide +kernel) hown hK hP (by decide) rfl rfl (by decide) (by decide +kernel) rfl rfl dX3_put_76 ?_
          refine lv_iload hx hb dX3_put_79 (lv_at hl 1 rfl) ?_
          refine lv_iload hx hb dX3_put_81 (lv_at hl 6 rfl) ?_
          refine g_iast (27) (((16 * k) + (4 * I)) + J) (V) hx hb hK hP (pic_D _ hD) hS (by decide) (gIX (S' := S) (f := S 27) 27 80 rfl (by decide) rfl) hI (by omega) (by decide) dX3_put_83 (fun H locs hP hS => ?_)
          rw [gE_upL 27 80 rfl (by decide)] at hP
          refine lv_iload hx hb dX3_put_84 (lv_at hl 0 rfl) ?_
          have hP : va_P D vwCl (pic 33 ad (gE cI cW cM ad (nR_put S ((nI k)) ((nI I)) ((nI J)) ((nI V))))) H := by rw [show nR_put S ((nI k)) ((nI I)) ((nI J)) ((nI V)) = ptR S k I J V from by unfold nR_put; (try dsimp only [rN_]); rw [rg_y (by omega) (by omega) (by omega), rg_y (by omega) (by omega) (by omega), rg_y (by omega) (by omega) (by omega), rg_y (by omega) (by omega) (by omega)]]; exact hP
          exact g_iretW hx hb hrt hlocks hK hP (pic_D _ hD) hS dX3_put_86 (by unfold sC_put; (try dsimp only [rN_]); rw [rg_y (by omega) (by omega) (by omega), rg_y (by omega) (by omega) (by omega), rg_y (by omega) (by omega) (by omega), rg_y (by omega) (by omega) (by omega)])
        · refine lv_bipush (v := (-2)) hx hb dX3_put_51 (by decide) ?_
          have hP : va_P D vwCl (pic 33 ad (gE cI cW cM ad (nR_put S ((nI k)) ((nI I)) y ((nI V))))) s.heap := by rw [show nR_put S ((nI k)) ((nI I)) y ((nI V)) = S from by unfold nR_put; (try dsimp only [rN_]); rw [rg_y (by omega) (by omega) (by omega), rg_y (by omega) (by omega) (by omega), rg_y (by omega) (by omega) (by omega), rg_n h_48]]; exact hP
          exact g_iretW hx hb hrt hlocks hK hP (pic_D _ hD) hS dX3_put_53 (by unfold sC_put; (try dsimp only [rN_]); rw [rg_y (by omega) (by omega) (by omega), rg_y (by omega) (by omega) (by omega), rg_y (by omega) (by omega) (by omega), rg_n h_48])
    · refine lv_iconst (v := (-1)) hx hb dX3_put_17 (by decide) ?_
      have hP : va_P D vwCl (pic 33 ad (gE cI cW cM ad (nR_put S ((nI k)) x y v))) s.heap := by rw [show nR_put S ((nI k)) x y v = S from by unfold nR_put; (try dsimp only [rN_]); rw [rg_y (by omega) (by omega) (by omega), rg_n h_14]]; exact hP
      exact g_iretW hx hb hrt hlocks hK hP (pic_D _ hD) hS dX3_put_18 (by unfold sC_put; (try dsimp only [rN_]); rw [rg_y (by omega) (by omega) (by omega), rg_n h_14])
set_option maxHeartbeats 4000000 in
set_option maxRecDepth 100000 in
theorem c_X3_map (l : Launch) {D : va_G} {tys : List (ClassId × FieldType)} {A : Nat → Prop} {ad : Nat → Nat} {cI cW cM : ClassId} {tI : Nat} {S : Nat → Nat → Nat} (hI : tys[tI]? = some (cI, .int)) (hRF : RF S) {a x v : Int32} : Met l yX3_map wsX3_map ({ frames := 2, cells := 0, slots := 0, locals := 42 } : Room) (va_Pc [.ref (ad (25)), .int (a), .int (x), .int (v)] (PW D tys A 33 ad (gE cI cW cM ad S))) (QW (some (.int (sC_map (rM S) a x v))) (PW D tys A 33 ad (gE cI cW cM ad (nR_map S a x v))) A) 0 0 A := by
  refine g_writes (cc := cX3_map) (maxL := 5) (ret := (some .int)) (by decide) rfl (Nat.le_of_ble_eq_true rfl) ?_
  intro p e s m args below meth c hx hb hrt hts hown hlocks hml hP hK hD hS ls hl
  show W p l e ({ frames := 2, cells := 0, slots := 0, locals := 42 } : Room) s m args below meth c s.heap [] 0 0 _ _
  have hl : lv_has ls 5 [(0, .ref (ad (25))), (1, .int (a)), (2, .int (x)), (3, .int (v))] := hl
  refine lv_iload_n hx hb dX3_map_0 rfl (lv_at hl 1 rfl) ?_
  refine g_callS (As := [.int (a)]) (rest := []) (c_X3_isMap l hI (v := a)) (va_cwS 1 hts gX3_map_X3_isMap rfl rfl rfl (by decide +kernel) ⟨Nat.le_of_ble_eq_true rfl, Nat.le_of_ble_eq_true rfl⟩) hx hb hml hown hts hK hP  rfl hl.1 rfl (Nat.le_of_ble_eq_true rfl) (Nat.zero_le _) (Nat.zero_le _) dX3_map_1 ?_
  refine n_ifne_b (tgt := 9) hx hb dX3_map_4 (by decide) (fun h_4 => ?_) (fun h_4 => ?_)
  · obtain ⟨g, hg1, hg2, e9⟩ := rB_some (by omega) (by omega) h_4
    subst e9
    refine lv_iload_n hx hb dX3_map_9 rfl (lv_at hl 2 rfl) ?_
    refine n_iconst 0 hx hb dX3_map_10 ?_
    refine n_iconst 3 hx hb dX3_map_11 ?_
    refine g_callS (As := [.int (x), .int (nI (0)), .int (nI (3))]) (rest := []) (c_X3_in l hI (v := x) (lo := 0) (hi := 3)) (va_cwS 3 hts gX3_map_X3_in rfl rfl rfl (by decide +kernel) ⟨Nat.le_of_ble_eq_true rfl, Nat.le_of_ble_eq_true rfl⟩) hx hb hml hown hts hK hP  rfl hl.1 rfl (Nat.le_of_ble_eq_true rfl) (Nat.zero_le _) (Nat.zero_le _) dX3_map_12 ?_
    refine n_ifeq_b (tgt := 28) hx hb dX3_map_15 (by decide) (fun h_15 => ?_) (fun h_15 => ?_)
    · refine lv_bipush (v := (-2)) hx hb dX3_map_28 (by decide) ?_
      have hP : va_P D vwCl (pic 33 ad (gE cI cW cM ad (nR_map S ((nI g)) x v))) s.heap := by rw [show nR_map S ((nI g)) x v = S from by unfold nR_map; (try dsimp only [rN_]); rw [rg_y (by omega) (by omega) (by omega), rg_n h_15]]; exact hP
      exact g_iretW hx hb hrt hlocks hK hP (pic_D _ hD) hS dX3_map_30 (by unfold sC_map; (try dsimp only [rN_]); rw [rg_y (by omega) (by omega) (by omega), rg_n h_15])
    · obtain ⟨I, hI1, hI2, e9⟩ := rB_some (by omega) (by omega) h_15
      subst e9
      refine lv_iload_n hx hb dX3_map_18 rfl (lv_at hl 3 rfl) ?_
      refine n_iconst 0 hx hb dX3_map_19 ?_
      refine lv_bipush (v := nI 15) hx hb dX3_map_20 (by decide) ?_
      refine g_callS (As := [.int (v), .int (nI (0)), .int (nI (15))]) (rest := []) (c_X3_in l hI (v := v) (lo := 0) (hi := 15)) (va_cwS 3 hts gX3_map_X3_in rfl rfl rfl (by decide +kernel) ⟨Nat.le_of_ble_eq_true rfl, Nat.le_of_ble_eq_true rfl⟩) hx hb hml hown hts hK hP  rfl hl.1 rfl (Nat.le_of_ble_eq_true rfl) (Nat.zero_le _) (Nat.zero_le _) dX3_map_22 ?_
      refine n_ifne_b (tgt := 31) hx hb dX3_map_25 (by decide) (fun h_25 => ?_) (fun h_25 => ?_)
      · obtain ⟨V, hV1, hV2, e9⟩ := rB_some (by omega) (by omega) h_25
        subst e9
        refine lv_aload_n hx hb dX3_map_31 rfl (lv_at hl 0 rfl) ?_
        refine g_get (25) 2 (C := RX3) (T := TX3) (N := 7) (ci := 2) (ref := "CubeWorldsModel") hx hb hts (by decide +kernel) hown hK hP (by decide) rfl rfl (by decide) (by decide +kernel) rfl rfl dX3_map_32 ?_
        refine n_iconst 4 hx hb dX3_map_35 ?_
        refine lv_iload_n hx hb dX3_map_36 rfl (lv_at hl 1 rfl) ?_
        refine n_imul hx hb dX3_map_37 ?_
        refine lv_iload_n hx hb dX3_map_38 rfl (lv_at hl 2 rfl) ?_
        refine n_iadd hx hb dX3_map_39 ?_
        refine g_iald (28) ((4 * g) + I) (t0 := _) hx hb hK hP (by decide) (gIX (S' := S) (f := S 28) 28 12 rfl (by decide) rfl) hI (by omega) (by decide) dX3_map_40 ?_
        refine n_eq (show nI ((S 28) ((4 * g) + I)) = nI (rM S g I) from rfl) ?_
        refine lv_istore (lv' := [(4, .int (nI (rM S g I))), (0, .ref (ad (25))), (1, .int (nI (g))), (2, .int (nI (I))), (3, .int (nI (V)))]) hx hb dX3_map_41 hl (by decide) rfl (fun ls hl => ?_)
        refine lv_aload_n hx hb dX3_map_43 rfl (lv_at hl 1 rfl) ?_
        refine g_get (25) 2 (C := RX3) (T := TX3) (N := 7) (ci := 2) (ref := "CubeWorldsModel") hx hb hts (by decide +kernel) hown hK hP (by decide) rfl rfl (by decide) (by decide +kernel) rfl rfl dX3_map_44 ?_
        refine n_iconst 4 hx hb dX3_map_47 ?_
        refine lv_iload_n hx hb dX3_map_48 rfl (lv_at hl 2 rfl) ?_
        refine n_imul hx hb dX3_map_49 ?_
        refine lv_iload_n hx hb dX3_map_50 rfl (lv_at hl 3 rfl) ?_
        refine n_iadd hx hb dX3_map_51 ?_
        refine lv_iload_n hx hb dX3_map_52 rfl (lv_at hl 4 rfl) ?_
        refine g_iast (28) ((4 * g) + I) (V) hx hb hK hP (pic_D _ hD) hS (by decide) (gIX (S' := S) (f := S 28) 28 12 rfl (by decide) rfl) hI (by omega) (by decide) dX3_map_53 (fun H locs hP hS => ?_)
        rw [gE_upL 28 12 rfl (by decide)] at hP
        refine lv_iload hx hb dX3_map_54 (lv_at hl 0 rfl) ?_
        have hP : va_P D vwCl (pic 33 ad (gE cI cW cM ad (nR_map S ((nI g)) ((nI I)) ((nI V))))) H := by rw [show nR_map S ((nI g)) ((nI I)) ((nI V)) = va_up S 28 (va_up (S 28) (4 * g + I) V) from by unfold nR_map; (try dsimp only [rN_]); rw [rg_y (by omega) (by omega) (by omega), rg_y (by omega) (by omega) (by omega), rg_y (by omega) (by omega) (by omega)]]; exact hP
        exact g_iretW hx hb hrt hlocks hK hP (pic_D _ hD) hS dX3_map_56 (by unfold sC_map; (try dsimp only [rN_]); rw [rg_y (by omega) (by omega) (by omega), rg_y (by omega) (by omega) (by omega), rg_y (by omega) (by omega) (by omega)])
      · refine lv_bipush (v := (-2)) hx hb dX3_map_28 (by decide) ?_
        have hP : va_P D vwCl (pic 33 ad (gE cI cW cM ad (nR_map S ((nI g)) ((nI I)) v))) s.heap := by rw [show nR_map S ((nI g)) ((nI I)) v = S from by unfold nR_map; (try dsimp only [rN_]); rw [rg_y (by omega) (by omega) (by omega), rg_y (by omega) (by omega) (by omega), rg_n h_25]]; exact hP
        exact g_iretW hx hb hrt hlocks hK hP (pic_D _ hD) hS dX3_map_30 (by unfold sC_map; (try dsimp only [rN_]); rw [rg_y (by omega) (by omega) (by omega), rg_y (by omega) (by omega) (by omega), rg_n h_25])
  · refine lv_iconst (v := (-1)) hx hb dX3_map_7 (by decide) ?_
    have hP : va_P D vwCl (pic 33 ad (gE cI cW cM ad (nR_map S a x v))) s.heap := by rw [show nR_map S a x v = S from by unfold nR_map; (try dsimp only [rN_]); rw [rg_n h_4]]; exact hP
    exact g_iretW hx hb hrt hlocks hK hP (pic_D _ hD) hS dX3_map_8 (by unfold sC_map; (try dsimp only [rN_]); rw [rg_n h_4])
set_option maxHeartbeats 4000000 in
set_option maxRecDepth 100000 in
theorem c_X3_copy (l : Launch) {D : va_G} {tys : List (ClassId × FieldType)} {A : Nat → Prop} {ad : Nat → Nat} {cI cW cM : ClassId} {tI : Nat} {S : Nat → Nat → Nat} (hI : tys[tI]? = some (cI, .int)) {t : Nat} (ht : t < 4) : Met l yX3_copy wsX3_copy ({ frames := 0, cells := 0, slots := 0, locals := 0 } : Room) (va_Pc [.ref (ad (25)), .int (nI (4)), .int (nI (t))] (PW D tys A 33 ad (gE cI cW cM ad S))) (QW none (PW D tys A 33 ad (gE cI cW cM ad (cpyS S t))) A) 0 0 A := by
  refine g_writes (cc := cX3_copy) (maxL := 4) (ret := none) (by decide) rfl (Nat.le_of_ble_eq_true rfl) ?_
  intro p e s m args below meth c hx hb hrt hts hown hlocks hml hP hK hD hS ls hl
  show W p l e ({ frames := 0, cells := 0, slots := 0, locals := 0 } : Room) s m args below meth c s.heap [] 0 0 _ _
  have hl : lv_has ls 4 [(0, .ref (ad (25))), (1, .int (nI (4))), (2, .int (nI (t)))] := hl
  refine lv_aload_n hx hb dX3_copy_0 rfl (lv_at hl 0 rfl) ?_
  refine g_get (25) 0 (C := RX3) (T := TX3) (N := 7) (ci := 2) (ref := "CubeWorldsModel") hx hb hts (by decide +kernel) hown hK hP (by decide) rfl rfl (by decide) (by decide +kernel) rfl rfl dX3_copy_1 ?_
  refine lv_iload_n hx hb dX3_copy_4 rfl (lv_at hl 2 rfl) ?_
  refine lv_aload_n hx hb dX3_copy_5 rfl (lv_at hl 0 rfl) ?_
  refine g_get (25) 0 (C := RX3) (T := TX3) (N := 7) (ci := 2) (ref := "CubeWorldsModel") hx hb hts (by decide +kernel) hown hK hP (by decide) rfl rfl (by decide) (by decide +kernel) rfl rfl dX3_copy_6 ?_
  refine lv_iload_n hx hb dX3_copy_9 rfl (lv_at hl 1 rfl) ?_
  refine g_iald (26) (4) (t0 := _) hx hb hK hP (by decide) (gIX (S' := S) (f := S 26) 26 5 rfl (by decide) rfl) hI (by decide) (by decide) dX3_copy_10 ?_
  refine g_iast (26) (t) ((S 26) (4)) hx hb hK hP (pic_D _ hD) hS (by decide) (gIX (S' := S) (f := S 26) 26 5 rfl (by decide) rfl) hI (by omega) (by decide) dX3_copy_11 (fun H locs hP hS => ?_)
  rw [gE_upL 26 5 rfl (by decide)] at hP
  have hP : va_P D vwCl (pic 33 ad (gE cI cW cM ad (va_up (va_up S 26 (va_up (S 26) t (S 26 4))) 27 (cpR t (S 27) 0)))) H := by rw [cpR_0, va_up_same (show va_up S 26 (va_up (S 26) t (S 26 4)) 27 = S 27 from rfl)]; exact hP
  refine n_iconst 0 hx hb dX3_copy_12 ?_
  refine lv_istore_n (lv' := [(3, .int (nI (0))), (0, .ref (ad (25))), (1, .int (nI (4))), (2, .int (nI (t)))]) hx hb dX3_copy_13 rfl hl (by decide) rfl (fun ls hl => ?_)
  have L_14 : ∀ (r : Nat) (i : Nat), (i ≤ 16) → (16 < i + r) → ∀ (H : Heap) (locs : List Loc), va_P D vwCl (pic 33 ad (gE cI cW cM ad (va_up (va_up S 26 (va_up (S 26) t (S 26 4))) 27 (cpR t (S 27) i)))) H → va_S A s.heap H locs → ∀ (ls : Array Slot), lv_has ls 4 [(0, .ref (ad (25))), (1, .int (nI (4))), (2, .int (nI (t))), (3, .int (nI (i)))] → W p l e ({ frames := 0, cells := 0, slots := 0, locals := 0 } : Room) s m args below meth c H locs 0 0 (MQ below (QW none (PW D tys A 33 ad (gE cI cW cM ad (cpyS S t))) A) args s 0 0 A) (F0 m 14 ls []) := by
    intro r
    induction r with
    | zero => intro i hi hr; intros; exact absurd hr (by omega)
    | succ r ih =>
      intro i hi hr H locs hP hS ls hl
      have ih_14 := ih
      refine lv_iload_n hx hb dX3_copy_14 rfl (lv_at hl 3 rfl) ?_
      refine lv_bipush (v := nI 16) hx hb dX3_copy_15 (by decide) ?_
      refine n_ge (tgt := 48) hx hb dX3_copy_17 (by decide) (by omega) (by omega) (fun h_17 => ?_) (fun h_17 => ?_)
      · rw [show i = 16 by omega] at hP
        exact g_vretW hx hb hrt hlocks hK hP (pic_D _ hD) hS dX3_copy_48
      · refine lv_aload_n hx hb dX3_copy_20 rfl (lv_at hl 0 rfl) ?_
        refine g_get (25) 1 (C := RX3) (T := TX3) (N := 7) (ci := 2) (ref := "CubeWorldsModel") hx hb hts (by decide +kernel) hown hK hP (by decide) rfl rfl (by decide) (by decide +kernel) rfl rfl dX3_copy_21 ?_
        refine lv_bipush (v := nI 16) hx hb dX3_copy_24 (by decide) ?_
        refine lv_iload_n hx hb dX3_copy_26 rfl (lv_at hl 2 rfl) ?_
        refine n_imul hx hb dX3_copy_27 ?_
        refine lv_iload_n hx hb dX3_copy_28 rfl (lv_at hl 3 rfl) ?_
        refine n_iadd hx hb dX3_copy_29 ?_
        refine lv_aload_n hx hb dX3_copy_30 rfl (lv_at hl 0 rfl) ?_
        refine g_get (25) 1 (C := RX3) (T := TX3) (N := 7) (ci := 2) (ref := "CubeWorldsModel") hx hb hts (by decide +kernel) hown hK hP (by decide) rfl rfl (by decide) (by decide +kernel) rfl rfl dX3_copy_31 ?_
        refine lv_bipush (v := nI 16) hx hb dX3_copy_34 (by decide) ?_
        refine lv_iload_n hx hb dX3_copy_36 rfl (lv_at hl 1 rfl) ?_
        refine n_imul hx hb dX3_copy_37 ?_
        refine lv_iload_n hx hb dX3_copy_38 rfl (lv_at hl 3 rfl) ?_
        refine n_iadd hx hb dX3_copy_39 ?_
        refine g_iald (27) ((16 * 4) + i) (t0 := _) hx hb hK hP (by decide) (gIX (S' := va_up (va_up S 26 (va_up (S 26) t (S 26 4))) 27 (cpR t (S 27) i)) 27 80 rfl (by decide) (by exact va_up_at _ _ _)) hI (by omega) (by decide) dX3_copy_40 ?_
        refine n_eq (show nI ((cpR t (S 27) i) ((16 * 4) + i)) = nI (S 27 (64 + i)) from by rw [cpR_rd ht (by omega)]) ?_
        refine g_iast (27) ((16 * t) + i) (S 27 (64 + i)) hx hb hK hP (pic_D _ hD) hS (by decide) (gIX (S' := va_up (va_up S 26 (va_up (S 26) t (S 26 4))) 27 (cpR t (S 27) i)) 27 80 rfl (by decide) (by exact va_up_at _ _ _)) hI (by omega) (by decide) dX3_copy_41 (fun H locs hP hS => ?_)
        rw [gE_upL 27 80 rfl (by decide), va_up_up, cpR_put] at hP
        refine n_iinc 3 1 (lv' := [(3, .int (nI (i + 1))), (0, .ref (ad (25))), (1, .int (nI (4))), (2, .int (nI (t)))]) hx hb dX3_copy_42 hl rfl (by decide) rfl (fun ls hl => ?_)
        refine n_goto 14 hx hb dX3_copy_45 (by decide) ?_
        exact ih_14 (i + 1) (by omega) (by omega) _ _ hP hS _ (lv_sub hl [1, 2, 3, 0] rfl)
  exact L_14 17 (0) (Nat.zero_le _) (by omega) _ _ hP hS _ (lv_sub hl [1, 2, 3, 0] rfl)
set_option maxHeartbeats 4000000 in
set_option maxRecDepth 100000 in
theorem c_X3_turn (l : Launch) {D : va_G} {tys : List (ClassId × FieldType)} {A : Nat → Prop} {ad : Nat → Nat} {cI cW cM : ClassId} {tI : Nat} {S : Nat → Nat → Nat} (hI : tys[tI]? = some (cI, .int)) (hRF : RF S) {a b0 w : Int32} : Met l yX3_turn wsX3_turn ({ frames := 2, cells := 0, slots := 0, locals := 49 } : Room) (va_Pc [.ref (ad (25)), .int (a), .int (b0), .int (w)] (PW D tys A 33 ad (gE cI cW cM ad S))) (QW (some (.int (sC_turn a b0 w))) (PW D tys A 33 ad (gE cI cW cM ad (nR_turn S a b0 w))) A) 0 0 A := by
  refine g_writes (cc := cX3_turn) (maxL := 8) (ret := (some .int)) (by decide) rfl (Nat.le_of_ble_eq_true rfl) ?_
  intro p e s m args below meth c hx hb hrt hts hown hlocks hml hP hK hD hS ls hl
  show W p l e ({ frames := 2, cells := 0, slots := 0, locals := 49 } : Room) s m args below meth c s.heap [] 0 0 _ _
  have hl : lv_has ls 8 [(0, .ref (ad (25))), (1, .int (a)), (2, .int (b0)), (3, .int (w))] := hl
  refine lv_iload_n hx hb dX3_turn_0 rfl (lv_at hl 1 rfl) ?_
  refine g_callS (As := [.int (a)]) (rest := []) (c_X3_isSlot l hI (v := a)) (va_cwS 1 hts gX3_turn_X3_isSlot rfl rfl rfl (by decide +kernel) ⟨Nat.le_of_ble_eq_true rfl, Nat.le_of_ble_eq_true rfl⟩) hx hb hml hown hts hK hP  rfl hl.1 rfl (Nat.le_of_ble_eq_true rfl) (Nat.zero_le _) (Nat.zero_le _) dX3_turn_1 ?_
  refine n_ifeq_b (tgt := 14) hx hb dX3_turn_4 (by decide) (fun h_4 => ?_) (fun h_4 => ?_)
  · refine lv_iconst (v := (-1)) hx hb dX3_turn_14 (by decide) ?_
    have hP : va_P D vwCl (pic 33 ad (gE cI cW cM ad (nR_turn S a b0 w))) s.heap := by rw [show nR_turn S a b0 w = S from by unfold nR_turn; (try dsimp only [rN_]); rw [rg_n h_4]]; exact hP
    exact g_iretW hx hb hrt hlocks hK hP (pic_D _ hD) hS dX3_turn_15 (by unfold sC_turn; (try dsimp only [rN_]); rw [rg_n h_4])
  · obtain ⟨k, hk1, hk2, e9⟩ := rB_some (by omega) (by omega) h_4
    subst e9
    have hk5 : k < 5 := by omega
    have qk1 := (hRF.1 k (by omega)).1
    have h4k := qk1.2
    have hcbk := (hRF.1 k (by omega)).2
    have qk2 := pow4 h4k
    have qk3 : 0 < 2 ^ S 26 k := Nat.pow_pos (by decide)
    have qk4 := sq4 qk2
    refine lv_iload_n hx hb dX3_turn_7 rfl (lv_at hl 2 rfl) ?_
    refine g_callS (As := [.int (b0)]) (rest := []) (c_X3_isSlot l hI (v := b0)) (va_cwS 1 hts gX3_turn_X3_isSlot rfl rfl rfl (by decide +kernel) ⟨Nat.le_of_ble_eq_true rfl, Nat.le_of_ble_eq_true rfl⟩) hx hb hml hown hts hK hP  rfl hl.1 rfl (Nat.le_of_ble_eq_true rfl) (Nat.zero_le _) (Nat.zero_le _) dX3_turn_8 ?_
    refine n_ifne_b (tgt := 16) hx hb dX3_turn_11 (by decide) (fun h_11 => ?_) (fun h_11 => ?_)
    · obtain ⟨u, hu1, hu2, e9⟩ := rB_some (by omega) (by omega) h_11
      subst e9
      have hu5 : u < 5 := by omega
      have qu1 := (hRF.1 u (by omega)).1
      have h4u := qu1.2
      have hcbu := (hRF.1 u (by omega)).2
      have qu2 := pow4 h4u
      have qu3 : 0 < 2 ^ S 26 u := Nat.pow_pos (by decide)
      have qu4 := sq4 qu2
      refine lv_iload_n hx hb dX3_turn_16 rfl (lv_at hl 3 rfl) ?_
      refine n_iconst 0 hx hb dX3_turn_17 ?_
      refine n_iconst 5 hx hb dX3_turn_18 ?_
      refine g_callS (As := [.int (w), .int (nI (0)), .int (nI (5))]) (rest := []) (c_X3_in l hI (v := w) (lo := 0) (hi := 5)) (va_cwS 3 hts gX3_turn_X3_in rfl rfl rfl (by decide +kernel) ⟨Nat.le_of_ble_eq_true rfl, Nat.le_of_ble_eq_true rfl⟩) hx hb hml hown hts hK hP  rfl hl.1 rfl (Nat.le_of_ble_eq_true rfl) (Nat.zero_le _) (Nat.zero_le _) dX3_turn_19 ?_
      refine n_ifne_b (tgt := 28) hx hb dX3_turn_22 (by decide) (fun h_22 => ?_) (fun h_22 => ?_)
      · obtain ⟨T, hT1, hT2, e9⟩ := rB_some (by omega) (by omega) h_22
        subst e9
        refine lv_aload_n hx hb dX3_turn_28 rfl (lv_at hl 0 rfl) ?_
        refine g_get (25) 0 (C := RX3) (T := TX3) (N := 7) (ci := 2) (ref := "CubeWorldsModel") hx hb hts (by decide +kernel) hown hK hP (by decide) rfl rfl (by decide) (by decide +kernel) rfl rfl dX3_turn_29 ?_
        refine lv_iload_n hx hb dX3_turn_32 rfl (lv_at hl 2 rfl) ?_
        refine g_iald (26) (u) (t0 := _) hx hb hK hP (by decide) (gIX (S' := S) (f := S 26) 26 5 rfl (by decide) rfl) hI (by omega) (by decide) dX3_turn_33 ?_
        refine lv_istore (lv' := [(4, .int (nI ((S 26) (u)))), (0, .ref (ad (25))), (1, .int (nI (k))), (2, .int (nI (u))), (3, .int (nI (T)))]) hx hb dX3_turn_34 hl (by decide) rfl (fun ls hl => ?_)
        refine lv_aload_n hx hb dX3_turn_36 rfl (lv_at hl 1 rfl) ?_
        refine n_iconst 4 hx hb dX3_turn_37 ?_
        refine lv_iload hx hb dX3_turn_38 (lv_at hl 0 rfl) ?_
        refine g_callVW (25) (C := RX3) (T := TX3) (N := 7) (ci := 2) (As := [.int (nI (4)), .int (nI ((S 26) (u)))]) (rest := []) (c_X3_clear l hI (S := S) (k := 4) (N := (S 26) (u)) (by omega)) (cwV 2 hts gX3_turn_X3_clear rfl rfl rfl (by decide +kernel) ⟨Nat.le_of_ble_eq_true rfl, Nat.le_of_ble_eq_true rfl⟩) hx hb hml hown hts hK hP (pic_D _ hD) hS  (by decide) rfl rfl rfl hl.1 rfl (Nat.le_of_ble_eq_true rfl) (Nat.zero_le _) (Nat.zero_le _) dX3_turn_40 (fun H locs hP hS => ?_)
        have hP : va_P D vwCl (pic 33 ad (gE cI cW cM ad (va_up (clrS S 4 (S 26 u)) 27 (cfR 64 (S 26 u) (tcS (S 26 u) (rC S u) T) (clrS S 4 (S 26 u) 27) 0 0)))) H := by rw [cfR_00, va_up_same rfl]; exact hP
        refine n_iconst 0 hx hb dX3_turn_43 ?_
        refine lv_istore (lv' := [(5, .int (nI (0))), (4, .int (nI ((S 26) (u)))), (0, .ref (ad (25))), (1, .int (nI (k))), (2, .int (nI (u))), (3, .int (nI (T)))]) hx hb dX3_turn_44 hl (by decide) rfl (fun ls hl => ?_)
        have L_46 : ∀ (r : Nat) (i : Nat), (i ≤ S 26 u) → (S 26 u < i + r) → ∀ (H : Heap) (locs : List Loc), va_P D vwCl (pic 33 ad (gE cI cW cM ad (va_up (clrS S 4 (S 26 u)) 27 (cfR 64 (S 26 u) (tcS (S 26 u) (rC S u) T) (clrS S 4 (S 26 u) 27) i 0)))) H → va_S A s.heap H locs → ∀ (ls : Array Slot), lv_has ls 8 [(0, .ref (ad (25))), (1, .int (nI (k))), (2, .int (nI (u))), (3, .int (nI (T))), (4, .int (nI (S 26 u))), (5, .int (nI (i)))] → W p l e ({ frames := 2, cells := 0, slots := 0, locals := 49 } : Room) s m args below meth c H locs 0 0 (MQ below (QW (some (.int (sC_turn ((nI k)) ((nI u)) ((nI T))))) (PW D tys A 33 ad (gE cI cW cM ad (nR_turn S ((nI k)) ((nI u)) ((nI T))))) A) args s 0 0 A) (F0 m 46 ls []) := by
          intro r
          induction r with
          | zero => intro i hi hr; intros; exact absurd hr (by omega)
          | succ r ih =>
            intro i hi hr H locs hP hS ls hl
            have ih_46 := ih
            refine lv_iload hx hb dX3_turn_46 (lv_at hl 5 rfl) ?_
            refine lv_iload hx hb dX3_turn_48 (lv_at hl 4 rfl) ?_
            refine n_ge (tgt := 124) hx hb dX3_turn_50 (by decide) (by omega) (by omega) (fun h_50 => ?_) (fun h_50 => ?_)
            · rw [show i = S 26 u by omega] at hP
              refine lv_aload_n hx hb dX3_turn_124 rfl (lv_at hl 0 rfl) ?_
              refine n_iconst 4 hx hb dX3_turn_125 ?_
              refine lv_iload_n hx hb dX3_turn_126 rfl (lv_at hl 1 rfl) ?_
              refine g_callVW (25) (C := RX3) (T := TX3) (N := 7) (ci := 2) (As := [.int (nI (4)), .int (nI (k))]) (rest := []) (c_X3_copy l hI (S := va_up (clrS S 4 (S 26 u)) 27 (cfR 64 (S 26 u) (tcS (S 26 u) (rC S u) T) (clrS S 4 (S 26 u) 27) (S 26 u) 0)) (t := k) (by omega)) (cwV 2 hts gX3_turn_X3_copy rfl rfl rfl (by decide +kernel) ⟨Nat.le_of_ble_eq_true rfl, Nat.le_of_ble_eq_true rfl⟩) hx hb hml hown hts hK hP (pic_D _ hD) hS  (by decide) rfl rfl rfl hl.1 rfl (Nat.le_of_ble_eq_true rfl) (Nat.zero_le _) (Nat.zero_le _) dX3_turn_127 (fun H locs hP hS => ?_)
              refine n_iconst 1 hx hb dX3_turn_130 ?_
              have hP : va_P D vwCl (pic 33 ad (gE cI cW cM ad (nR_turn S ((nI k)) ((nI u)) ((nI T))))) H := by rw [show nR_turn S ((nI k)) ((nI u)) ((nI T)) = newR S k (S 26 u) (tcS (S 26 u) (rC S u) T) from by unfold nR_turn; (try dsimp only [rN_]); rw [rg_y (by omega) (by omega) (by omega), rg_y (by omega) (by omega) (by omega), rg_y (by omega) (by omega) (by omega)]]; exact hP
              exact g_iretW hx hb hrt hlocks hK hP (pic_D _ hD) hS dX3_turn_131 (by unfold sC_turn; (try dsimp only [rN_]); rw [rg_y (by omega) (by omega) (by omega), rg_y (by omega) (by omega) (by omega), rg_y (by omega) (by omega) (by omega)])
            · refine n_iconst 0 hx hb dX3_turn_53 ?_
              refine lv_istore (lv' := [(6, .int (nI (0))), (0, .ref (ad (25))), (1, .int (nI (k))), (2, .int (nI (u))), (3, .int (nI (T))), (4, .int (nI (S 26 u))), (5, .int (nI (i)))]) hx hb dX3_turn_54 hl (by decide) rfl (fun ls hl => ?_)
              have L_56 : ∀ (r : Nat) (j : Nat), (j ≤ S 26 u) → (S 26 u < j + r) → ∀ (H : Heap) (locs : List Loc), va_P D vwCl (pic 33 ad (gE cI cW cM ad (va_up (clrS S 4 (S 26 u)) 27 (cfR 64 (S 26 u) (tcS (S 26 u) (rC S u) T) (clrS S 4 (S 26 u) 27) i j)))) H → va_S A s.heap H locs → ∀ (ls : Array Slot), lv_has ls 8 [(0, .ref (ad (25))), (1, .int (nI (k))), (2, .int (nI (u))), (3, .int (nI (T))), (4, .int (nI (S 26 u))), (5, .int (nI (i))), (6, .int (nI (j)))] → W p l e ({ frames := 2, cells := 0, slots := 0, locals := 49 } : Room) s m args below meth c H locs 0 0 (MQ below (QW (some (.int (sC_turn ((nI k)) ((nI u)) ((nI T))))) (PW D tys A 33 ad (gE cI cW cM ad (nR_turn S ((nI k)) ((nI u)) ((nI T))))) A) args s 0 0 A) (F0 m 56 ls []) := by
                intro r
                induction r with
                | zero => intro j hj hr2; intros; exact absurd hr2 (by omega)
                | succ r ih =>
                  intro j hj hr2 H locs hP hS ls hl
                  have ih_56 := ih
                  refine lv_iload hx hb dX3_turn_56 (lv_at hl 6 rfl) ?_
                  refine lv_iload hx hb dX3_turn_58 (lv_at hl 4 rfl) ?_
                  refine n_ge (tgt := 118) hx hb dX3_turn_60 (by decide) (by omega) (by omega) (fun h_60 => ?_) (fun h_60 => ?_)
                  · rw [show j = S 26 u by omega, cfR_row] at hP
                    refine n_iinc 5 1 (lv' := [(5, .int (nI (i + 1))), (0, .ref (ad (25))), (1, .int (nI (k))), (2, .int (nI (u))), (3, .int (nI (T))), (4, .int (nI (S 26 u))), (6, .int (nI (j)))]) hx hb dX3_turn_118 hl rfl (by decide) rfl (fun ls hl => ?_)
                    refine n_goto 46 hx hb dX3_turn_121 (by decide) ?_
                    exact ih_46 (i + 1) (by omega) (by omega) _ _ hP hS _ (lv_sub hl [1, 2, 3, 4, 5, 0] rfl)
                  · have hP : va_P D vwCl (pic 33 ad (gE cI cW cM ad (va_up (clrS S 4 (S 26 u)) 27 (va_up (cfR 64 (S 26 u) (tcS (S 26 u) (rC S u) T) (clrS S 4 (S 26 u) 27) i j) (64 + 4 * i + j) (os (fun k => tbS (rC S u) T i j k <<< k) 0))))) H := by rw [show os (fun k => tbS (rC S u) T i j k <<< k) 0 = 0 from rfl, va_up_same (clr_z (by omega) (by omega))]; exact hP
                    refine n_iconst 0 hx hb dX3_turn_63 ?_
                    refine lv_istore (lv' := [(7, .int (nI (0))), (0, .ref (ad (25))), (1, .int (nI (k))), (2, .int (nI (u))), (3, .int (nI (T))), (4, .int (nI (S 26 u))), (5, .int (nI (i))), (6, .int (nI (j)))]) hx hb dX3_turn_64 hl (by decide) rfl (fun ls hl => ?_)
                    have L_66 : ∀ (r : Nat) (p0 : Nat), (p0 ≤ S 26 u) → (S 26 u < p0 + r) → ∀ (H : Heap) (locs : List Loc), va_P D vwCl (pic 33 ad (gE cI cW cM ad (va_up (clrS S 4 (S 26 u)) 27 (va_up (cfR 64 (S 26 u) (tcS (S 26 u) (rC S u) T) (clrS S 4 (S 26 u) 27) i j) (64 + 4 * i + j) (os (fun k => tbS (rC S u) T i j k <<< k) p0))))) H → va_S A s.heap H locs → ∀ (ls : Array Slot), lv_has ls 8 [(0, .ref (ad (25))), (1, .int (nI (k))), (2, .int (nI (u))), (3, .int (nI (T))), (4, .int (nI (S 26 u))), (5, .int (nI (i))), (6, .int (nI (j))), (7, .int (nI (p0)))] → W p l e ({ frames := 2, cells := 0, slots := 0, locals := 49 } : Room) s m args below meth c H locs 0 0 (MQ below (QW (some (.int (sC_turn ((nI k)) ((nI u)) ((nI T))))) (PW D tys A 33 ad (gE cI cW cM ad (nR_turn S ((nI k)) ((nI u)) ((nI T))))) A) args s 0 0 A) (F0 m 66 ls []) := by
                      intro r
                      induction r with
                      | zero => intro p0 hp hr3; intros; exact absurd hr3 (by omega)
                      | succ r ih =>
                        intro p0 hp hr3 H locs hP hS ls hl
                        have ih_66 := ih
                        refine lv_iload hx hb dX3_turn_66 (lv_at hl 7 rfl) ?_
                        refine lv_iload hx hb dX3_turn_68 (lv_at hl 4 rfl) ?_
                        refine n_ge (tgt := 112) hx hb dX3_turn_70 (by decide) (by omega) (by omega) (fun h_70 => ?_) (fun h_70 => ?_)
                        · rw [show p0 = S 26 u by omega, show os (fun k => tbS (rC S u) T i j k <<< k) (S 26 u) = (tcS (S 26 u) (rC S u) T) i j from rfl, cfR_put (by omega) (by omega) (by omega)] at hP
                          refine n_iinc 6 1 (lv' := [(6, .int (nI (j + 1))), (0, .ref (ad (25))), (1, .int (nI (k))), (2, .int (nI (u))), (3, .int (nI (T))), (4, .int (nI (S 26 u))), (5, .int (nI (i))), (7, .int (nI (p0)))]) hx hb dX3_turn_112 hl rfl (by decide) rfl (fun ls hl => ?_)
                          refine n_goto 56 hx hb dX3_turn_115 (by decide) ?_
                          exact ih_56 (j + 1) (by omega) (by omega) _ _ hP hS _ (lv_sub hl [1, 2, 3, 4, 5, 6, 0] rfl)
                        · refine lv_aload_n hx hb dX3_turn_73 rfl (lv_at hl 0 rfl) ?_
                          refine g_get (25) 1 (C := RX3) (T := TX3) (N := 7) (ci := 2) (ref := "CubeWorldsModel") hx hb hts (by decide +kernel) hown hK hP (by decide) rfl rfl (by decide) (by decide +kernel) rfl rfl dX3_turn_74 ?_
                          refine lv_bipush (v := nI 64) hx hb dX3_turn_77 (by decide) ?_
                          refine n_iconst 4 hx hb dX3_turn_79 ?_
                          refine lv_iload hx hb dX3_turn_80 (lv_at hl 5 rfl) ?_
                          refine n_imul hx hb dX3_turn_82 ?_
                          refine n_iadd hx hb dX3_turn_83 ?_
                          refine lv_iload hx hb dX3_turn_84 (lv_at hl 6 rfl) ?_
                          refine n_iadd hx hb dX3_turn_86 ?_
                          refine lv_dup2_11 hx hb dX3_turn_87 rfl rfl ?_
                          refine g_iald (27) ((64 + (4 * i)) + j) (t0 := _) hx hb hK hP (by decide) (gIX (S' := va_up (clrS S 4 (S 26 u)) 27 (va_up (cfR 64 (S 26 u) (tcS (S 26 u) (rC S u) T) (clrS S 4 (S 26 u) 27) i j) (64 + 4 * i + j) (os (fun k => tbS (rC S u) T i j k <<< k) p0))) 27 80 rfl (by decide) (by exact va_up_at _ _ _)) hI (by omega) (by decide) dX3_turn_88 ?_
                          refine n_eq (show nI ((va_up (cfR 64 (S 26 u) (tcS (S 26 u) (rC S u) T) (clrS S 4 (S 26 u) 27) i j) (64 + 4 * i + j) (os (fun k => tbS (rC S u) T i j k <<< k) p0)) ((64 + (4 * i)) + j)) = nI (os (fun k => tbS (rC S u) T i j k <<< k) p0) from by rw [va_up_at]) ?_
                          refine lv_aload_n hx hb dX3_turn_89 rfl (lv_at hl 0 rfl) ?_
                          refine lv_iload_n hx hb dX3_turn_90 rfl (lv_at hl 2 rfl) ?_
                          refine lv_iload_n hx hb dX3_turn_91 rfl (lv_at hl 3 rfl) ?_
                          refine lv_iload hx hb dX3_turn_92 (lv_at hl 5 rfl) ?_
                          refine lv_iload hx hb dX3_turn_94 (lv_at hl 6 rfl) ?_
                          refine lv_iload hx hb dX3_turn_96 (lv_at hl 7 rfl) ?_
                          refine g_callV (25) (C := RX3) (T := TX3) (N := 7) (ci := 2) (As := [.int (nI (u)), .int (nI (T)), .int (nI (i)), .int (nI (j)), .int (nI (p0))]) (rest := [.int (nI (os (fun k => tbS (rC S u) T i j k <<< k) p0)), .int (nI ((64 + (4 * i)) + j)), .ref (ad (27))]) (c_X3_turned l hI (S := va_up (clrS S 4 (S 26 u)) 27 (va_up (cfR 64 (S 26 u) (tcS (S 26 u) (rC S u) T) (clrS S 4 (S 26 u) 27) i j) (64 + 4 * i + j) (os (fun k => tbS (rC S u) T i j k <<< k) p0))) (k := u) (by omega) (by rw [clr_26 (by omega)]; exact h4u) (by rw [clr_26 (by omega), clr_rC2 (by omega) (by omega)]; exact hcbu) (I := i) (J := j) (K := p0) (T := T) (by rw [clr_26 (by omega)]; omega) (by rw [clr_26 (by omega)]; omega) (by rw [clr_26 (by omega)]; omega) (by omega)) (cwV 5 hts gX3_turn_X3_turned rfl rfl rfl (by decide +kernel) ⟨Nat.le_of_ble_eq_true rfl, Nat.le_of_ble_eq_true rfl⟩) hx hb hml hown hts hK hP  (by decide) rfl rfl rfl hl.1 rfl (Nat.le_of_ble_eq_true rfl) (Nat.zero_le _) (Nat.zero_le _) dX3_turn_98 ?_
                          refine n_eq (show nI (tbS (rC (va_up (clrS S 4 (S 26 u)) 27 (va_up (cfR 64 (S 26 u) (tcS (S 26 u) (rC S u) T) (clrS S 4 (S 26 u) 27) i j) (64 + 4 * i + j) (os (fun k => tbS (rC S u) T i j k <<< k) p0))) u) T i j p0) = nI (tbS (rC S u) T i j p0) from by rw [clr_rC2 (by omega) (by omega)]) ?_
                          refine lv_iload hx hb dX3_turn_101 (lv_at hl 7 rfl) ?_
                          refine n_ishl hx hb dX3_turn_103 (by omega) ?_
                          refine n_ior hx hb dX3_turn_104 ?_
                          refine g_iast (27) ((64 + (4 * i)) + j) ((os (fun k => tbS (rC S u) T i j k <<< k) p0) ||| ((tbS (rC S u) T i j p0) <<< p0)) hx hb hK hP (pic_D _ hD) hS (by decide) (gIX (S' := va_up (clrS S 4 (S 26 u)) 27 (va_up (cfR 64 (S 26 u) (tcS (S 26 u) (rC S u) T) (clrS S 4 (S 26 u) 27) i j) (64 + 4 * i + j) (os (fun k => tbS (rC S u) T i j k <<< k) p0))) 27 80 rfl (by decide) (by exact va_up_at _ _ _)) hI (by omega) (by decide) dX3_turn_105 (fun H locs hP hS => ?_)
                          rw [gE_upL 27 80 rfl (by decide), va_up_up, va_up_up] at hP
                          refine n_iinc 7 1 (lv' := [(7, .int (nI (p0 + 1))), (0, .ref (ad (25))), (1, .int (nI (k))), (2, .int (nI (u))), (3, .int (nI (T))), (4, .int (nI (S 26 u))), (5, .int (nI (i))), (6, .int (nI (j)))]) hx hb dX3_turn_106 hl rfl (by decide) rfl (fun ls hl => ?_)
                          refine n_goto 66 hx hb dX3_turn_109 (by decide) ?_
                          exact ih_66 (p0 + 1) (by omega) (by omega) _ _ hP hS _ (lv_sub hl [1, 2, 3, 4, 5, 6, 7, 0] rfl)
                    exact L_66 (S 26 u + 1) (0) (Nat.zero_le _) (by omega) _ _ hP hS _ (lv_sub hl [1, 2, 3, 4, 5, 6, 7, 0] rfl)
              exact L_56 (S 26 u + 1) (0) (Nat.zero_le _) (by omega) _ _ hP hS _ (lv_sub hl [1, 2, 3, 4, 5, 6, 0] rfl)
        exact L_46 (S 26 u + 1) (0) (Nat.zero_le _) (by omega) _ _ hP hS _ (lv_sub hl [2, 3, 4, 5, 1, 0] rfl)
      · refine lv_bipush (v := (-2)) hx hb dX3_turn_25 (by decide) ?_
        have hP : va_P D vwCl (pic 33 ad (gE cI cW cM ad (nR_turn S ((nI k)) ((nI u)) w))) s.heap := by rw [show nR_turn S ((nI k)) ((nI u)) w = S from by unfold nR_turn; (try dsimp only [rN_]); rw [rg_y (by omega) (by omega) (by omega), rg_y (by omega) (by omega) (by omega), rg_n h_22]]; exact hP
        exact g_iretW hx hb hrt hlocks hK hP (pic_D _ hD) hS dX3_turn_27 (by unfold sC_turn; (try dsimp only [rN_]); rw [rg_y (by omega) (by omega) (by omega), rg_y (by omega) (by omega) (by omega), rg_n h_22])
    · refine lv_iconst (v := (-1)) hx hb dX3_turn_14 (by decide) ?_
      have hP : va_P D vwCl (pic 33 ad (gE cI cW cM ad (nR_turn S ((nI k)) b0 w))) s.heap := by rw [show nR_turn S ((nI k)) b0 w = S from by unfold nR_turn; (try dsimp only [rN_]); rw [rg_y (by omega) (by omega) (by omega), rg_n h_11]]; exact hP
      exact g_iretW hx hb hrt hlocks hK hP (pic_D _ hD) hS dX3_turn_15 (by unfold sC_turn; (try dsimp only [rN_]); rw [rg_y (by omega) (by omega) (by omega), rg_n h_11])
