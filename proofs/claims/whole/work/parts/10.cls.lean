/-! what the calls of CubeWorlds that read alone answer: of worlds that have n k numbers' bits and the cells c k, of maps M -/
abbrev cN (S : Nat → Nat → Nat) (k : Nat) : Nat := S (13 + 3 * k) 0
abbrev cC (S : Nat → Nat → Nat) (k : Nat) : Nat → Nat := S (13 + 3 * k + 1)
abbrev cM_ (S : Nat → Nat → Nat) (m : Nat) : Nat → Nat := S (3 + m)
def amf (M : Nat → Nat → Nat) (n : Nat) : Bool := al (fun m => fitB (M m) n) 3
def mcS (n : Nat) (ca cb : Nat → Nat) (M : Nat → Nat → Nat) : Bool := al (fun i => al (fun j => tm n cb (im (M 0) (1 <<< i)) (im (M 1) (1 <<< j)) == im (M 2) (tm n ca (1 <<< i) (1 <<< j))) n) n
def sC_product (n : Nat → Nat) (c : Nat → Nat → Nat) (a x y : Int32) : Int32 := rg 0 3 a (-1) fun k => rg 0 (2 ^ n k - 1) x (-1) fun X => rg 0 (2 ^ n k - 1) y (-1) fun Y => nI (tm (n k) (c k) X Y)
def sC_divides (n : Nat → Nat) (c : Nat → Nat → Nat) (a : Int32) : Int32 := rg 0 3 a (-1) fun k => bI (lbr (n k) (c k)).isNone
def brS (n : Nat) (c : Nat → Nat) (B : Bool) : Option Nat := match lbr n c with
  | none => none
  | some x => if B then lpr n c x else some x
def sC_broken (n : Nat → Nat) (c : Nat → Nat → Nat) (a : Int32) (B : Bool) : Int32 := rg 0 3 a (-1) fun k => oI (brS (n k) (c k) B)
def sC_one (n : Nat → Nat) (c : Nat → Nat → Nat) (a : Int32) : Int32 := rg 0 3 a (-1) fun k => oI (unt (n k) (c k))
def sC_quotient (n : Nat → Nat) (c : Nat → Nat → Nat) (a x z : Int32) (L : Bool) : Int32 := rg 0 3 a (-1) fun k => rg 0 (2 ^ n k - 1) x (-1) fun X => rg 0 (2 ^ n k - 1) z (-1) fun Z => oI (slv (n k) (c k) X Z L)
def sC_joins (n : Nat → Nat) (c : Nat → Nat → Nat) (a x w : Int32) : Int32 := rg 0 3 a (-1) fun k => rg 0 (2 ^ n k - 1) x (-1) fun X => rg 0 3 w (-2) fun V => bI (jnB (n k) (c k) X V)
def sC_many (n : Nat → Nat) (c : Nat → Nat → Nat) (a w : Int32) : Int32 := rg 0 3 a (-1) fun k => rg 0 3 w (-2) fun V => nI (cnt (fun x => jnB (n k) (c k) x V) (2 ^ n k))
def sC_unlike (n : Nat → Nat) (c : Nat → Nat → Nat) (a : Int32) : Int32 := rg 0 3 a (-1) fun k => nI (unl (n k) (c k))
def sC_gives (M : Nat → Nat → Nat) (a x : Int32) : Int32 := rg 0 2 a (-1) fun m => rg 0 15 x (-2) fun X => nI (im (M m) X)
def sC_fits (M : Nat → Nat → Nat) (a x : Int32) : Int32 := rg 0 2 a (-1) fun m => rg 1 4 x (-2) fun N => bI (fitB (M m) N)
def sC_alike (n : Nat → Nat) (c : Nat → Nat → Nat) (M : Nat → Nat → Nat) (a b : Int32) : Int32 := rg 0 3 a (-1) fun k => rg 0 3 b (-1) fun j => if n k = n j then bI (amf M (n k) && mcS (n k) (c k) (c j) M) else -3
def sC_on (n : Nat → Nat) (c : Nat → Nat → Nat) (a x y : Int32) : Int32 := rg 0 3 a (-1) fun k => rg 0 (2 ^ n k * 2 ^ n k + 2 ^ n k) x (-1) fun X => rg 0 (2 ^ n k * 2 ^ n k + 2 ^ n k) y (-1) fun Y => bI (lsB (n k) (c k) X Y)
def sC_join (n : Nat → Nat) (c : Nat → Nat → Nat) (a x y : Int32) : Int32 := rg 0 3 a (-1) fun k => rg 0 (2 ^ n k * 2 ^ n k + 2 ^ n k) x (-1) fun X => rg 0 (2 ^ n k * 2 ^ n k + 2 ^ n k) y (-1) fun Y => if X = Y then -3 else oI (ltS (n k) (c k) (min X Y) (max X Y))
def sC_meet (n : Nat → Nat) (c : Nat → Nat → Nat) (a x y : Int32) : Int32 := rg 0 3 a (-1) fun k => rg 0 (2 ^ n k * 2 ^ n k + 2 ^ n k) x (-1) fun X => rg 0 (2 ^ n k * 2 ^ n k + 2 ^ n k) y (-1) fun Y => if X = Y then -3 else oI (mtS (n k) (c k) (min X Y) (max X Y))
def sC_bad (n : Nat → Nat) (c : Nat → Nat → Nat) (a : Int32) : Int32 := rg 0 3 a (-1) fun k => nI (cbS (n k) (c k))
def sC_rank (n : Nat → Nat) (c : Nat → Nat → Nat) (a y : Int32) : Int32 := rg 0 3 a (-1) fun k => rg 0 (2 ^ n k - 1) y (-1) fun Y => nI (rnk (n k) (c k) Y)
def sC_ranks (n : Nat → Nat) (c : Nat → Nat → Nat) (a x : Int32) : Int32 := rg 0 3 a (-1) fun k => rg 0 4 x (-2) fun X => nI (cnt (fun y => rnk (n k) (c k) y == X) (2 ^ n k))
theorem lgn_le (m : Nat) : lgn m ≤ 4 := by
  unfold lgn
  cases e : fl (fun r => decide (m ≤ 2 ^ r)) 0 5 with
  | none => exact Nat.zero_le _
  | some k => have := (fl_some e).2.1; show k ≤ 4; omega
theorem cnt256 (p : Nat → Bool) (n : Nat) (h : n ≤ 16) : cnt p n < 2 ^ 31 := by have := cnt_le p n; omega
theorem fit_lt {f : Nat → Nat} {n x : Nat} (h : fitB f n = true) (hx : x < 2 ^ n) : im f x < 2 ^ n := by
  have := al_iff.mp h x hx
  rw [Bool.and_eq_true, decide_eq_true_eq] at this
  exact this.1
theorem amf_m {M : Nat → Nat → Nat} {n m : Nat} (h : amf M n = true) (hm : m < 3) : fitB (M m) n = true := al_iff.mp h m hm
theorem k4_le {x : Int32} (h : ¬ nI 4 ≤ x) : x ≤ nI 3 := by
  rw [i_le, nI_toInt' (by decide)] at *
  omega
theorem k3_le {x : Int32} (h : ¬ nI 3 ≤ x) : x ≤ nI 2 := by
  rw [i_le, nI_toInt' (by decide)] at *
  omega
theorem k_min {a b : Nat} (ha : a < 2 ^ 31) (hb : b < 2 ^ 31) : (if nI b < nI a then nI b else nI a) = nI (min a b) := by
  by_cases h : b < a
  · rw [if_pos ((nI_ltI hb ha).mpr h), Nat.min_eq_right (by omega)]
  · rw [if_neg (fun z => h ((nI_ltI hb ha).mp z)), Nat.min_eq_left (by omega)]
theorem k_max {a b : Nat} (ha : a < 2 ^ 31) (hb : b < 2 ^ 31) : (if nI a < nI b then nI b else nI a) = nI (max a b) := by
  by_cases h : a < b
  · rw [if_pos ((nI_ltI ha hb).mpr h), Nat.max_eq_right (by omega)]
  · rw [if_neg (fun z => h ((nI_ltI ha hb).mp z)), Nat.max_eq_left (by omega)]
theorem brS_f {n : Nat} {c : Nat → Nat} {B : Bool} (h : B = false) : brS n c B = lbr n c := by
  unfold brS
  rw [h]
  cases lbr n c <;> rfl
theorem brS_n {n : Nat} {c : Nat → Nat} {B : Bool} (h : lbr n c = none) : brS n c B = none := by
  unfold brS
  rw [h]
theorem brS_t {n : Nat} {c : Nat → Nat} {B : Bool} {x : Nat} (hB : B = true) (h : lbr n c = some x) : brS n c B = lpr n c x := by
  unfold brS
  rw [h, hB]
  rfl

set_option maxHeartbeats 4000000 in
set_option maxRecDepth 100000 in
theorem c_X2_worldIn_y (l : Launch) {D : va_G} {tys : List (ClassId × FieldType)} {ad : Nat → Nat} {cI cW cM : ClassId} {tI tW tM : Nat} {S : Nat → Nat → Nat} (hI : tys[tI]? = some (cI, .int)) (hWt : tys[tW]? = some (cW, .object "CubeWorlds$World")) (hMt : tys[tM]? = some (cM, .array .int)) (hWF : WF S) {k : Nat} (hk : k < 4) : Met l yX2_worldIn wsX2_worldIn ({ frames := 0, cells := 0, slots := 0, locals := 0 } : Room) (va_Pc [.ref (ad (0)), .int (nI (k))] (PB D tys 33 ad (gE cI cW cM ad S))) (k2_QcV (.ref (ad (13 + 3 * k)))) 0 0 (fun _ => False) := by
  refine g_pure (cc := cX2_worldIn) (maxL := 2) (ret := (some (.object "CubeWorlds$World"))) (by decide) rfl (Nat.le_of_ble_eq_true rfl) ?_
  intro p e s m args below meth c hx hb hrt hts hown hlocks hml hP hK ls hl
  show W p l e ({ frames := 0, cells := 0, slots := 0, locals := 0 } : Room) s m args below meth c s.heap [] 0 0 _ _
  have hl : lv_has ls 2 [(0, .ref (ad (0))), (1, .int (nI (k)))] := hl
  refine lv_iload_n hx hb dX2_worldIn_0 rfl (lv_at hl 1 rfl) ?_
  refine n_z_lt (tgt := 22) hx hb dX2_worldIn_1 (by decide) (by omega) ?_
  refine lv_iload_n hx hb dX2_worldIn_4 rfl (lv_at hl 1 rfl) ?_
  refine lv_aload_n hx hb dX2_worldIn_5 rfl (lv_at hl 0 rfl) ?_
  refine g_get (0) 0 (C := RX2) (T := TX2) (N := 7) (ci := 1) (ref := "CubeWorlds") hx hb hts (by decide +kernel) hown hK hP (by decide) rfl rfl (by decide) (by decide +kernel) rfl rfl dX2_worldIn_6 ?_
  refine g_alen (1) hx hb hK hP (by decide) rfl hWt dX2_worldIn_9 ?_
  refine n_ge (tgt := 22) hx hb dX2_worldIn_10 (by decide) (by omega) (by omega) (fun h_10 => ?_) (fun h_10 => ?_)
  · exact absurd h_10 (by omega)
  · refine lv_aload_n hx hb dX2_worldIn_13 rfl (lv_at hl 0 rfl) ?_
    refine g_get (0) 0 (C := RX2) (T := TX2) (N := 7) (ci := 1) (ref := "CubeWorlds") hx hb hts (by decide +kernel) hown hK hP (by decide) rfl rfl (by decide) (by decide +kernel) rfl rfl dX2_worldIn_14 ?_
    refine lv_iload_n hx hb dX2_worldIn_17 rfl (lv_at hl 1 rfl) ?_
    refine g_aald (1) (k) hx hb hK hP (by decide) rfl hWt hk (by decide) (if_pos hk) dX2_worldIn_18 ?_
    refine n_goto 23 hx hb dX2_worldIn_19 (by decide) ?_
    exact g_aret hx hb hrt (Or.inl ⟨_, rfl⟩) hlocks dX2_worldIn_23 (Or.inr ⟨_, rfl⟩) rfl
set_option maxHeartbeats 4000000 in
set_option maxRecDepth 100000 in
theorem c_X2_worldIn_n (l : Launch) {D : va_G} {tys : List (ClassId × FieldType)} {ad : Nat → Nat} {cI cW cM : ClassId} {tI tW tM : Nat} {S : Nat → Nat → Nat} (hI : tys[tI]? = some (cI, .int)) (hWt : tys[tW]? = some (cW, .object "CubeWorlds$World")) (hMt : tys[tM]? = some (cM, .array .int)) (hWF : WF S) {a : Int32} (ha : rB 0 3 a = false) : Met l yX2_worldIn wsX2_worldIn ({ frames := 0, cells := 0, slots := 0, locals := 0 } : Room) (va_Pc [.ref (ad (0)), .int (a)] (PB D tys 33 ad (gE cI cW cM ad S))) (k2_QcV (.null)) 0 0 (fun _ => False) := by
  refine g_pure (cc := cX2_worldIn) (maxL := 2) (ret := (some (.object "CubeWorlds$World"))) (by decide) rfl (Nat.le_of_ble_eq_true rfl) ?_
  intro p e s m args below meth c hx hb hrt hts hown hlocks hml hP hK ls hl
  show W p l e ({ frames := 0, cells := 0, slots := 0, locals := 0 } : Room) s m args below meth c s.heap [] 0 0 _ _
  have hl : lv_has ls 2 [(0, .ref (ad (0))), (1, .int (a))] := hl
  refine lv_iload_n hx hb dX2_worldIn_0 rfl (lv_at hl 1 rfl) ?_
  refine lv_if_lt (tgt := 22) hx hb dX2_worldIn_1 (by decide) (fun h_1 => ?_) (fun h_1 => ?_)
  · refine lv_null hx hb dX2_worldIn_22 ?_
    exact g_aret hx hb hrt (Or.inl ⟨_, rfl⟩) hlocks dX2_worldIn_23 (Or.inl rfl) rfl
  · refine lv_iload_n hx hb dX2_worldIn_4 rfl (lv_at hl 1 rfl) ?_
    refine lv_aload_n hx hb dX2_worldIn_5 rfl (lv_at hl 0 rfl) ?_
    refine g_get (0) 0 (C := RX2) (T := TX2) (N := 7) (ci := 1) (ref := "CubeWorlds") hx hb hts (by decide +kernel) hown hK hP (by decide) rfl rfl (by decide) (by decide +kernel) rfl rfl dX2_worldIn_6 ?_
    refine g_alen (1) hx hb hK hP (by decide) rfl hWt dX2_worldIn_9 ?_
    refine lv_icmp_ge (tgt := 22) hx hb dX2_worldIn_10 (by decide) (fun h_10 => ?_) (fun h_10 => ?_)
    · refine lv_null hx hb dX2_worldIn_22 ?_
      exact g_aret hx hb hrt (Or.inl ⟨_, rfl⟩) hlocks dX2_worldIn_23 (Or.inl rfl) rfl
    · exact absurd (show rB 0 3 a = true from decide_eq_true ⟨k2_le h_1, k4_le h_10⟩) (by rw [ha]; decide)
set_option maxHeartbeats 4000000 in
set_option maxRecDepth 100000 in
theorem c_X2_mapAt_y (l : Launch) {D : va_G} {tys : List (ClassId × FieldType)} {ad : Nat → Nat} {cI cW cM : ClassId} {tI tW tM : Nat} {S : Nat → Nat → Nat} (hI : tys[tI]? = some (cI, .int)) (hWt : tys[tW]? = some (cW, .object "CubeWorlds$World")) (hMt : tys[tM]? = some (cM, .array .int)) (hWF : WF S) {k : Nat} (hk : k < 3) : Met l yX2_mapAt wsX2_mapAt ({ frames := 0, cells := 0, slots := 0, locals := 0 } : Room) (va_Pc [.ref (ad (0)), .int (nI (k))] (PB D tys 33 ad (gE cI cW cM ad S))) (k2_QcV (.ref (ad (3 + k)))) 0 0 (fun _ => False) := by
  refine g_pure (cc := cX2_mapAt) (maxL := 2) (ret := (some (.array .int))) (by decide) rfl (Nat.le_of_ble_eq_true rfl) ?_
  intro p e s m args below meth c hx hb hrt hts hown hlocks hml hP hK ls hl
  show W p l e ({ frames := 0, cells := 0, slots := 0, locals := 0 } : Room) s m args below meth c s.heap [] 0 0 _ _
  have hl : lv_has ls 2 [(0, .ref (ad (0))), (1, .int (nI (k)))] := hl
  refine lv_iload_n hx hb dX2_mapAt_0 rfl (lv_at hl 1 rfl) ?_
  refine n_z_lt (tgt := 22) hx hb dX2_mapAt_1 (by decide) (by omega) ?_
  refine lv_iload_n hx hb dX2_mapAt_4 rfl (lv_at hl 1 rfl) ?_
  refine lv_aload_n hx hb dX2_mapAt_5 rfl (lv_at hl 0 rfl) ?_
  refine g_get (0) 1 (C := RX2) (T := TX2) (N := 7) (ci := 1) (ref := "CubeWorlds") hx hb hts (by decide +kernel) hown hK hP (by decide) rfl rfl (by decide) (by decide +kernel) rfl rfl dX2_mapAt_6 ?_
  refine g_alen (2) hx hb hK hP (by decide) rfl hMt dX2_mapAt_9 ?_
  refine n_ge (tgt := 22) hx hb dX2_mapAt_10 (by decide) (by omega) (by omega) (fun h_10 => ?_) (fun h_10 => ?_)
  · exact absurd h_10 (by omega)
  · refine lv_aload_n hx hb dX2_mapAt_13 rfl (lv_at hl 0 rfl) ?_
    refine g_get (0) 1 (C := RX2) (T := TX2) (N := 7) (ci := 1) (ref := "CubeWorlds") hx hb hts (by decide +kernel) hown hK hP (by decide) rfl rfl (by decide) (by decide +kernel) rfl rfl dX2_mapAt_14 ?_
    refine lv_iload_n hx hb dX2_mapAt_17 rfl (lv_at hl 1 rfl) ?_
    refine g_aaldA (2) (k) hx hb hK hP (by decide) rfl hMt hk (by decide) (if_pos hk) dX2_mapAt_18 ?_
    refine n_goto 23 hx hb dX2_mapAt_19 (by decide) ?_
    exact g_aret hx hb hrt (Or.inr ⟨_, rfl⟩) hlocks dX2_mapAt_23 (Or.inr ⟨_, rfl⟩) rfl
set_option maxHeartbeats 4000000 in
set_option maxRecDepth 100000 in
theorem c_X2_mapAt_n (l : Launch) {D : va_G} {tys : List (ClassId × FieldType)} {ad : Nat → Nat} {cI cW cM : ClassId} {tI tW tM : Nat} {S : Nat → Nat → Nat} (hI : tys[tI]? = some (cI, .int)) (hWt : tys[tW]? = some (cW, .object "CubeWorlds$World")) (hMt : tys[tM]? = some (cM, .array .int)) (hWF : WF S) {a : Int32} (ha : rB 0 2 a = false) : Met l yX2_mapAt wsX2_mapAt ({ frames := 0, cells := 0, slots := 0, locals := 0 } : Room) (va_Pc [.ref (ad (0)), .int (a)] (PB D tys 33 ad (gE cI cW cM ad S))) (k2_QcV (.null)) 0 0 (fun _ => False) := by
  refine g_pure (cc := cX2_mapAt) (maxL := 2) (ret := (some (.array .int))) (by decide) rfl (Nat.le_of_ble_eq_true rfl) ?_
  intro p e s m args below meth c hx hb hrt hts hown hlocks hml hP hK ls hl
  show W p l e ({ frames := 0, cells := 0, slots := 0, locals := 0 } : Room) s m args below meth c s.heap [] 0 0 _ _
  have hl : lv_has ls 2 [(0, .ref (ad (0))), (1, .int (a))] := hl
  refine lv_iload_n hx hb dX2_mapAt_0 rfl (lv_at hl 1 rfl) ?_
  refine lv_if_lt (tgt := 22) hx hb dX2_mapAt_1 (by decide) (fun h_1 => ?_) (fun h_1 => ?_)
  · refine lv_null hx hb dX2_mapAt_22 ?_
    exact g_aret hx hb hrt (Or.inr ⟨_, rfl⟩) hlocks dX2_mapAt_23 (Or.inl rfl) rfl
  · refine lv_iload_n hx hb dX2_mapAt_4 rfl (lv_at hl 1 rfl) ?_
    refine lv_aload_n hx hb dX2_mapAt_5 rfl (lv_at hl 0 rfl) ?_
    refine g_get (0) 1 (C := RX2) (T := TX2) (N := 7) (ci := 1) (ref := "CubeWorlds") hx hb hts (by decide +kernel) hown hK hP (by decide) rfl rfl (by decide) (by decide +kernel) rfl rfl dX2_mapAt_6 ?_
    refine g_alen (2) hx hb hK hP (by decide) rfl hMt dX2_mapAt_9 ?_
    refine lv_icmp_ge (tgt := 22) hx hb dX2_mapAt_10 (by decide) (fun h_10 => ?_) (fun h_10 => ?_)
    · refine lv_null hx hb dX2_mapAt_22 ?_
      exact g_aret hx hb hrt (Or.inr ⟨_, rfl⟩) hlocks dX2_mapAt_23 (Or.inl rfl) rfl
    · exact absurd (show rB 0 2 a = true from decide_eq_true ⟨k2_le h_1, k3_le h_10⟩) (by rw [ha]; decide)
set_option maxHeartbeats 4000000 in
set_option maxRecDepth 100000 in
theorem c_X2_product (l : Launch) {D : va_G} {tys : List (ClassId × FieldType)} {ad : Nat → Nat} {cI cW cM : ClassId} {tI tW tM : Nat} {S : Nat → Nat → Nat} (hI : tys[tI]? = some (cI, .int)) (hWt : tys[tW]? = some (cW, .object "CubeWorlds$World")) (hMt : tys[tM]? = some (cM, .array .int)) (hWF : WF S) {a x y : Int32} : Met l yX2_product wsX2_product ({ frames := 2, cells := 0, slots := 0, locals := 43 } : Room) (va_Pc [.ref (ad (0)), .int (a), .int (x), .int (y)] (PB D tys 33 ad (gE cI cW cM ad S))) (k2_QcV (.int (sC_product (cN S) (cC S) a x y))) 0 0 (fun _ => False) := by
  refine g_pure (cc := cX2_product) (maxL := 5) (ret := (some .int)) (by decide) rfl (Nat.le_of_ble_eq_true rfl) ?_
  intro p e s m args below meth c hx hb hrt hts hown hlocks hml hP hK ls hl
  show W p l e ({ frames := 2, cells := 0, slots := 0, locals := 43 } : Room) s m args below meth c s.heap [] 0 0 _ _
  have hl : lv_has ls 5 [(0, .ref (ad (0))), (1, .int (a)), (2, .int (x)), (3, .int (y))] := hl
  refine lv_aload_n hx hb dX2_product_0 rfl (lv_at hl 0 rfl) ?_
  refine lv_iload_n hx hb dX2_product_1 rfl (lv_at hl 1 rfl) ?_
  cases hs_2 : rB 0 3 a with
  | false =>
    refine g_callV (0) (C := RX2) (T := TX2) (N := 7) (ci := 1) (As := [.int (a)]) (rest := []) (c_X2_worldIn_n l hI hWt hMt hWF hs_2) (cwV 1 hts gX2_product_X2_worldIn rfl rfl rfl (by decide +kernel) ⟨Nat.le_of_ble_eq_true rfl, Nat.le_of_ble_eq_true rfl⟩) hx hb hml hown hts hK hP  (by decide) rfl rfl rfl hl.1 rfl (Nat.le_of_ble_eq_true rfl) (Nat.zero_le _) (Nat.zero_le _) dX2_product_2 ?_
    refine lv_astoreN (lv' := [(4, .null), (0, .ref (ad (0))), (1, .int (a)), (2, .int (x)), (3, .int (y))]) hx hb dX2_product_5 hl (by decide) rfl (fun ls hl => ?_)
    refine lv_aloadN hx hb dX2_product_7 (lv_at hl 0 rfl) ?_
    refine lv_ifnullN (tgt := 30) hx hb dX2_product_9 (by decide) ?_
    refine lv_iconst (v := (-1)) hx hb dX2_product_30 (by decide) ?_
    exact g_iret hx hb hrt hlocks dX2_product_31 (by unfold sC_product; dsimp only [cN, cC, cM_]; rw [rg_n hs_2])
  | true =>
    obtain ⟨k, hk1, hk2, e9⟩ := rB_some (by omega) (by omega) hs_2
    subst e9
    have hk9 : k < 4 := by omega
    have qk1 := (hWF.2.1 k hk9).1
    have qk2 := pow4 qk1.2.1
    have qk3 : 0 < 2 ^ S (13 + 3 * k) 0 := Nat.pow_pos (by decide)
    have qk4 := sq4 qk2
    refine g_callV (0) (C := RX2) (T := TX2) (N := 7) (ci := 1) (As := [.int (nI (k))]) (rest := []) (c_X2_worldIn_y l hI hWt hMt hWF (k := k) (by omega)) (cwV 1 hts gX2_product_X2_worldIn rfl rfl rfl (by decide +kernel) ⟨Nat.le_of_ble_eq_true rfl, Nat.le_of_ble_eq_true rfl⟩) hx hb hml hown hts hK hP  (by decide) rfl rfl rfl hl.1 rfl (Nat.le_of_ble_eq_true rfl) (Nat.zero_le _) (Nat.zero_le _) dX2_product_2 ?_
    refine lv_astore (lv' := [(4, .ref (ad (13 + 3 * k))), (0, .ref (ad (0))), (1, .int (nI (k))), (2, .int (x)), (3, .int (y))]) hx hb dX2_product_5 hl (by decide) rfl (fun ls hl => ?_)
    refine lv_aload hx hb dX2_product_7 (lv_at hl 0 rfl) ?_
    refine lv_ifnull hx hb dX2_product_9 ?_
    refine lv_aload hx hb dX2_product_12 (lv_at hl 0 rfl) ?_
    refine lv_iload_n hx hb dX2_product_14 rfl (lv_at hl 3 rfl) ?_
    refine g_callV (13 + 3 * k) (C := RX1) (T := TX1) (N := 4) (ci := 0) (As := [.int (x)]) (rest := []) (c_X1_has l hI (by omega) (gE_W hk9 (hWF.2.1 k hk9)) (x := x) (hWF.2.1 k hk9).1.2.1 (hWF.2.1 k hk9).1.1) (cwV 1 hts gX2_product_X1_has rfl rfl rfl (by decide +kernel) ⟨Nat.le_of_ble_eq_true rfl, Nat.le_of_ble_eq_true rfl⟩) hx hb hml hown hts hK hP  (by omega) (gE_obj (isO_w hk9)) rfl rfl hl.1 rfl (Nat.le_of_ble_eq_true rfl) (Nat.zero_le _) (Nat.zero_le _) dX2_product_15 ?_
    refine n_ifeq_b (tgt := 30) hx hb dX2_product_18 (by decide) (fun h_18 => ?_) (fun h_18 => ?_)
    · refine lv_iconst (v := (-1)) hx hb dX2_product_30 (by decide) ?_
      exact g_iret hx hb hrt hlocks dX2_product_31 (by unfold sC_product; dsimp only [cN, cC, cM_]; rw [rg_y (by omega) (by omega) (by omega), rg_n h_18])
    · obtain ⟨X, hX1, hX2, e9⟩ := rB_some (by omega) (by omega) h_18
      subst e9
      refine lv_aload hx hb dX2_product_21 (lv_at hl 0 rfl) ?_
      refine lv_iload_n hx hb dX2_product_23 rfl (lv_at hl 4 rfl) ?_
      refine g_callV (13 + 3 * k) (C := RX1) (T := TX1) (N := 4) (ci := 0) (As := [.int (y)]) (rest := []) (c_X1_has l hI (by omega) (gE_W hk9 (hWF.2.1 k hk9)) (x := y) (hWF.2.1 k hk9).1.2.1 (hWF.2.1 k hk9).1.1) (cwV 1 hts gX2_product_X1_has rfl rfl rfl (by decide +kernel) ⟨Nat.le_of_ble_eq_true rfl, Nat.le_of_ble_eq_true rfl⟩) hx hb hml hown hts hK hP  (by omega) (gE_obj (isO_w hk9)) rfl rfl hl.1 rfl (Nat.le_of_ble_eq_true rfl) (Nat.zero_le _) (Nat.zero_le _) dX2_product_24 ?_
      refine n_ifne_b (tgt := 32) hx hb dX2_product_27 (by decide) (fun h_27 => ?_) (fun h_27 => ?_)
      · obtain ⟨Y, hY1, hY2, e9⟩ := rB_some (by omega) (by omega) h_27
        subst e9
        refine lv_aload hx hb dX2_product_32 (lv_at hl 0 rfl) ?_
        refine lv_iload_n hx hb dX2_product_34 rfl (lv_at hl 3 rfl) ?_
        refine lv_iload_n hx hb dX2_product_35 rfl (lv_at hl 4 rfl) ?_
        refine g_callV (13 + 3 * k) (C := RX1) (T := TX1) (N := 4) (ci := 0) (As := [.int (nI (X)), .int (nI (Y))]) (rest := []) (c_X1_times l hI (by omega) (gE_W hk9 (hWF.2.1 k hk9)) (X := X) (Y := Y) (hWF.2.1 k hk9).2.2 (hWF.2.1 k hk9).1.2.1 (by omega) (by omega)) (cwV 2 hts gX2_product_X1_times rfl rfl rfl (by decide +kernel) ⟨Nat.le_of_ble_eq_true rfl, Nat.le_of_ble_eq_true rfl⟩) hx hb hml hown hts hK hP  (by omega) (gE_obj (isO_w hk9)) rfl rfl hl.1 rfl (Nat.le_of_ble_eq_true rfl) (Nat.zero_le _) (Nat.zero_le _) dX2_product_36 ?_
        exact g_iret hx hb hrt hlocks dX2_product_39 (by unfold sC_product; dsimp only [cN, cC, cM_]; rw [rg_y (by omega) (by omega) (by omega), rg_y (by omega) (by omega) (by omega), rg_y (by omega) (by omega) (by omega)])
      · refine lv_iconst (v := (-1)) hx hb dX2_product_30 (by decide) ?_
        exact g_iret hx hb hrt hlocks dX2_product_31 (by unfold sC_product; dsimp only [cN, cC, cM_]; rw [rg_y (by omega) (by omega) (by omega), rg_y (by omega) (by omega) (by omega), rg_n h_27])
set_option maxHeartbeats 4000000 in
set_option maxRecDepth 100000 in
theorem c_X2_divides (l : Launch) {D : va_G} {tys : List (ClassId × FieldType)} {ad : Nat → Nat} {cI cW cM : ClassId} {tI tW tM : Nat} {S : Nat → Nat → Nat} (hI : tys[tI]? = some (cI, .int)) (hWt : tys[tW]? = some (cW, .object "CubeWorlds$World")) (hMt : tys[tM]? = some (cM, .array .int)) (hWF : WF S) {a : Int32} : Met l yX2_divides wsX2_divides ({ frames := 5, cells := 0, slots := 0, locals := 106 } : Room) (va_Pc [.ref (ad (0)), .int (a)] (PB D tys 33 ad (gE cI cW cM ad S))) (k2_QcV (.int (sC_divides (cN S) (cC S) a))) 0 0 (fun _ => False) := by
  refine g_pure (cc := cX2_divides) (maxL := 3) (ret := (some .int)) (by decide) rfl (Nat.le_of_ble_eq_true rfl) ?_
  intro p e s m args below meth c hx hb hrt hts hown hlocks hml hP hK ls hl
  show W p l e ({ frames := 5, cells := 0, slots := 0, locals := 106 } : Room) s m args below meth c s.heap [] 0 0 _ _
  have hl : lv_has ls 3 [(0, .ref (ad (0))), (1, .int (a))] := hl
  refine lv_aload_n hx hb dX2_divides_0 rfl (lv_at hl 0 rfl) ?_
  refine lv_iload_n hx hb dX2_divides_1 rfl (lv_at hl 1 rfl) ?_
  cases hs_2 : rB 0 3 a with
  | false =>
    refine g_callV (0) (C := RX2) (T := TX2) (N := 7) (ci := 1) (As := [.int (a)]) (rest := []) (c_X2_worldIn_n l hI hWt hMt hWF hs_2) (cwV 1 hts gX2_divides_X2_worldIn rfl rfl rfl (by decide +kernel) ⟨Nat.le_of_ble_eq_true rfl, Nat.le_of_ble_eq_true rfl⟩) hx hb hml hown hts hK hP  (by decide) rfl rfl rfl hl.1 rfl (Nat.le_of_ble_eq_true rfl) (Nat.zero_le _) (Nat.zero_le _) dX2_divides_2 ?_
    refine lv_astore_nN (lv' := [(2, .null), (0, .ref (ad (0))), (1, .int (a))]) hx hb dX2_divides_5 rfl hl (by decide) rfl (fun ls hl => ?_)
    refine lv_aload_nN hx hb dX2_divides_6 rfl (lv_at hl 0 rfl) ?_
    refine lv_ifnonnullN hx hb dX2_divides_7 ?_
    refine lv_iconst (v := (-1)) hx hb dX2_divides_10 (by decide) ?_
    exact g_iret hx hb hrt hlocks dX2_divides_11 (by unfold sC_divides; dsimp only [cN, cC, cM_]; rw [rg_n hs_2])
  | true =>
    obtain ⟨k, hk1, hk2, e9⟩ := rB_some (by omega) (by omega) hs_2
    subst e9
    have hk9 : k < 4 := by omega
    have qk1 := (hWF.2.1 k hk9).1
    have qk2 := pow4 qk1.2.1
    have qk3 : 0 < 2 ^ S (13 + 3 * k) 0 := Nat.pow_pos (by decide)
    have qk4 := sq4 qk2
    refine g_callV (0) (C := RX2) (T := TX2) (N := 7) (ci := 1) (As := [.int (nI (k))]) (rest := []) (c_X2_worldIn_y l hI hWt hMt hWF (k := k) (by omega)) (cwV 1 hts gX2_divides_X2_worldIn rfl rfl rfl (by decide +kernel) ⟨Nat.le_of_ble_eq_true rfl, Nat.le_of_ble_eq_true rfl⟩) hx hb hml hown hts hK hP  (by decide) rfl rfl rfl hl.1 rfl (Nat.le_of_ble_eq_true rfl) (Nat.zero_le _) (Nat.zero_le _) dX2_divides_2 ?_
    refine lv_astore_n (lv' := [(2, .ref (ad (13 + 3 * k))), (0, .ref (ad (0))), (1, .int (nI (k)))]) hx hb dX2_divides_5 rfl hl (by decide) rfl (fun ls hl => ?_)
    refine lv_aload_n hx hb dX2_divides_6 rfl (lv_at hl 0 rfl) ?_
    refine lv_ifnonnull (tgt := 12) hx hb dX2_divides_7 (by decide) ?_
    refine lv_aload_n hx hb dX2_divides_12 rfl (lv_at hl 0 rfl) ?_
    refine g_callV (13 + 3 * k) (C := RX1) (T := TX1) (N := 4) (ci := 0) (As := []) (rest := []) (c_X1_isWhole l hI (by omega) (gE_W hk9 (hWF.2.1 k hk9)) (hWF.2.1 k hk9).2.2 (hWF.2.1 k hk9).1.2.1 (hWF.2.1 k hk9).2.1) (cwV 0 hts gX2_divides_X1_isWhole rfl rfl rfl (by decide +kernel) ⟨Nat.le_of_ble_eq_true rfl, Nat.le_of_ble_eq_true rfl⟩) hx hb hml hown hts hK hP  (by omega) (gE_obj (isO_w hk9)) rfl rfl hl.1 rfl (Nat.le_of_ble_eq_true rfl) (Nat.zero_le _) (Nat.zero_le _) dX2_divides_13 ?_
    refine g_callS (As := [.int (bI ((lbr (S (13 + 3 * k) 0) (S (13 + 3 * k + 1))).isNone))]) (rest := []) (c_X2_oneIf l hI (B := (lbr (S (13 + 3 * k) 0) (S (13 + 3 * k + 1))).isNone)) (va_cwS 1 hts gX2_divides_X2_oneIf rfl rfl rfl (by decide +kernel) ⟨Nat.le_of_ble_eq_true rfl, Nat.le_of_ble_eq_true rfl⟩) hx hb hml hown hts hK hP  rfl hl.1 rfl (Nat.le_of_ble_eq_true rfl) (Nat.zero_le _) (Nat.zero_le _) dX2_divides_16 ?_
    exact g_iret hx hb hrt hlocks dX2_divides_19 (by unfold sC_divides; dsimp only [cN, cC, cM_]; rw [rg_y (by omega) (by omega) (by omega)])
set_option maxHeartbeats 4000000 in
set_option maxRecDepth 100000 in
theorem c_X2_broken (l : Launch) {D : va_G} {tys : List (ClassId × FieldType)} {ad : Nat → Nat} {cI cW cM : ClassId} {tI tW tM : Nat} {S : Nat → Nat → Nat} (hI : tys[tI]? = some (cI, .int)) (hWt : tys[tW]? = some (cW, .object "CubeWorlds$World")) (hMt : tys[tM]? = some (cM, .array .int)) (hWF : WF S) {a : Int32} {B : Bool} : Met l yX2_broken wsX2_broken ({ frames := 4, cells := 0, slots := 0, locals := 86 } : Room) (va_Pc [.ref (ad (0)), .int (a), .int (bI (B))] (PB D tys 33 ad (gE cI cW cM ad S))) (k2_QcV (.int (sC_broken (cN S) (cC S) a B))) 0 0 (fun _ => False) := by
  refine g_pure (cc := cX2_broken) (maxL := 5) (ret := (some .int)) (by decide) rfl (Nat.le_of_ble_eq_true rfl) ?_
  intro p e s m args below meth c hx hb hrt hts hown hlocks hml hP hK ls hl
  show W p l e ({ frames := 4, cells := 0, slots := 0, locals := 86 } : Room) s m args below meth c s.heap [] 0 0 _ _
  have hl : lv_has ls 5 [(0, .ref (ad (0))), (1, .int (a)), (2, .int (bI (B)))] := hl
  refine lv_aload_n hx hb dX2_broken_0 rfl (lv_at hl 0 rfl) ?_
  refine lv_iload_n hx hb dX2_broken_1 rfl (lv_at hl 1 rfl) ?_
  cases hs_2 : rB 0 3 a with
  | false =>
    refine g_callV (0) (C := RX2) (T := TX2) (N := 7) (ci := 1) (As := [.int (a)]) (rest := []) (c_X2_worldIn_n l hI hWt hMt hWF hs_2) (cwV 1 hts gX2_broken_X2_worldIn rfl rfl rfl (by decide +kernel) ⟨Nat.le_of_ble_eq_true rfl, Nat.le_of_ble_eq_true rfl⟩) hx hb hml hown hts hK hP  (by decide) rfl rfl rfl hl.1 rfl (Nat.le_of_ble_eq_true rfl) (Nat.zero_le _) (Nat.zero_le _) dX2_broken_2 ?_
    refine lv_astore_nN (lv' := [(3, .null), (0, .ref (ad (0))), (1, .int (a)), (2, .int (bI (B)))]) hx hb dX2_broken_5 rfl hl (by decide) rfl (fun ls hl => ?_)
    refine lv_aload_nN hx hb dX2_broken_6 rfl (lv_at hl 0 rfl) ?_
    refine lv_ifnonnullN hx hb dX2_broken_7 ?_
    refine lv_iconst (v := (-1)) hx hb dX2_broken_10 (by decide) ?_
    exact g_iret hx hb hrt hlocks dX2_broken_11 (by unfold sC_broken; dsimp only [cN, cC, cM_]; rw [rg_n hs_2])
  | true =>
    obtain ⟨k, hk1, hk2, e9⟩ := rB_some (by omega) (by omega) hs_2
    subst e9
    have hk9 : k < 4 := by omega
    have qk1 := (hWF.2.1 k hk9).1
    have qk2 := pow4 qk1.2.1
    have qk3 : 0 < 2 ^ S (13 + 3 * k) 0 := Nat.pow_pos (by decide)
    have qk4 := sq4 qk2
    refine g_callV (0) (C := RX2) (T := TX2) (N := 7) (ci := 1) (As := [.int (nI (k))]) (rest := []) (c_X2_worldIn_y l hI hWt hMt hWF (k := k) (by omega)) (cwV 1 hts gX2_broken_X2_worldIn rfl rfl rfl (by decide +kernel) ⟨Nat.le_of_ble_eq_true rfl, Nat.le_of_ble_eq_true rfl⟩) hx hb hml hown hts hK hP  (by decide) rfl rfl rfl hl.1 rfl (Nat.le_of_ble_eq_true rfl) (Nat.zero_le _) (Nat.zero_le _) dX2_broken_2 ?_
    refine lv_astore_n (lv' := [(3, .ref (ad (13 + 3 * k))), (0, .ref (ad (0))), (1, .int (nI (k))), (2, .int (bI (B)))]) hx hb dX2_broken_5 rfl hl (by decide) rfl (fun ls hl => ?_)
    refine lv_aload_n hx hb dX2_broken_6 rfl (lv_at hl 0 rfl) ?_
    refine lv_ifnonnull (tgt := 12) hx hb dX2_broken_7 (by decide) ?_
    refine lv_aload_n hx hb dX2_broken_12 rfl (lv_at hl 0 rfl) ?_
    refine g_callV (13 + 3 * k) (C := RX1) (T := TX1) (N := 4) (ci := 0) (As := []) (rest := []) (c_X1_leastBroken l hI (by omega) (gE_W hk9 (hWF.2.1 k hk9)) (hWF.2.1 k hk9).2.2 (hWF.2.1 k hk9).1.2.1 (hWF.2.1 k hk9).2.1) (cwV 0 hts gX2_broken_X1_leastBroken rfl rfl rfl (by decide +kernel) ⟨Nat.le_of_ble_eq_true rfl, Nat.le_of_ble_eq_true rfl⟩) hx hb hml hown hts hK hP  (by omega) (gE_obj (isO_w hk9)) rfl rfl hl.1 rfl (Nat.le_of_ble_eq_true rfl) (Nat.zero_le _) (Nat.zero_le _) dX2_broken_13 ?_
    refine lv_istore (lv' := [(4, .int (oI (lbr (S (13 + 3 * k) 0) (S (13 + 3 * k + 1))))), (3, .ref (ad (13 + 3 * k))), (0, .ref (ad (0))), (1, .int (nI (k))), (2, .int (bI (B)))]) hx hb dX2_broken_16 hl (by decide) rfl (fun ls hl => ?_)
    refine lv_iload_n hx hb dX2_broken_18 rfl (lv_at hl 4 rfl) ?_
    refine n_ifeq_b (tgt := 38) hx hb dX2_broken_19 (by decide) (fun h_19 => ?_) (fun h_19 => ?_)
    · refine lv_iload hx hb dX2_broken_38 (lv_at hl 0 rfl) ?_
      exact g_iret hx hb hrt hlocks dX2_broken_40 (by unfold sC_broken; dsimp only [cN, cC, cM_]; rw [rg_y (by omega) (by omega) (by omega), show brS _ _ B = _ from brS_f h_19])
    · refine lv_iload hx hb dX2_broken_22 (lv_at hl 0 rfl) ?_
      refine lv_bipush (v := (-9)) hx hb dX2_broken_24 (by decide) ?_
      refine n_ceq_o (tgt := 38) hx hb dX2_broken_26 (by decide) (fun k hk => by have := (fl_some hk).2.1; omega) (fun h_26 => ?_) (fun h_26 => ?_)
      · refine lv_iload hx hb dX2_broken_38 (lv_at hl 0 rfl) ?_
        exact g_iret hx hb hrt hlocks dX2_broken_40 (by unfold sC_broken; dsimp only [cN, cC, cM_]; rw [rg_y (by omega) (by omega) (by omega), show brS _ _ B = none from brS_n h_26, h_26])
      · obtain ⟨x0, hx0⟩ : ∃ x0, lbr (S (13 + 3 * k) 0) (S (13 + 3 * k + 1)) = some x0 := Option.ne_none_iff_exists'.mp h_26
        have hx2 := (fl_some hx0).2.1
        rw [hx0] at hl
        have hl : lv_has ls 5 [(4, .int (nI (x0))), (3, .ref (ad (13 + 3 * k))), (0, .ref (ad (0))), (1, .int (nI (k))), (2, .int (bI (B)))] := hl
        refine lv_aload_n hx hb dX2_broken_29 rfl (lv_at hl 1 rfl) ?_
        refine lv_iload hx hb dX2_broken_30 (lv_at hl 0 rfl) ?_
        refine g_callV (13 + 3 * k) (C := RX1) (T := TX1) (N := 4) (ci := 0) (As := [.int (nI (x0))]) (rest := []) (c_X1_leastPartner l hI (by omega) (gE_W hk9 (hWF.2.1 k hk9)) (X := x0) (hWF.2.1 k hk9).2.2 (hWF.2.1 k hk9).1.2.1 (hWF.2.1 k hk9).2.1 (by omega)) (cwV 1 hts gX2_broken_X1_leastPartner rfl rfl rfl (by decide +kernel) ⟨Nat.le_of_ble_eq_true rfl, Nat.le_of_ble_eq_true rfl⟩) hx hb hml hown hts hK hP  (by omega) (gE_obj (isO_w hk9)) rfl rfl hl.1 rfl (Nat.le_of_ble_eq_true rfl) (Nat.zero_le _) (Nat.zero_le _) dX2_broken_32 ?_
        refine n_goto 40 hx hb dX2_broken_35 (by decide) ?_
        exact g_iret hx hb hrt hlocks dX2_broken_40 (by unfold sC_broken; dsimp only [cN, cC, cM_]; rw [rg_y (by omega) (by omega) (by omega), show brS _ _ B = _ from brS_t h_19 hx0])
set_option maxHeartbeats 4000000 in
set_option maxRecDepth 100000 in
theorem c_X2_one (l : Launch) {D : va_G} {tys : List (ClassId × FieldType)} {ad : Nat → Nat} {cI cW cM : ClassId} {tI tW tM : Nat} {S : Nat → Nat → Nat} (hI : tys[tI]? = some (cI, .int)) (hWt : tys[tW]? = some (cW, .object "CubeWorlds$World")) (hMt : tys[tM]? = some (cM, .array .int)) (hWF : WF S) {a : Int32} : Met l yX2_one wsX2_one ({ frames := 4, cells := 0, slots := 0, locals := 86 } : Room) (va_Pc [.ref (ad (0)), .int (a)] (PB D tys 33 ad (gE cI cW cM ad S))) (k2_QcV (.int (sC_one (cN S) (cC S) a))) 0 0 (fun _ => False) := by
  refine g_pure (cc := cX2_one) (maxL := 3) (ret := (some .int)) (by decide) rfl (Nat.le_of_ble_eq_true rfl) ?_
  intro p e s m args below meth c hx hb hrt hts hown hlocks hml hP hK ls hl
  show W p l e ({ frames := 4, cells := 0, slots := 0, locals := 86 } : Room) s m args below meth c s.heap [] 0 0 _ _
  have hl : lv_has ls 3 [(0, .ref (ad (0))), (1, .int (a))] := hl
  refine lv_aload_n hx hb dX2_one_0 rfl (lv_at hl 0 rfl) ?_
  refine lv_iload_n hx hb dX2_one_1 rfl (lv_at hl 1 rfl) ?_
  cases hs_2 : rB 0 3 a with
  | false =>
    refine g_callV (0) (C := RX2) (T := TX2) (N := 7) (ci := 1) (As := [.int (a)]) (rest := []) (c_X2_worldIn_n l hI hWt hMt hWF hs_2) (cwV 1 hts gX2_one_X2_worldIn rfl rfl rfl (by decide +kernel) ⟨Nat.le_of_ble_eq_true rfl, Nat.le_of_ble_eq_true rfl⟩) hx hb hml hown hts hK hP  (by decide) rfl rfl rfl hl.1 rfl (Nat.le_of_ble_eq_true rfl) (Nat.zero_le _) (Nat.zero_le _) dX2_one_2 ?_
    refine lv_astore_nN (lv' := [(2, .null), (0, .ref (ad (0))), (1, .int (a))]) hx hb dX2_one_5 rfl hl (by decide) rfl (fun ls hl => ?_)
    refine lv_aload_nN hx hb dX2_one_6 rfl (lv_at hl 0 rfl) ?_
    refine lv_ifnonnullN hx hb dX2_one_7 ?_
    refine lv_iconst (v := (-1)) hx hb dX2_one_10 (by decide) ?_
    exact g_iret hx hb hrt hlocks dX2_one_11 (by unfold sC_one; dsimp only [cN, cC, cM_]; rw [rg_n hs_2])
  | true =>
    obtain ⟨k, hk1, hk2, e9⟩ := rB_some (by omega) (by omega) hs_2
    subst e9
    have hk9 : k < 4 := by omega
    have qk1 := (hWF.2.1 k hk9).1
    have qk2 := pow4 qk1.2.1
    have qk3 : 0 < 2 ^ S (13 + 3 * k) 0 := Nat.pow_pos (by decide)
    have qk4 := sq4 qk2
    refine g_callV (0) (C := RX2) (T := TX2) (N := 7) (ci := 1) (As := [.int (nI (k))]) (rest := []) (c_X2_worldIn_y l hI hWt hMt hWF (k := k) (by omega)) (cwV 1 hts gX2_one_X2_worldIn rfl rfl rfl (by decide +kernel) ⟨Nat.le_of_ble_eq_true rfl, Nat.le_of_ble_eq_true rfl⟩) hx hb hml hown hts hK hP  (by decide) rfl rfl rfl hl.1 rfl (Nat.le_of_ble_eq_true rfl) (Nat.zero_le _) (Nat.zero_le _) dX2_one_2 ?_
    refine lv_astore_n (lv' := [(2, .ref (ad (13 + 3 * k))), (0, .ref (ad (0))), (1, .int (nI (k)))]) hx hb dX2_one_5 rfl hl (by decide) rfl (fun ls hl => ?_)
    refine lv_aload_n hx hb dX2_one_6 rfl (lv_at hl 0 rfl) ?_
    refine lv_ifnonnull (tgt := 12) hx hb dX2_one_7 (by decide) ?_
    refine lv_aload_n hx hb dX2_one_12 rfl (lv_at hl 0 rfl) ?_
    refine g_callV (13 + 3 * k) (C := RX1) (T := TX1) (N := 4) (ci := 0) (As := []) (rest := []) (c_X1_unit l hI (by omega) (gE_W hk9 (hWF.2.1 k hk9)) (hWF.2.1 k hk9).2.2 (hWF.2.1 k hk9).1.2.1 (hWF.2.1 k hk9).2.1) (cwV 0 hts gX2_one_X1_unit rfl rfl rfl (by decide +kernel) ⟨Nat.le_of_ble_eq_true rfl, Nat.le_of_ble_eq_true rfl⟩) hx hb hml hown hts hK hP  (by omega) (gE_obj (isO_w hk9)) rfl rfl hl.1 rfl (Nat.le_of_ble_eq_true rfl) (Nat.zero_le _) (Nat.zero_le _) dX2_one_13 ?_
    exact g_iret hx hb hrt hlocks dX2_one_16 (by unfold sC_one; dsimp only [cN, cC, cM_]; rw [rg_y (by omega) (by omega) (by omega)])
set_option maxHeartbeats 4000000 in
set_option maxRecDepth 100000 in
theorem c_X2_quotient (l : Launch) {D : va_G} {tys : List (ClassId × FieldType)} {ad : Nat → Nat} {cI cW cM : ClassId} {tI tW tM : Nat} {S : Nat → Nat → Nat} (hI : tys[tI]? = some (cI, .int)) (hWt : tys[tW]? = some (cW, .object "CubeWorlds$World")) (hMt : tys[tM]? = some (cM, .array .int)) (hWF : WF S) {a x z : Int32} {L : Bool} : Met l yX2_quotient wsX2_quotient ({ frames := 3, cells := 0, slots := 0, locals := 69 } : Room) (va_Pc [.ref (ad (0)), .int (a), .int (x), .int (z), .int (bI (L))] (PB D tys 33 ad (gE cI cW cM ad S))) (k2_QcV (.int (sC_quotient (cN S) (cC S) a x z L))) 0 0 (fun _ => False) := by
  refine g_pure (cc := cX2_quotient) (maxL := 6) (ret := (some .int)) (by decide) rfl (Nat.le_of_ble_eq_true rfl) ?_
  intro p e s m args below meth c hx hb hrt hts hown hlocks hml hP hK ls hl
  show W p l e ({ frames := 3, cells := 0, slots := 0, locals := 69 } : Room) s m args below meth c s.heap [] 0 0 _ _
  have hl : lv_has ls 6 [(0, .ref (ad (0))), (1, .int (a)), (2, .int (x)), (3, .int (z)), (4, .int (bI (L)))] := hl
  refine lv_aload_n hx hb dX2_quotient_0 rfl (lv_at hl 0 rfl) ?_
  refine lv_iload_n hx hb dX2_quotient_1 rfl (lv_at hl 1 rfl) ?_
  cases hs_2 : rB 0 3 a with
  | false =>
    refine g_callV (0) (C := RX2) (T := TX2) (N := 7) (ci := 1) (As := [.int (a)]) (rest := []) (c_X2_worldIn_n l hI hWt hMt hWF hs_2) (cwV 1 hts gX2_quotient_X2_worldIn rfl rfl rfl (by decide +kernel) ⟨Nat.le_of_ble_eq_true rfl, Nat.le_of_ble_eq_true rfl⟩) hx hb hml hown hts hK hP  (by decide) rfl rfl rfl hl.1 rfl (Nat.le_of_ble_eq_true rfl) (Nat.zero_le _) (Nat.zero_le _) dX2_quotient_2 ?_
    refine lv_astoreN (lv' := [(5, .null), (0, .ref (ad (0))), (1, .int (a)), (2, .int (x)), (3, .int (z)), (4, .int (bI (L)))]) hx hb dX2_quotient_5 hl (by decide) rfl (fun ls hl => ?_)
    refine lv_aloadN hx hb dX2_quotient_7 (lv_at hl 0 rfl) ?_
    refine lv_ifnullN (tgt := 30) hx hb dX2_quotient_9 (by decide) ?_
    refine lv_iconst (v := (-1)) hx hb dX2_quotient_30 (by decide) ?_
    exact g_iret hx hb hrt hlocks dX2_quotient_31 (by unfold sC_quotient; dsimp only [cN, cC, cM_]; rw [rg_n hs_2])
  | true =>
    obtain ⟨k, hk1, hk2, e9⟩ := rB_some (by omega) (by omega) hs_2
    subst e9
    have hk9 : k < 4 := by omega
    have qk1 := (hWF.2.1 k hk9).1
    have qk2 := pow4 qk1.2.1
    have qk3 : 0 < 2 ^ S (13 + 3 * k) 0 := Nat.pow_pos (by decide)
    have qk4 := sq4 qk2
    refine g_callV (0) (C := RX2) (T := TX2) (N := 7) (ci := 1) (As := [.int (nI (k))]) (rest := []) (c_X2_worldIn_y l hI hWt hMt hWF (k := k) (by omega)) (cwV 1 hts gX2_quotient_X2_worldIn rfl rfl rfl (by decide +kernel) ⟨Nat.le_of_ble_eq_true rfl, Nat.le_of_ble_eq_true rfl⟩) hx hb hml hown hts hK hP  (by decide) rfl rfl rfl hl.1 rfl (Nat.le_of_ble_eq_true rfl) (Nat.zero_le _) (Nat.zero_le _) dX2_quotient_2 ?_
    refine lv_astore (lv' := [(5, .ref (ad (13 + 3 * k))), (0, .ref (ad (0))), (1, .int (nI (k))), (2, .int (x)), (3, .int (z)), (4, .int (bI (L)))]) hx hb dX2_quotient_5 hl (by decide) rfl (fun ls hl => ?_)
    refine lv_aload hx hb dX2_quotient_7 (lv_at hl 0 rfl) ?_
    refine lv_ifnull hx hb dX2_quotient_9 ?_
    refine lv_aload hx hb dX2_quotient_12 (lv_at hl 0 rfl) ?_
    refine lv_iload_n hx hb dX2_quotient_14 rfl (lv_at hl 3 rfl) ?_
    refine g_callV (13 + 3 * k) (C := RX1) (T := TX1) (N := 4) (ci := 0) (As := [.int (x)]) (rest := []) (c_X1_has l hI (by omega) (gE_W hk9 (hWF.2.1 k hk9)) (x := x) (hWF.2.1 k hk9).1.2.1 (hWF.2.1 k hk9).1.1) (cwV 1 hts gX2_quotient_X1_has rfl rfl rfl (by decide +kernel) ⟨Nat.le_of_ble_eq_true rfl, Nat.le_of_ble_eq_true rfl⟩) hx hb hml hown hts hK hP  (by omega) (gE_obj (isO_w hk9)) rfl rfl hl.1 rfl (Nat.le_of_ble_eq_true rfl) (Nat.zero_le _) (Nat.zero_le _) dX2_quotient_15 ?_
    refine n_ifeq_b (tgt := 30) hx hb dX2_quotient_18 (by decide) (fun h_18 => ?_) (fun h_18 => ?_)
    · refine lv_iconst (v := (-1)) hx hb dX2_quotient_30 (by decide) ?_
      exact g_iret hx hb hrt hlocks dX2_quotient_31 (by unfold sC_quotient; dsimp only [cN, cC, cM_]; rw [rg_y (by omega) (by omega) (by omega), rg_n h_18])
    · obtain ⟨X, hX1, hX2, e9⟩ := rB_some (by omega) (by omega) h_18
      subst e9
      refine lv_aload hx hb dX2_quotient_21 (lv_at hl 0 rfl) ?_
      refine lv_iload_n hx hb dX2_quotient_23 rfl (lv_at hl 4 rfl) ?_
      refine g_callV (13 + 3 * k) (C := RX1) (T := TX1) (N := 4) (ci := 0) (As := [.int (z)]) (rest := []) (c_X1_has l hI (by omega) (gE_W hk9 (hWF.2.1 k hk9)) (x := z) (hWF.2.1 k hk9).1.2.1 (hWF.2.1 k hk9).1.1) (cwV 1 hts gX2_quotient_X1_has rfl rfl rfl (by decide +kernel) ⟨Nat.le_of_ble_eq_true rfl, Nat.le_of_ble_eq_true rfl⟩) hx hb hml hown hts hK hP  (by omega) (gE_obj (isO_w hk9)) rfl rfl hl.1 rfl (Nat.le_of_ble_eq_true rfl) (Nat.zero_le _) (Nat.zero_le _) dX2_quotient_24 ?_
      refine n_ifne_b (tgt := 32) hx hb dX2_quotient_27 (by decide) (fun h_27 => ?_) (fun h_27 => ?_)
      · obtain ⟨Z, hZ1, hZ2, e9⟩ := rB_some (by omega) (by omega) h_27
        subst e9
        refine lv_aload hx hb dX2_quotient_32 (lv_at hl 0 rfl) ?_
        refine lv_iload_n hx hb dX2_quotient_34 rfl (lv_at hl 3 rfl) ?_
        refine lv_iload_n hx hb dX2_quotient_35 rfl (lv_at hl 4 rfl) ?_
        refine lv_iload hx hb dX2_quotient_36 (lv_at hl 5 rfl) ?_
        refine g_callV (13 + 3 * k) (C := RX1) (T := TX1) (N := 4) (ci := 0) (As := [.int (nI (X)), .int (nI (Z)), .int (bI (L))]) (rest := []) (c_X1_solve l hI (by omega) (gE_W hk9 (hWF.2.1 k hk9)) (X := X) (Z := Z) (L := L) (hWF.2.1 k hk9).2.2 (hWF.2.1 k hk9).1.2.1 (hWF.2.1 k hk9).2.1 (by omega) (by omega)) (cwV 3 hts gX2_quotient_X1_solve rfl rfl rfl (by decide +kernel) ⟨Nat.le_of_ble_eq_true rfl, Nat.le_of_ble_eq_true rfl⟩) hx hb hml hown hts hK hP  (by omega) (gE_obj (isO_w hk9)) rfl rfl hl.1 rfl (Nat.le_of_ble_eq_true rfl) (Nat.zero_le _) (Nat.zero_le _) dX2_quotient_38 ?_
        exact g_iret hx hb hrt hlocks dX2_quotient_41 (by unfold sC_quotient; dsimp only [cN, cC, cM_]; rw [rg_y (by omega) (by omega) (by omega), rg_y (by omega) (by omega) (by omega), rg_y (by omega) (by omega) (by omega)])
      · refine lv_iconst (v := (-1)) hx hb dX2_quotient_30 (by decide) ?_
        exact g_iret hx hb hrt hlocks dX2_quotient_31 (by unfold sC_quotient; dsimp only [cN, cC, cM_]; rw [rg_y (by omega) (by omega) (by omega), rg_y (by omega) (by omega) (by omega), rg_n h_27])
set_option maxHeartbeats 4000000 in
set_option maxRecDepth 100000 in
theorem c_X2_joins (l : Launch) {D : va_G} {tys : List (ClassId × FieldType)} {ad : Nat → Nat} {cI cW cM : ClassId} {tI tW tM : Nat} {S : Nat → Nat → Nat} (hI : tys[tI]? = some (cI, .int)) (hWt : tys[tW]? = some (cW, .object "CubeWorlds$World")) (hMt : tys[tM]? = some (cM, .array .int)) (hWF : WF S) {a x w : Int32} : Met l yX2_joins wsX2_joins ({ frames := 6, cells := 0, slots := 0, locals := 136 } : Room) (va_Pc [.ref (ad (0)), .int (a), .int (x), .int (w)] (PB D tys 33 ad (gE cI cW cM ad S))) (k2_QcV (.int (sC_joins (cN S) (cC S) a x w))) 0 0 (fun _ => False) := by
  refine g_pure (cc := cX2_joins) (maxL := 5) (ret := (some .int)) (by decide) rfl (Nat.le_of_ble_eq_true rfl) ?_
  intro p e s m args below meth c hx hb hrt hts hown hlocks hml hP hK ls hl
  show W p l e ({ frames := 6, cells := 0, slots := 0, locals := 136 } : Room) s m args below meth c s.heap [] 0 0 _ _
  have hl : lv_has ls 5 [(0, .ref (ad (0))), (1, .int (a)), (2, .int (x)), (3, .int (w))] := hl
  refine lv_aload_n hx hb dX2_joins_0 rfl (lv_at hl 0 rfl) ?_
  refine lv_iload_n hx hb dX2_joins_1 rfl (lv_at hl 1 rfl) ?_
  cases hs_2 : rB 0 3 a with
  | false =>
    refine g_callV (0) (C := RX2) (T := TX2) (N := 7) (ci := 1) (As := [.int (a)]) (rest := []) (c_X2_worldIn_n l hI hWt hMt hWF hs_2) (cwV 1 hts gX2_joins_X2_worldIn rfl rfl rfl (by decide +kernel) ⟨Nat.le_of_ble_eq_true rfl, Nat.le_of_ble_eq_true rfl⟩) hx hb hml hown hts hK hP  (by decide) rfl rfl rfl hl.1 rfl (Nat.le_of_ble_eq_true rfl) (Nat.zero_le _) (Nat.zero_le _) dX2_joins_2 ?_
    refine lv_astoreN (lv' := [(4, .null), (0, .ref (ad (0))), (1, .int (a)), (2, .int (x)), (3, .int (w))]) hx hb dX2_joins_5 hl (by decide) rfl (fun ls hl => ?_)
    refine lv_aloadN hx hb dX2_joins_7 (lv_at hl 0 rfl) ?_
    refine lv_ifnullN (tgt := 21) hx hb dX2_joins_9 (by decide) ?_
    refine lv_iconst (v := (-1)) hx hb dX2_joins_21 (by decide) ?_
    exact g_iret hx hb hrt hlocks dX2_joins_22 (by unfold sC_joins; dsimp only [cN, cC, cM_]; rw [rg_n hs_2])
  | true =>
    obtain ⟨k, hk1, hk2, e9⟩ := rB_some (by omega) (by omega) hs_2
    subst e9
    have hk9 : k < 4 := by omega
    have qk1 := (hWF.2.1 k hk9).1
    have qk2 := pow4 qk1.2.1
    have qk3 : 0 < 2 ^ S (13 + 3 * k) 0 := Nat.pow_pos (by decide)
    have qk4 := sq4 qk2
    refine g_callV (0) (C := RX2) (T := TX2) (N := 7) (ci := 1) (As := [.int (nI (k))]) (rest := []) (c_X2_worldIn_y l hI hWt hMt hWF (k := k) (by omega)) (cwV 1 hts gX2_joins_X2_worldIn rfl rfl rfl (by decide +kernel) ⟨Nat.le_of_ble_eq_true rfl, Nat.le_of_ble_eq_true rfl⟩) hx hb hml hown hts hK hP  (by decide) rfl rfl rfl hl.1 rfl (Nat.le_of_ble_eq_true rfl) (Nat.zero_le _) (Nat.zero_le _) dX2_joins_2 ?_
    refine lv_astore (lv' := [(4, .ref (ad (13 + 3 * k))), (0, .ref (ad (0))), (1, .int (nI (k))), (2, .int (x)), (3, .int (w))]) hx hb dX2_joins_5 hl (by decide) rfl (fun ls hl => ?_)
    refine lv_aload hx hb dX2_joins_7 (lv_at hl 0 rfl) ?_
    refine lv_ifnull hx hb dX2_joins_9 ?_
    refine lv_aload hx hb dX2_joins_12 (lv_at hl 0 rfl) ?_
    refine lv_iload_n hx hb dX2_joins_14 rfl (lv_at hl 3 rfl) ?_
    refine g_callV (13 + 3 * k) (C := RX1) (T := TX1) (N := 4) (ci := 0) (As := [.int (x)]) (rest := []) (c_X1_has l hI (by omega) (gE_W hk9 (hWF.2.1 k hk9)) (x := x) (hWF.2.1 k hk9).1.2.1 (hWF.2.1 k hk9).1.1) (cwV 1 hts gX2_joins_X1_has rfl rfl rfl (by decide +kernel) ⟨Nat.le_of_ble_eq_true rfl, Nat.le_of_ble_eq_true rfl⟩) hx hb hml hown hts hK hP  (by omega) (gE_obj (isO_w hk9)) rfl rfl hl.1 rfl (Nat.le_of_ble_eq_true rfl) (Nat.zero_le _) (Nat.zero_le _) dX2_joins_15 ?_
    refine n_ifne_b (tgt := 23) hx hb dX2_joins_18 (by decide) (fun h_18 => ?_) (fun h_18 => ?_)
    · obtain ⟨X, hX1, hX2, e9⟩ := rB_some (by omega) (by omega) h_18
      subst e9
      refine lv_iload_n hx hb dX2_joins_23 rfl (lv_at hl 4 rfl) ?_
      refine g_callS (As := [.int (w)]) (rest := []) (c_X2_isSomeWay l hI (x := w)) (va_cwS 1 hts gX2_joins_X2_isSomeWay rfl rfl rfl (by decide +kernel) ⟨Nat.le_of_ble_eq_true rfl, Nat.le_of_ble_eq_true rfl⟩) hx hb hml hown hts hK hP  rfl hl.1 rfl (Nat.le_of_ble_eq_true rfl) (Nat.zero_le _) (Nat.zero_le _) dX2_joins_24 ?_
      refine n_ifne_b (tgt := 33) hx hb dX2_joins_27 (by decide) (fun h_27 => ?_) (fun h_27 => ?_)
      · obtain ⟨V, hV1, hV2, e9⟩ := rB_some (by omega) (by omega) h_27
        subst e9
        refine lv_aload hx hb dX2_joins_33 (lv_at hl 0 rfl) ?_
        refine lv_iload_n hx hb dX2_joins_35 rfl (lv_at hl 3 rfl) ?_
        refine lv_iload_n hx hb dX2_joins_36 rfl (lv_at hl 4 rfl) ?_
        refine g_callV (13 + 3 * k) (C := RX1) (T := TX1) (N := 4) (ci := 0) (As := [.int (nI (X)), .int (nI (V))]) (rest := []) (c_X1_joinsIn l hI (by omega) (gE_W hk9 (hWF.2.1 k hk9)) (X := X) (V := V) (hWF.2.1 k hk9).2.2 (hWF.2.1 k hk9).1.2.1 (hWF.2.1 k hk9).2.1 (by omega) (by omega)) (cwV 2 hts gX2_joins_X1_joinsIn rfl rfl rfl (by decide +kernel) ⟨Nat.le_of_ble_eq_true rfl, Nat.le_of_ble_eq_true rfl⟩) hx hb hml hown hts hK hP  (by omega) (gE_obj (isO_w hk9)) rfl rfl hl.1 rfl (Nat.le_of_ble_eq_true rfl) (Nat.zero_le _) (Nat.zero_le _) dX2_joins_37 ?_
        refine g_callS (As := [.int (bI (jnB (S (13 + 3 * k) 0) (S (13 + 3 * k + 1)) X V))]) (rest := []) (c_X2_oneIf l hI (B := jnB (S (13 + 3 * k) 0) (S (13 + 3 * k + 1)) X V)) (va_cwS 1 hts gX2_joins_X2_oneIf rfl rfl rfl (by decide +kernel) ⟨Nat.le_of_ble_eq_true rfl, Nat.le_of_ble_eq_true rfl⟩) hx hb hml hown hts hK hP  rfl hl.1 rfl (Nat.le_of_ble_eq_true rfl) (Nat.zero_le _) (Nat.zero_le _) dX2_joins_40 ?_
        exact g_iret hx hb hrt hlocks dX2_joins_43 (by unfold sC_joins; dsimp only [cN, cC, cM_]; rw [rg_y (by omega) (by omega) (by omega), rg_y (by omega) (by omega) (by omega), rg_y (by omega) (by omega) (by omega)])
      · refine lv_bipush (v := (-2)) hx hb dX2_joins_30 (by decide) ?_
        exact g_iret hx hb hrt hlocks dX2_joins_32 (by unfold sC_joins; dsimp only [cN, cC, cM_]; rw [rg_y (by omega) (by omega) (by omega), rg_y (by omega) (by omega) (by omega), rg_n h_27])
    · refine lv_iconst (v := (-1)) hx hb dX2_joins_21 (by decide) ?_
      exact g_iret hx hb hrt hlocks dX2_joins_22 (by unfold sC_joins; dsimp only [cN, cC, cM_]; rw [rg_y (by omega) (by omega) (by omega), rg_n h_18])
set_option maxHeartbeats 4000000 in
set_option maxRecDepth 100000 in
theorem c_X2_many (l : Launch) {D : va_G} {tys : List (ClassId × FieldType)} {ad : Nat → Nat} {cI cW cM : ClassId} {tI tW tM : Nat} {S : Nat → Nat → Nat} (hI : tys[tI]? = some (cI, .int)) (hWt : tys[tW]? = some (cW, .object "CubeWorlds$World")) (hMt : tys[tM]? = some (cM, .array .int)) (hWF : WF S) {a w : Int32} : Met l yX2_many wsX2_many ({ frames := 6, cells := 0, slots := 0, locals := 136 } : Room) (va_Pc [.ref (ad (0)), .int (a), .int (w)] (PB D tys 33 ad (gE cI cW cM ad S))) (k2_QcV (.int (sC_many (cN S) (cC S) a w))) 0 0 (fun _ => False) := by
  refine g_pure (cc := cX2_many) (maxL := 6) (ret := (some .int)) (by decide) rfl (Nat.le_of_ble_eq_true rfl) ?_
  intro p e s m args below meth c hx hb hrt hts hown hlocks hml hP hK ls hl
  show W p l e ({ frames := 6, cells := 0, slots := 0, locals := 136 } : Room) s m args below meth c s.heap [] 0 0 _ _
  have hl : lv_has ls 6 [(0, .ref (ad (0))), (1, .int (a)), (2, .int (w))] := hl
  refine lv_aload_n hx hb dX2_many_0 rfl (lv_at hl 0 rfl) ?_
  refine lv_iload_n hx hb dX2_many_1 rfl (lv_at hl 1 rfl) ?_
  cases hs_2 : rB 0 3 a with
  | false =>
    refine g_callV (0) (C := RX2) (T := TX2) (N := 7) (ci := 1) (As := [.int (a)]) (rest := []) (c_X2_worldIn_n l hI hWt hMt hWF hs_2) (cwV 1 hts gX2_many_X2_worldIn rfl rfl rfl (by decide +kernel) ⟨Nat.le_of_ble_eq_true rfl, Nat.le_of_ble_eq_true rfl⟩) hx hb hml hown hts hK hP  (by decide) rfl rfl rfl hl.1 rfl (Nat.le_of_ble_eq_true rfl) (Nat.zero_le _) (Nat.zero_le _) dX2_many_2 ?_
    refine lv_astore_nN (lv' := [(3, .null), (0, .ref (ad (0))), (1, .int (a)), (2, .int (w))]) hx hb dX2_many_5 rfl hl (by decide) rfl (fun ls hl => ?_)
    refine lv_aload_nN hx hb dX2_many_6 rfl (lv_at hl 0 rfl) ?_
    refine lv_ifnonnullN hx hb dX2_many_7 ?_
    refine lv_iconst (v := (-1)) hx hb dX2_many_10 (by decide) ?_
    exact g_iret hx hb hrt hlocks dX2_many_11 (by unfold sC_many; dsimp only [cN, cC, cM_]; rw [rg_n hs_2])
  | true =>
    obtain ⟨k, hk1, hk2, e9⟩ := rB_some (by omega) (by omega) hs_2
    subst e9
    have hk9 : k < 4 := by omega
    have qk1 := (hWF.2.1 k hk9).1
    have qk2 := pow4 qk1.2.1
    have qk3 : 0 < 2 ^ S (13 + 3 * k) 0 := Nat.pow_pos (by decide)
    have qk4 := sq4 qk2
    refine g_callV (0) (C := RX2) (T := TX2) (N := 7) (ci := 1) (As := [.int (nI (k))]) (rest := []) (c_X2_worldIn_y l hI hWt hMt hWF (k := k) (by omega)) (cwV 1 hts gX2_many_X2_worldIn rfl rfl rfl (by decide +kernel) ⟨Nat.le_of_ble_eq_true rfl, Nat.le_of_ble_eq_true rfl⟩) hx hb hml hown hts hK hP  (by decide) rfl rfl rfl hl.1 rfl (Nat.le_of_ble_eq_true rfl) (Nat.zero_le _) (Nat.zero_le _) dX2_many_2 ?_
    refine lv_astore_n (lv' := [(3, .ref (ad (13 + 3 * k))), (0, .ref (ad (0))), (1, .int (nI (k))), (2, .int (w))]) hx hb dX2_many_5 rfl hl (by decide) rfl (fun ls hl => ?_)
    refine lv_aload_n hx hb dX2_many_6 rfl (lv_at hl 0 rfl) ?_
    refine lv_ifnonnull (tgt := 12) hx hb dX2_many_7 (by decide) ?_
    refine lv_iload_n hx hb dX2_many_12 rfl (lv_at hl 3 rfl) ?_
    refine g_callS (As := [.int (w)]) (rest := []) (c_X2_isSomeWay l hI (x := w)) (va_cwS 1 hts gX2_many_X2_isSomeWay rfl rfl rfl (by decide +kernel) ⟨Nat.le_of_ble_eq_true rfl, Nat.le_of_ble_eq_true rfl⟩) hx hb hml hown hts hK hP  rfl hl.1 rfl (Nat.le_of_ble_eq_true rfl) (Nat.zero_le _) (Nat.zero_le _) dX2_many_13 ?_
    refine n_ifne_b (tgt := 22) hx hb dX2_many_16 (by decide) (fun h_16 => ?_) (fun h_16 => ?_)
    · obtain ⟨V, hV1, hV2, e9⟩ := rB_some (by omega) (by omega) h_16
      subst e9
      refine n_iconst 0 hx hb dX2_many_22 ?_
      refine lv_istore (lv' := [(4, .int (nI (0))), (3, .ref (ad (13 + 3 * k))), (0, .ref (ad (0))), (1, .int (nI (k))), (2, .int (nI (V)))]) hx hb dX2_many_23 hl (by decide) rfl (fun ls hl => ?_)
      refine n_iconst 0 hx hb dX2_many_25 ?_
      refine lv_istore (lv' := [(5, .int (nI (0))), (4, .int (nI (0))), (3, .ref (ad (13 + 3 * k))), (0, .ref (ad (0))), (1, .int (nI (k))), (2, .int (nI (V)))]) hx hb dX2_many_26 hl (by decide) rfl (fun ls hl => ?_)
      have L_28 : ∀ (r : Nat) (acc : Nat) (x : Nat), (x ≤ 2 ^ S (13 + 3 * k) 0) → (2 ^ S (13 + 3 * k) 0 < x + r) → (acc = cnt (fun x => jnB (S (13 + 3 * k) 0) (S (13 + 3 * k + 1)) x V) x) → ∀ (ls : Array Slot), lv_has ls 6 [(0, .ref (ad (0))), (1, .int (nI (k))), (2, .int (nI (V))), (3, .ref (ad (13 + 3 * k))), (4, .int (nI (acc))), (5, .int (nI (x)))] → W p l e ({ frames := 6, cells := 0, slots := 0, locals := 136 } : Room) s m args below meth c s.heap [] 0 0 (MQ below (k2_QcV (.int (sC_many (cN S) (cC S) ((nI k)) ((nI V))))) args s 0 0 (fun _ => False)) (F0 m 28 ls []) := by
        intro r
        induction r with
        | zero => intro acc x hx1 hr hc9; intros; exact absurd hr (by omega)
        | succ r ih =>
          intro acc x hx1 hr hc9 ls hl
          have ih_28 := ih
          refine lv_iload hx hb dX2_many_28 (lv_at hl 5 rfl) ?_
          refine lv_aload_n hx hb dX2_many_30 rfl (lv_at hl 3 rfl) ?_
          refine g_callV (13 + 3 * k) (C := RX1) (T := TX1) (N := 4) (ci := 0) (As := []) (rest := [.int (nI (x))]) (c_X1_size l hI (by omega) (gE_W hk9 (hWF.2.1 k hk9))) (cwV 0 hts gX2_many_X1_size rfl rfl rfl (by decide +kernel) ⟨Nat.le_of_ble_eq_true rfl, Nat.le_of_ble_eq_true rfl⟩) hx hb hml hown hts hK hP  (by omega) (gE_obj (isO_w hk9)) rfl rfl hl.1 rfl (Nat.le_of_ble_eq_true rfl) (Nat.zero_le _) (Nat.zero_le _) dX2_many_31 ?_
          refine n_ge (tgt := 56) hx hb dX2_many_34 (by decide) (by omega) (by omega) (fun h_34 => ?_) (fun h_34 => ?_)
          · refine lv_iload hx hb dX2_many_56 (lv_at hl 4 rfl) ?_
            exact g_iret hx hb hrt hlocks dX2_many_58 (by unfold sC_many; dsimp only [cN, cC, cM_]; rw [rg_y (by omega) (by omega) (by omega), rg_y (by omega) (by omega) (by omega), hc9, show x = 2 ^ S (13 + 3 * k) 0 by omega])
          · refine lv_aload_n hx hb dX2_many_37 rfl (lv_at hl 3 rfl) ?_
            refine lv_iload hx hb dX2_many_38 (lv_at hl 5 rfl) ?_
            refine lv_iload_n hx hb dX2_many_40 rfl (lv_at hl 2 rfl) ?_
            refine g_callV (13 + 3 * k) (C := RX1) (T := TX1) (N := 4) (ci := 0) (As := [.int (nI (x)), .int (nI (V))]) (rest := []) (c_X1_joinsIn l hI (by omega) (gE_W hk9 (hWF.2.1 k hk9)) (X := x) (V := V) (hWF.2.1 k hk9).2.2 (hWF.2.1 k hk9).1.2.1 (hWF.2.1 k hk9).2.1 (by omega) (by omega)) (cwV 2 hts gX2_many_X1_joinsIn rfl rfl rfl (by decide +kernel) ⟨Nat.le_of_ble_eq_true rfl, Nat.le_of_ble_eq_true rfl⟩) hx hb hml hown hts hK hP  (by omega) (gE_obj (isO_w hk9)) rfl rfl hl.1 rfl (Nat.le_of_ble_eq_true rfl) (Nat.zero_le _) (Nat.zero_le _) dX2_many_41 ?_
            refine n_ifeq_b (tgt := 50) hx hb dX2_many_44 (by decide) (fun h_44 => ?_) (fun h_44 => ?_)
            · refine n_iinc 5 1 (lv' := [(5, .int (nI (x + 1))), (0, .ref (ad (0))), (1, .int (nI (k))), (2, .int (nI (V))), (3, .ref (ad (13 + 3 * k))), (4, .int (nI (acc)))]) hx hb dX2_many_50 hl rfl (by decide) rfl (fun ls hl => ?_)
              refine n_goto 28 hx hb dX2_many_53 (by decide) ?_
              exact ih_28 (acc) (x + 1) (by omega) (by omega) (by rw [hc9, cnt_n (p := fun x => jnB (S (13 + 3 * k) 0) (S (13 + 3 * k + 1)) x V) h_44]) _ (lv_sub hl [1, 2, 3, 4, 5, 0] rfl)
            · refine n_iinc 4 1 (lv' := [(4, .int (nI (acc + 1))), (0, .ref (ad (0))), (1, .int (nI (k))), (2, .int (nI (V))), (3, .ref (ad (13 + 3 * k))), (5, .int (nI (x)))]) hx hb dX2_many_47 hl rfl (by decide) rfl (fun ls hl => ?_)
              refine n_iinc 5 1 (lv' := [(5, .int (nI (x + 1))), (4, .int (nI (acc + 1))), (0, .ref (ad (0))), (1, .int (nI (k))), (2, .int (nI (V))), (3, .ref (ad (13 + 3 * k)))]) hx hb dX2_many_50 hl rfl (by decide) rfl (fun ls hl => ?_)
              refine n_goto 28 hx hb dX2_many_53 (by decide) ?_
              exact ih_28 (acc + 1) (x + 1) (by omega) (by omega) (by rw [hc9, cnt_y (p := fun x => jnB (S (13 + 3 * k) 0) (S (13 + 3 * k + 1)) x V) h_44]) _ (lv_sub hl [2, 3, 4, 5, 1, 0] rfl)
      exact L_28 (2 ^ S (13 + 3 * k) 0 + 1) (0) (0) (Nat.zero_le _) (by omega) rfl _ (lv_sub hl [3, 4, 5, 2, 1, 0] rfl)
    · refine lv_bipush (v := (-2)) hx hb dX2_many_19 (by decide) ?_
      exact g_iret hx hb hrt hlocks dX2_many_21 (by unfold sC_many; dsimp only [cN, cC, cM_]; rw [rg_y (by omega) (by omega) (by omega), rg_n h_16])
set_option maxHeartbeats 4000000 in
set_option maxRecDepth 100000 in
theorem c_X2_unlike (l : Launch) {D : va_G} {tys : List (ClassId × FieldType)} {ad : Nat → Nat} {cI cW cM : ClassId} {tI tW tM : Nat} {S : Nat → Nat → Nat} (hI : tys[tI]? = some (cI, .int)) (hWt : tys[tW]? = some (cW, .object "CubeWorlds$World")) (hMt : tys[tM]? = some (cM, .array .int)) (hWF : WF S) {a : Int32} : Met l yX2_unlike wsX2_unlike ({ frames := 3, cells := 0, slots := 0, locals := 66 } : Room) (va_Pc [.ref (ad (0)), .int (a)] (PB D tys 33 ad (gE cI cW cM ad S))) (k2_QcV (.int (sC_unlike (cN S) (cC S) a))) 0 0 (fun _ => False) := by
  refine g_pure (cc := cX2_unlike) (maxL := 3) (ret := (some .int)) (by decide) rfl (Nat.le_of_ble_eq_true rfl) ?_
  intro p e s m args below meth c hx hb hrt hts hown hlocks hml hP hK ls hl
  show W p l e ({ frames := 3, cells := 0, slots := 0, locals := 66 } : Room) s m args below meth c s.heap [] 0 0 _ _
  have hl : lv_has ls 3 [(0, .ref (ad (0))), (1, .int (a))] := hl
  refine lv_aload_n hx hb dX2_unlike_0 rfl (lv_at hl 0 rfl) ?_
  refine lv_iload_n hx hb dX2_unlike_1 rfl (lv_at hl 1 rfl) ?_
  cases hs_2 : rB 0 3 a with
  | false =>
    refine g_callV (0) (C := RX2) (T := TX2) (N := 7) (ci := 1) (As := [.int (a)]) (rest := []) (c_X2_worldIn_n l hI hWt hMt hWF hs_2) (cwV 1 hts gX2_unlike_X2_worldIn rfl rfl rfl (by decide +kernel) ⟨Nat.le_of_ble_eq_true rfl, Nat.le_of_ble_eq_true rfl⟩) hx hb hml hown hts hK hP  (by decide) rfl rfl rfl hl.1 rfl (Nat.le_of_ble_eq_true rfl) (Nat.zero_le _) (Nat.zero_le _) dX2_unlike_2 ?_
    refine lv_astore_nN (lv' := [(2, .null), (0, .ref (ad (0))), (1, .int (a))]) hx hb dX2_unlike_5 rfl hl (by decide) rfl (fun ls hl => ?_)
    refine lv_aload_nN hx hb dX2_unlike_6 rfl (lv_at hl 0 rfl) ?_
    refine lv_ifnonnullN hx hb dX2_unlike_7 ?_
    refine lv_iconst (v := (-1)) hx hb dX2_unlike_10 (by decide) ?_
    exact g_iret hx hb hrt hlocks dX2_unlike_11 (by unfold sC_unlike; dsimp only [cN, cC, cM_]; rw [rg_n hs_2])
  | true =>
    obtain ⟨k, hk1, hk2, e9⟩ := rB_some (by omega) (by omega) hs_2
    subst e9
    have hk9 : k < 4 := by omega
    have qk1 := (hWF.2.1 k hk9).1
    have qk2 := pow4 qk1.2.1
    have qk3 : 0 < 2 ^ S (13 + 3 * k) 0 := Nat.pow_pos (by decide)
    have qk4 := sq4 qk2
    refine g_callV (0) (C := RX2) (T := TX2) (N := 7) (ci := 1) (As := [.int (nI (k))]) (rest := []) (c_X2_worldIn_y l hI hWt hMt hWF (k := k) (by omega)) (cwV 1 hts gX2_unlike_X2_worldIn rfl rfl rfl (by decide +kernel) ⟨Nat.le_of_ble_eq_true rfl, Nat.le_of_ble_eq_true rfl⟩) hx hb hml hown hts hK hP  (by decide) rfl rfl rfl hl.1 rfl (Nat.le_of_ble_eq_true rfl) (Nat.zero_le _) (Nat.zero_le _) dX2_unlike_2 ?_
    refine lv_astore_n (lv' := [(2, .ref (ad (13 + 3 * k))), (0, .ref (ad (0))), (1, .int (nI (k)))]) hx hb dX2_unlike_5 rfl hl (by decide) rfl (fun ls hl => ?_)
    refine lv_aload_n hx hb dX2_unlike_6 rfl (lv_at hl 0 rfl) ?_
    refine lv_ifnonnull (tgt := 12) hx hb dX2_unlike_7 (by decide) ?_
    refine lv_aload_n hx hb dX2_unlike_12 rfl (lv_at hl 0 rfl) ?_
    refine g_callV (13 + 3 * k) (C := RX1) (T := TX1) (N := 4) (ci := 0) (As := []) (rest := []) (c_X1_countUnlike l hI (by omega) (gE_W hk9 (hWF.2.1 k hk9)) (hWF.2.1 k hk9).2.2 (hWF.2.1 k hk9).1.2.1 (hWF.2.1 k hk9).2.1) (cwV 0 hts gX2_unlike_X1_countUnlike rfl rfl rfl (by decide +kernel) ⟨Nat.le_of_ble_eq_true rfl, Nat.le_of_ble_eq_true rfl⟩) hx hb hml hown hts hK hP  (by omega) (gE_obj (isO_w hk9)) rfl rfl hl.1 rfl (Nat.le_of_ble_eq_true rfl) (Nat.zero_le _) (Nat.zero_le _) dX2_unlike_13 ?_
    exact g_iret hx hb hrt hlocks dX2_unlike_16 (by unfold sC_unlike; dsimp only [cN, cC, cM_]; rw [rg_y (by omega) (by omega) (by omega)])
set_option maxHeartbeats 4000000 in
set_option maxRecDepth 100000 in
theorem c_X2_gives (l : Launch) {D : va_G} {tys : List (ClassId × FieldType)} {ad : Nat → Nat} {cI cW cM : ClassId} {tI tW tM : Nat} {S : Nat → Nat → Nat} (hI : tys[tI]? = some (cI, .int)) (hWt : tys[tW]? = some (cW, .object "CubeWorlds$World")) (hMt : tys[tM]? = some (cM, .array .int)) (hWF : WF S) {a x : Int32} : Met l yX2_gives wsX2_gives ({ frames := 1, cells := 0, slots := 0, locals := 23 } : Room) (va_Pc [.ref (ad (0)), .int (a), .int (x)] (PB D tys 33 ad (gE cI cW cM ad S))) (k2_QcV (.int (sC_gives (cM_ S) a x))) 0 0 (fun _ => False) := by
  refine g_pure (cc := cX2_gives) (maxL := 4) (ret := (some .int)) (by decide) rfl (Nat.le_of_ble_eq_true rfl) ?_
  intro p e s m args below meth c hx hb hrt hts hown hlocks hml hP hK ls hl
  show W p l e ({ frames := 1, cells := 0, slots := 0, locals := 23 } : Room) s m args below meth c s.heap [] 0 0 _ _
  have hl : lv_has ls 4 [(0, .ref (ad (0))), (1, .int (a)), (2, .int (x))] := hl
  refine lv_aload_n hx hb dX2_gives_0 rfl (lv_at hl 0 rfl) ?_
  refine lv_iload_n hx hb dX2_gives_1 rfl (lv_at hl 1 rfl) ?_
  cases hs_2 : rB 0 2 a with
  | false =>
    refine g_callV (0) (C := RX2) (T := TX2) (N := 7) (ci := 1) (As := [.int (a)]) (rest := []) (c_X2_mapAt_n l hI hWt hMt hWF hs_2) (cwV 1 hts gX2_gives_X2_mapAt rfl rfl rfl (by decide +kernel) ⟨Nat.le_of_ble_eq_true rfl, Nat.le_of_ble_eq_true rfl⟩) hx hb hml hown hts hK hP  (by decide) rfl rfl rfl hl.1 rfl (Nat.le_of_ble_eq_true rfl) (Nat.zero_le _) (Nat.zero_le _) dX2_gives_2 ?_
    refine lv_astore_nN (lv' := [(3, .null), (0, .ref (ad (0))), (1, .int (a)), (2, .int (x))]) hx hb dX2_gives_5 rfl hl (by decide) rfl (fun ls hl => ?_)
    refine lv_aload_nN hx hb dX2_gives_6 rfl (lv_at hl 0 rfl) ?_
    refine lv_ifnonnullN hx hb dX2_gives_7 ?_
    refine lv_iconst (v := (-1)) hx hb dX2_gives_10 (by decide) ?_
    exact g_iret hx hb hrt hlocks dX2_gives_11 (by unfold sC_gives; dsimp only [cN, cC, cM_]; rw [rg_n hs_2])
  | true =>
    obtain ⟨m, hm1, hm2, e9⟩ := rB_some (by omega) (by omega) hs_2
    subst e9
    have hm9 : m < 3 := by omega
    refine g_callV (0) (C := RX2) (T := TX2) (N := 7) (ci := 1) (As := [.int (nI (m))]) (rest := []) (c_X2_mapAt_y l hI hWt hMt hWF (k := m) (by omega)) (cwV 1 hts gX2_gives_X2_mapAt rfl rfl rfl (by decide +kernel) ⟨Nat.le_of_ble_eq_true rfl, Nat.le_of_ble_eq_true rfl⟩) hx hb hml hown hts hK hP  (by decide) rfl rfl rfl hl.1 rfl (Nat.le_of_ble_eq_true rfl) (Nat.zero_le _) (Nat.zero_le _) dX2_gives_2 ?_
    refine lv_astore_n (lv' := [(3, .ref (ad (3 + m))), (0, .ref (ad (0))), (1, .int (nI (m))), (2, .int (x))]) hx hb dX2_gives_5 rfl hl (by decide) rfl (fun ls hl => ?_)
    refine lv_aload_n hx hb dX2_gives_6 rfl (lv_at hl 0 rfl) ?_
    refine lv_ifnonnull (tgt := 12) hx hb dX2_gives_7 (by decide) ?_
    refine lv_iload_n hx hb dX2_gives_12 rfl (lv_at hl 3 rfl) ?_
    refine g_callS (As := [.int (x)]) (rest := []) (c_X2_isMapNumber l hI (x := x)) (va_cwS 1 hts gX2_gives_X2_isMapNumber rfl rfl rfl (by decide +kernel) ⟨Nat.le_of_ble_eq_true rfl, Nat.le_of_ble_eq_true rfl⟩) hx hb hml hown hts hK hP  rfl hl.1 rfl (Nat.le_of_ble_eq_true rfl) (Nat.zero_le _) (Nat.zero_le _) dX2_gives_13 ?_
    refine n_ifne_b (tgt := 22) hx hb dX2_gives_16 (by decide) (fun h_16 => ?_) (fun h_16 => ?_)
    · obtain ⟨X, hX1, hX2, e9⟩ := rB_some (by omega) (by omega) h_16
      subst e9
      refine lv_aload_n hx hb dX2_gives_22 rfl (lv_at hl 0 rfl) ?_
      refine lv_iload_n hx hb dX2_gives_23 rfl (lv_at hl 3 rfl) ?_
      refine g_callS (As := [.ref (ad (3 + m)), .int (nI (X))]) (rest := []) (c_X2_sumOf l hI (rI := 3 + m) (f := S (3 + m)) (by omega) (gI _ 4 (ln_m (by omega)) (by decide)) (X := X) (by omega)) (va_cwS 2 hts gX2_gives_X2_sumOf rfl rfl rfl (by decide +kernel) ⟨Nat.le_of_ble_eq_true rfl, Nat.le_of_ble_eq_true rfl⟩) hx hb hml hown hts hK hP  rfl hl.1 rfl (Nat.le_of_ble_eq_true rfl) (Nat.zero_le _) (Nat.zero_le _) dX2_gives_24 ?_
      exact g_iret hx hb hrt hlocks dX2_gives_27 (by unfold sC_gives; dsimp only [cN, cC, cM_]; rw [rg_y (by omega) (by omega) (by omega), rg_y (by omega) (by omega) (by omega)])
    · refine lv_bipush (v := (-2)) hx hb dX2_gives_19 (by decide) ?_
      exact g_iret hx hb hrt hlocks dX2_gives_21 (by unfold sC_gives; dsimp only [cN, cC, cM_]; rw [rg_y (by omega) (by omega) (by omega), rg_n h_16])
set_option maxHeartbeats 4000000 in
set_option maxRecDepth 100000 in
theorem c_X2_fits (l : Launch) {D : va_G} {tys : List (ClassId × FieldType)} {ad : Nat → Nat} {cI cW cM : ClassId} {tI tW tM : Nat} {S : Nat → Nat → Nat} (hI : tys[tI]? = some (cI, .int)) (hWt : tys[tW]? = some (cW, .object "CubeWorlds$World")) (hMt : tys[tM]? = some (cM, .array .int)) (hWF : WF S) {a x : Int32} : Met l yX2_fits wsX2_fits ({ frames := 2, cells := 0, slots := 0, locals := 48 } : Room) (va_Pc [.ref (ad (0)), .int (a), .int (x)] (PB D tys 33 ad (gE cI cW cM ad S))) (k2_QcV (.int (sC_fits (cM_ S) a x))) 0 0 (fun _ => False) := by
  refine g_pure (cc := cX2_fits) (maxL := 4) (ret := (some .int)) (by decide) rfl (Nat.le_of_ble_eq_true rfl) ?_
  intro p e s m args below meth c hx hb hrt hts hown hlocks hml hP hK ls hl
  show W p l e ({ frames := 2, cells := 0, slots := 0, locals := 48 } : Room) s m args below meth c s.heap [] 0 0 _ _
  have hl : lv_has ls 4 [(0, .ref (ad (0))), (1, .int (a)), (2, .int (x))] := hl
  refine lv_aload_n hx hb dX2_fits_0 rfl (lv_at hl 0 rfl) ?_
  refine lv_iload_n hx hb dX2_fits_1 rfl (lv_at hl 1 rfl) ?_
  cases hs_2 : rB 0 2 a with
  | false =>
    refine g_callV (0) (C := RX2) (T := TX2) (N := 7) (ci := 1) (As := [.int (a)]) (rest := []) (c_X2_mapAt_n l hI hWt hMt hWF hs_2) (cwV 1 hts gX2_fits_X2_mapAt rfl rfl rfl (by decide +kernel) ⟨Nat.le_of_ble_eq_true rfl, Nat.le_of_ble_eq_true rfl⟩) hx hb hml hown hts hK hP  (by decide) rfl rfl rfl hl.1 rfl (Nat.le_of_ble_eq_true rfl) (Nat.zero_le _) (Nat.zero_le _) dX2_fits_2 ?_
    refine lv_astore_nN (lv' := [(3, .null), (0, .ref (ad (0))), (1, .int (a)), (2, .int (x))]) hx hb dX2_fits_5 rfl hl (by decide) rfl (fun ls hl => ?_)
    refine lv_aload_nN hx hb dX2_fits_6 rfl (lv_at hl 0 rfl) ?_
    refine lv_ifnonnullN hx hb dX2_fits_7 ?_
    refine lv_iconst (v := (-1)) hx hb dX2_fits_10 (by decide) ?_
    exact g_iret hx hb hrt hlocks dX2_fits_11 (by unfold sC_fits; dsimp only [cN, cC, cM_]; rw [rg_n hs_2])
  | true =>
    obtain ⟨m, hm1, hm2, e9⟩ := rB_some (by omega) (by omega) hs_2
    subst e9
    have hm9 : m < 3 := by omega
    refine g_callV (0) (C := RX2) (T := TX2) (N := 7) (ci := 1) (As := [.int (nI (m))]) (rest := []) (c_X2_mapAt_y l hI hWt hMt hWF (k := m) (by omega)) (cwV 1 hts gX2_fits_X2_mapAt rfl rfl rfl (by decide +kernel) ⟨Nat.le_of_ble_eq_true rfl, Nat.le_of_ble_eq_true rfl⟩) hx hb hml hown hts hK hP  (by decide) rfl rfl rfl hl.1 rfl (Nat.le_of_ble_eq_true rfl) (Nat.zero_le _) (Nat.zero_le _) dX2_fits_2 ?_
    refine lv_astore_n (lv' := [(3, .ref (ad (3 + m))), (0, .ref (ad (0))), (1, .int (nI (m))), (2, .int (x))]) hx hb dX2_fits_5 rfl hl (by decide) rfl (fun ls hl => ?_)
    refine lv_aload_n hx hb dX2_fits_6 rfl (lv_at hl 0 rfl) ?_
    refine lv_ifnonnull (tgt := 12) hx hb dX2_fits_7 (by decide) ?_
    refine lv_iload_n hx hb dX2_fits_12 rfl (lv_at hl 3 rfl) ?_
    refine g_callS (As := [.int (x)]) (rest := []) (c_X2_isSomeN l hI (x := x)) (va_cwS 1 hts gX2_fits_X2_isSomeN rfl rfl rfl (by decide +kernel) ⟨Nat.le_of_ble_eq_true rfl, Nat.le_of_ble_eq_true rfl⟩) hx hb hml hown hts hK hP  rfl hl.1 rfl (Nat.le_of_ble_eq_true rfl) (Nat.zero_le _) (Nat.zero_le _) dX2_fits_13 ?_
    refine n_ifne_b (tgt := 22) hx hb dX2_fits_16 (by decide) (fun h_16 => ?_) (fun h_16 => ?_)
    · obtain ⟨N, hN1, hN2, e9⟩ := rB_some (by omega) (by omega) h_16
      subst e9
      refine lv_aload_n hx hb dX2_fits_22 rfl (lv_at hl 0 rfl) ?_
      refine lv_iload_n hx hb dX2_fits_23 rfl (lv_at hl 3 rfl) ?_
      refine g_callS (As := [.ref (ad (3 + m)), .int (nI (N))]) (rest := []) (c_X2_isFit l hI (rI := 3 + m) (f := S (3 + m)) (by omega) (gI _ 4 (ln_m (by omega)) (by decide)) (nn := N) (by omega) (fun x _ => im16 (fun i hi => hWF.2.2 m (by omega) i hi) x)) (va_cwS 2 hts gX2_fits_X2_isFit rfl rfl rfl (by decide +kernel) ⟨Nat.le_of_ble_eq_true rfl, Nat.le_of_ble_eq_true rfl⟩) hx hb hml hown hts hK hP  rfl hl.1 rfl (Nat.le_of_ble_eq_true rfl) (Nat.zero_le _) (Nat.zero_le _) dX2_fits_24 ?_
      refine g_callS (As := [.int (bI (fitB (S (3 + m)) N))]) (rest := []) (c_X2_oneIf l hI (B := fitB (S (3 + m)) N)) (va_cwS 1 hts gX2_fits_X2_oneIf rfl rfl rfl (by decide +kernel) ⟨Nat.le_of_ble_eq_true rfl, Nat.le_of_ble_eq_true rfl⟩) hx hb hml hown hts hK hP  rfl hl.1 rfl (Nat.le_of_ble_eq_true rfl) (Nat.zero_le _) (Nat.zero_le _) dX2_fits_27 ?_
      exact g_iret hx hb hrt hlocks dX2_fits_30 (by unfold sC_fits; dsimp only [cN, cC, cM_]; rw [rg_y (by omega) (by omega) (by omega), rg_y (by omega) (by omega) (by omega)])
    · refine lv_bipush (v := (-2)) hx hb dX2_fits_19 (by decide) ?_
      exact g_iret hx hb hrt hlocks dX2_fits_21 (by unfold sC_fits; dsimp only [cN, cC, cM_]; rw [rg_y (by omega) (by omega) (by omega), rg_n h_16])
set_option maxHeartbeats 4000000 in
set_option maxRecDepth 100000 in
theorem c_X2_on (l : Launch) {D : va_G} {tys : List (ClassId × FieldType)} {ad : Nat → Nat} {cI cW cM : ClassId} {tI tW tM : Nat} {S : Nat → Nat → Nat} (hI : tys[tI]? = some (cI, .int)) (hWt : tys[tW]? = some (cW, .object "CubeWorlds$World")) (hMt : tys[tM]? = some (cM, .array .int)) (hWF : WF S) {a x y : Int32} : Met l yX2_on wsX2_on ({ frames := 4, cells := 0, slots := 0, locals := 85 } : Room) (va_Pc [.ref (ad (0)), .int (a), .int (x), .int (y)] (PB D tys 33 ad (gE cI cW cM ad S))) (k2_QcV (.int (sC_on (cN S) (cC S) a x y))) 0 0 (fun _ => False) := by
  refine g_pure (cc := cX2_on) (maxL := 5) (ret := (some .int)) (by decide) rfl (Nat.le_of_ble_eq_true rfl) ?_
  intro p e s m args below meth c hx hb hrt hts hown hlocks hml hP hK ls hl
  show W p l e ({ frames := 4, cells := 0, slots := 0, locals := 85 } : Room) s m args below meth c s.heap [] 0 0 _ _
  have hl : lv_has ls 5 [(0, .ref (ad (0))), (1, .int (a)), (2, .int (x)), (3, .int (y))] := hl
  refine lv_aload_n hx hb dX2_on_0 rfl (lv_at hl 0 rfl) ?_
  refine lv_iload_n hx hb dX2_on_1 rfl (lv_at hl 1 rfl) ?_
  cases hs_2 : rB 0 3 a with
  | false =>
    refine g_callV (0) (C := RX2) (T := TX2) (N := 7) (ci := 1) (As := [.int (a)]) (rest := []) (c_X2_worldIn_n l hI hWt hMt hWF hs_2) (cwV 1 hts gX2_on_X2_worldIn rfl rfl rfl (by decide +kernel) ⟨Nat.le_of_ble_eq_true rfl, Nat.le_of_ble_eq_true rfl⟩) hx hb hml hown hts hK hP  (by decide) rfl rfl rfl hl.1 rfl (Nat.le_of_ble_eq_true rfl) (Nat.zero_le _) (Nat.zero_le _) dX2_on_2 ?_
    refine lv_astoreN (lv' := [(4, .null), (0, .ref (ad (0))), (1, .int (a)), (2, .int (x)), (3, .int (y))]) hx hb dX2_on_5 hl (by decide) rfl (fun ls hl => ?_)
    refine lv_aloadN hx hb dX2_on_7 (lv_at hl 0 rfl) ?_
    refine lv_ifnullN (tgt := 30) hx hb dX2_on_9 (by decide) ?_
    refine lv_iconst (v := (-1)) hx hb dX2_on_30 (by decide) ?_
    exact g_iret hx hb hrt hlocks dX2_on_31 (by unfold sC_on; dsimp only [cN, cC, cM_]; rw [rg_n hs_2])
  | true =>
    obtain ⟨k, hk1, hk2, e9⟩ := rB_some (by omega) (by omega) hs_2
    subst e9
    have hk9 : k < 4 := by omega
    have qk1 := (hWF.2.1 k hk9).1
    have qk2 := pow4 qk1.2.1
    have qk3 : 0 < 2 ^ S (13 + 3 * k) 0 := Nat.pow_pos (by decide)
    have qk4 := sq4 qk2
    refine g_callV (0) (C := RX2) (T := TX2) (N := 7) (ci := 1) (As := [.int (nI (k))]) (rest := []) (c_X2_worldIn_y l hI hWt hMt hWF (k := k) (by omega)) (cwV 1 hts gX2_on_X2_worldIn rfl rfl rfl (by decide +kernel) ⟨Nat.le_of_ble_eq_true rfl, Nat.le_of_ble_eq_true rfl⟩) hx hb hml hown hts hK hP  (by decide) rfl rfl rfl hl.1 rfl (Nat.le_of_ble_eq_true rfl) (Nat.zero_le _) (Nat.zero_le _) dX2_on_2 ?_
    refine lv_astore (lv' := [(4, .ref (ad (13 + 3 * k))), (0, .ref (ad (0))), (1, .int (nI (k))), (2, .int (x)), (3, .int (y))]) hx hb dX2_on_5 hl (by decide) rfl (fun ls hl => ?_)
    refine lv_aload hx hb dX2_on_7 (lv_at hl 0 rfl) ?_
    refine lv_ifnull hx hb dX2_on_9 ?_
    refine lv_aload hx hb dX2_on_12 (lv_at hl 0 rfl) ?_
    refine lv_iload_n hx hb dX2_on_14 rfl (lv_at hl 3 rfl) ?_
    refine g_callS (As := [.ref (ad (13 + 3 * k)), .int (x)]) (rest := []) (c_X0_has l hI (by omega) (gE_W hk9 (hWF.2.1 k hk9)) (x := x) (hWF.2.1 k hk9).1.2.1) (va_cwS 2 hts gX2_on_X0_has rfl rfl rfl (by decide +kernel) ⟨Nat.le_of_ble_eq_true rfl, Nat.le_of_ble_eq_true rfl⟩) hx hb hml hown hts hK hP  rfl hl.1 rfl (Nat.le_of_ble_eq_true rfl) (Nat.zero_le _) (Nat.zero_le _) dX2_on_15 ?_
    refine n_ifeq_b (tgt := 30) hx hb dX2_on_18 (by decide) (fun h_18 => ?_) (fun h_18 => ?_)
    · refine lv_iconst (v := (-1)) hx hb dX2_on_30 (by decide) ?_
      exact g_iret hx hb hrt hlocks dX2_on_31 (by unfold sC_on; dsimp only [cN, cC, cM_]; rw [rg_y (by omega) (by omega) (by omega), rg_n h_18])
    · obtain ⟨X, hX1, hX2, e9⟩ := rB_some (by omega) (by omega) h_18
      subst e9
      refine lv_aload hx hb dX2_on_21 (lv_at hl 0 rfl) ?_
      refine lv_iload_n hx hb dX2_on_23 rfl (lv_at hl 4 rfl) ?_
      refine g_callS (As := [.ref (ad (13 + 3 * k)), .int (y)]) (rest := []) (c_X0_has l hI (by omega) (gE_W hk9 (hWF.2.1 k hk9)) (x := y) (hWF.2.1 k hk9).1.2.1) (va_cwS 2 hts gX2_on_X0_has rfl rfl rfl (by decide +kernel) ⟨Nat.le_of_ble_eq_true rfl, Nat.le_of_ble_eq_true rfl⟩) hx hb hml hown hts hK hP  rfl hl.1 rfl (Nat.le_of_ble_eq_true rfl) (Nat.zero_le _) (Nat.zero_le _) dX2_on_24 ?_
      refine n_ifne_b (tgt := 32) hx hb dX2_on_27 (by decide) (fun h_27 => ?_) (fun h_27 => ?_)
      · obtain ⟨Y, hY1, hY2, e9⟩ := rB_some (by omega) (by omega) h_27
        subst e9
        refine lv_aload hx hb dX2_on_32 (lv_at hl 0 rfl) ?_
        refine lv_iload_n hx hb dX2_on_34 rfl (lv_at hl 3 rfl) ?_
        refine lv_iload_n hx hb dX2_on_35 rfl (lv_at hl 4 rfl) ?_
        refine g_callS (As := [.ref (ad (13 + 3 * k)), .int (nI (X)), .int (nI (Y))]) (rest := []) (c_X0_lies l hI (by omega) (gE_W hk9 (hWF.2.1 k hk9)) (A0 := X) (B0 := Y) (hWF.2.1 k hk9).2.2 (hWF.2.1 k hk9).1.2.1 (hWF.2.1 k hk9).2.1 (by omega) (by omega)) (va_cwS 3 hts gX2_on_X0_lies rfl rfl rfl (by decide +kernel) ⟨Nat.le_of_ble_eq_true rfl, Nat.le_of_ble_eq_true rfl⟩) hx hb hml hown hts hK hP  rfl hl.1 rfl (Nat.le_of_ble_eq_true rfl) (Nat.zero_le _) (Nat.zero_le _) dX2_on_36 ?_
        refine g_callS (As := [.int (bI (lsB (S (13 + 3 * k) 0) (S (13 + 3 * k + 1)) X Y))]) (rest := []) (c_X2_oneIf l hI (B := lsB (S (13 + 3 * k) 0) (S (13 + 3 * k + 1)) X Y)) (va_cwS 1 hts gX2_on_X2_oneIf rfl rfl rfl (by decide +kernel) ⟨Nat.le_of_ble_eq_true rfl, Nat.le_of_ble_eq_true rfl⟩) hx hb hml hown hts hK hP  rfl hl.1 rfl (Nat.le_of_ble_eq_true rfl) (Nat.zero_le _) (Nat.zero_le _) dX2_on_39 ?_
        exact g_iret hx hb hrt hlocks dX2_on_42 (by unfold sC_on; dsimp only [cN, cC, cM_]; rw [rg_y (by omega) (by omega) (by omega), rg_y (by omega) (by omega) (by omega), rg_y (by omega) (by omega) (by omega)])
      · refine lv_iconst (v := (-1)) hx hb dX2_on_30 (by decide) ?_
        exact g_iret hx hb hrt hlocks dX2_on_31 (by unfold sC_on; dsimp only [cN, cC, cM_]; rw [rg_y (by omega) (by omega) (by omega), rg_y (by omega) (by omega) (by omega), rg_n h_27])
set_option maxHeartbeats 4000000 in
set_option maxRecDepth 100000 in
theorem c_X2_join (l : Launch) {D : va_G} {tys : List (ClassId × FieldType)} {ad : Nat → Nat} {cI cW cM : ClassId} {tI tW tM : Nat} {S : Nat → Nat → Nat} (hI : tys[tI]? = some (cI, .int)) (hWt : tys[tW]? = some (cW, .object "CubeWorlds$World")) (hMt : tys[tM]? = some (cM, .array .int)) (hWF : WF S) {a x y : Int32} : Met l yX2_join wsX2_join ({ frames := 4, cells := 0, slots := 0, locals := 96 } : Room) (va_Pc [.ref (ad (0)), .int (a), .int (x), .int (y)] (PB D tys 33 ad (gE cI cW cM ad S))) (k2_QcV (.int (sC_join (cN S) (cC S) a x y))) 0 0 (fun _ => False) := by
  refine g_pure (cc := cX2_join) (maxL := 5) (ret := (some .int)) (by decide) rfl (Nat.le_of_ble_eq_true rfl) ?_
  intro p e s m args below meth c hx hb hrt hts hown hlocks hml hP hK ls hl
  show W p l e ({ frames := 4, cells := 0, slots := 0, locals := 96 } : Room) s m args below meth c s.heap [] 0 0 _ _
  have hl : lv_has ls 5 [(0, .ref (ad (0))), (1, .int (a)), (2, .int (x)), (3, .int (y))] := hl
  refine lv_aload_n hx hb dX2_join_0 rfl (lv_at hl 0 rfl) ?_
  refine lv_iload_n hx hb dX2_join_1 rfl (lv_at hl 1 rfl) ?_
  cases hs_2 : rB 0 3 a with
  | false =>
    refine g_callV (0) (C := RX2) (T := TX2) (N := 7) (ci := 1) (As := [.int (a)]) (rest := []) (c_X2_worldIn_n l hI hWt hMt hWF hs_2) (cwV 1 hts gX2_join_X2_worldIn rfl rfl rfl (by decide +kernel) ⟨Nat.le_of_ble_eq_true rfl, Nat.le_of_ble_eq_true rfl⟩) hx hb hml hown hts hK hP  (by decide) rfl rfl rfl hl.1 rfl (Nat.le_of_ble_eq_true rfl) (Nat.zero_le _) (Nat.zero_le _) dX2_join_2 ?_
    refine lv_astoreN (lv' := [(4, .null), (0, .ref (ad (0))), (1, .int (a)), (2, .int (x)), (3, .int (y))]) hx hb dX2_join_5 hl (by decide) rfl (fun ls hl => ?_)
    refine lv_aloadN hx hb dX2_join_7 (lv_at hl 0 rfl) ?_
    refine lv_ifnullN (tgt := 30) hx hb dX2_join_9 (by decide) ?_
    refine lv_iconst (v := (-1)) hx hb dX2_join_30 (by decide) ?_
    exact g_iret hx hb hrt hlocks dX2_join_31 (by unfold sC_join; dsimp only [cN, cC, cM_]; rw [rg_n hs_2])
  | true =>
    obtain ⟨k, hk1, hk2, e9⟩ := rB_some (by omega) (by omega) hs_2
    subst e9
    have hk9 : k < 4 := by omega
    have qk1 := (hWF.2.1 k hk9).1
    have qk2 := pow4 qk1.2.1
    have qk3 : 0 < 2 ^ S (13 + 3 * k) 0 := Nat.pow_pos (by decide)
    have qk4 := sq4 qk2
    refine g_callV (0) (C := RX2) (T := TX2) (N := 7) (ci := 1) (As := [.int (nI (k))]) (rest := []) (c_X2_worldIn_y l hI hWt hMt hWF (k := k) (by omega)) (cwV 1 hts gX2_join_X2_worldIn rfl rfl rfl (by decide +kernel) ⟨Nat.le_of_ble_eq_true rfl, Nat.le_of_ble_eq_true rfl⟩) hx hb hml hown hts hK hP  (by decide) rfl rfl rfl hl.1 rfl (Nat.le_of_ble_eq_true rfl) (Nat.zero_le _) (Nat.zero_le _) dX2_join_2 ?_
    refine lv_astore (lv' := [(4, .ref (ad (13 + 3 * k))), (0, .ref (ad (0))), (1, .int (nI (k))), (2, .int (x)), (3, .int (y))]) hx hb dX2_join_5 hl (by decide) rfl (fun ls hl => ?_)
    refine lv_aload hx hb dX2_join_7 (lv_at hl 0 rfl) ?_
    refine lv_ifnull hx hb dX2_join_9 ?_
    refine lv_aload hx hb dX2_join_12 (lv_at hl 0 rfl) ?_
    refine lv_iload_n hx hb dX2_join_14 rfl (lv_at hl 3 rfl) ?_
    refine g_callS (As := [.ref (ad (13 + 3 * k)), .int (x)]) (rest := []) (c_X0_has l hI (by omega) (gE_W hk9 (hWF.2.1 k hk9)) (x := x) (hWF.2.1 k hk9).1.2.1) (va_cwS 2 hts gX2_join_X0_has rfl rfl rfl (by decide +kernel) ⟨Nat.le_of_ble_eq_true rfl, Nat.le_of_ble_eq_true rfl⟩) hx hb hml hown hts hK hP  rfl hl.1 rfl (Nat.le_of_ble_eq_true rfl) (Nat.zero_le _) (Nat.zero_le _) dX2_join_15 ?_
    refine n_ifeq_b (tgt := 30) hx hb dX2_join_18 (by decide) (fun h_18 => ?_) (fun h_18 => ?_)
    · refine lv_iconst (v := (-1)) hx hb dX2_join_30 (by decide) ?_
      exact g_iret hx hb hrt hlocks dX2_join_31 (by unfold sC_join; dsimp only [cN, cC, cM_]; rw [rg_y (by omega) (by omega) (by omega), rg_n h_18])
    · obtain ⟨X, hX1, hX2, e9⟩ := rB_some (by omega) (by omega) h_18
      subst e9
      refine lv_aload hx hb dX2_join_21 (lv_at hl 0 rfl) ?_
      refine lv_iload_n hx hb dX2_join_23 rfl (lv_at hl 4 rfl) ?_
      refine g_callS (As := [.ref (ad (13 + 3 * k)), .int (y)]) (rest := []) (c_X0_has l hI (by omega) (gE_W hk9 (hWF.2.1 k hk9)) (x := y) (hWF.2.1 k hk9).1.2.1) (va_cwS 2 hts gX2_join_X0_has rfl rfl rfl (by decide +kernel) ⟨Nat.le_of_ble_eq_true rfl, Nat.le_of_ble_eq_true rfl⟩) hx hb hml hown hts hK hP  rfl hl.1 rfl (Nat.le_of_ble_eq_true rfl) (Nat.zero_le _) (Nat.zero_le _) dX2_join_24 ?_
      refine n_ifne_b (tgt := 32) hx hb dX2_join_27 (by decide) (fun h_27 => ?_) (fun h_27 => ?_)
      · obtain ⟨Y, hY1, hY2, e9⟩ := rB_some (by omega) (by omega) h_27
        subst e9
        refine lv_iload_n hx hb dX2_join_32 rfl (lv_at hl 3 rfl) ?_
        refine lv_iload_n hx hb dX2_join_33 rfl (lv_at hl 4 rfl) ?_
        refine n_cne (tgt := 40) hx hb dX2_join_34 (by decide) (by omega) (by omega) (fun h_34 => ?_) (fun h_34 => ?_)
        · refine lv_aload hx hb dX2_join_40 (lv_at hl 0 rfl) ?_
          refine lv_iload_n hx hb dX2_join_42 rfl (lv_at hl 3 rfl) ?_
          refine lv_iload_n hx hb dX2_join_43 rfl (lv_at hl 4 rfl) ?_
          refine va_mmin hx hb (by rw [hml]; exact hl.1.symm) hown (hts _ (by decide +kernel)) (hts _ (by decide +kernel)) (hts _ (by decide +kernel)) (hts _ (by decide +kernel)) (Nat.le_of_ble_eq_true rfl) (Nat.le_of_ble_eq_true rfl) (Nat.zero_le _) (Nat.zero_le _) dX2_join_44 ?_
          refine n_eq (show _ = nI (min X Y) from k_min (by omega) (by omega)) ?_
          refine lv_iload_n hx hb dX2_join_47 rfl (lv_at hl 3 rfl) ?_
          refine lv_iload_n hx hb dX2_join_48 rfl (lv_at hl 4 rfl) ?_
          refine va_mmax hx hb (by rw [hml]; exact hl.1.symm) hown (hts _ (by decide +kernel)) (hts _ (by decide +kernel)) (hts _ (by decide +kernel)) (hts _ (by decide +kernel)) (Nat.le_of_ble_eq_true rfl) (Nat.le_of_ble_eq_true rfl) (Nat.zero_le _) (Nat.zero_le _) dX2_join_49 ?_
          refine n_eq (show _ = nI (max X Y) from k_max (by omega) (by omega)) ?_
          refine g_callS (As := [.ref (ad (13 + 3 * k)), .int (nI (min X Y)), .int (nI (max X Y))]) (rest := []) (c_X0_lineThrough l hI (by omega) (gE_W hk9 (hWF.2.1 k hk9)) (A0 := min X Y) (B0 := max X Y) (hWF.2.1 k hk9).2.2 (hWF.2.1 k hk9).1.2.1 (hWF.2.1 k hk9).2.1 (by omega) (by omega)) (va_cwS 3 hts gX2_join_X0_lineThrough rfl rfl rfl (by decide +kernel) ⟨Nat.le_of_ble_eq_true rfl, Nat.le_of_ble_eq_true rfl⟩) hx hb hml hown hts hK hP  rfl hl.1 rfl (Nat.le_of_ble_eq_true rfl) (Nat.zero_le _) (Nat.zero_le _) dX2_join_52 ?_
          exact g_iret hx hb hrt hlocks dX2_join_55 (by unfold sC_join; dsimp only [cN, cC, cM_]; rw [rg_y (by omega) (by omega) (by omega), rg_y (by omega) (by omega) (by omega), rg_y (by omega) (by omega) (by omega), if_neg h_34])
        · refine lv_bipush (v := (-3)) hx hb dX2_join_37 (by decide) ?_
          exact g_iret hx hb hrt hlocks dX2_join_39 (by unfold sC_join; dsimp only [cN, cC, cM_]; rw [rg_y (by omega) (by omega) (by omega), rg_y (by omega) (by omega) (by omega), rg_y (by omega) (by omega) (by omega), if_pos h_34])
      · refine lv_iconst (v := (-1)) hx hb dX2_join_30 (by decide) ?_
        exact g_iret hx hb hrt hlocks dX2_join_31 (by unfold sC_join; dsimp only [cN, cC, cM_]; rw [rg_y (by omega) (by omega) (by omega), rg_y (by omega) (by omega) (by omega), rg_n h_27])
set_option maxHeartbeats 4000000 in
set_option maxRecDepth 100000 in
theorem c_X2_meet (l : Launch) {D : va_G} {tys : List (ClassId × FieldType)} {ad : Nat → Nat} {cI cW cM : ClassId} {tI tW tM : Nat} {S : Nat → Nat → Nat} (hI : tys[tI]? = some (cI, .int)) (hWt : tys[tW]? = some (cW, .object "CubeWorlds$World")) (hMt : tys[tM]? = some (cM, .array .int)) (hWF : WF S) {a x y : Int32} : Met l yX2_meet wsX2_meet ({ frames := 4, cells := 0, slots := 0, locals := 96 } : Room) (va_Pc [.ref (ad (0)), .int (a), .int (x), .int (y)] (PB D tys 33 ad (gE cI cW cM ad S))) (k2_QcV (.int (sC_meet (cN S) (cC S) a x y))) 0 0 (fun _ => False) := by
  refine g_pure (cc := cX2_meet) (maxL := 5) (ret := (some .int)) (by decide) rfl (Nat.le_of_ble_eq_true rfl) ?_
  intro p e s m args below meth c hx hb hrt hts hown hlocks hml hP hK ls hl
  show W p l e ({ frames := 4, cells := 0, slots := 0, locals := 96 } : Room) s m args below meth c s.heap [] 0 0 _ _
  have hl : lv_has ls 5 [(0, .ref (ad (0))), (1, .int (a)), (2, .int (x)), (3, .int (y))] := hl
  refine lv_aload_n hx hb dX2_meet_0 rfl (lv_at hl 0 rfl) ?_
  refine lv_iload_n hx hb dX2_meet_1 rfl (lv_at hl 1 rfl) ?_
  cases hs_2 : rB 0 3 a with
  | false =>
    refine g_callV (0) (C := RX2) (T := TX2) (N := 7) (ci := 1) (As := [.int (a)]) (rest := []) (c_X2_worldIn_n l hI hWt hMt hWF hs_2) (cwV 1 hts gX2_meet_X2_worldIn rfl rfl rfl (by decide +kernel) ⟨Nat.le_of_ble_eq_true rfl, Nat.le_of_ble_eq_true rfl⟩) hx hb hml hown hts hK hP  (by decide) rfl rfl rfl hl.1 rfl (Nat.le_of_ble_eq_true rfl) (Nat.zero_le _) (Nat.zero_le _) dX2_meet_2 ?_
    refine lv_astoreN (lv' := [(4, .null), (0, .ref (ad (0))), (1, .int (a)), (2, .int (x)), (3, .int (y))]) hx hb dX2_meet_5 hl (by decide) rfl (fun ls hl => ?_)
    refine lv_aloadN hx hb dX2_meet_7 (lv_at hl 0 rfl) ?_
    refine lv_ifnullN (tgt := 30) hx hb dX2_meet_9 (by decide) ?_
    refine lv_iconst (v := (-1)) hx hb dX2_meet_30 (by decide) ?_
    exact g_iret hx hb hrt hlocks dX2_meet_31 (by unfold sC_meet; dsimp only [cN, cC, cM_]; rw [rg_n hs_2])
  | true =>
    obtain ⟨k, hk1, hk2, e9⟩ := rB_some (by omega) (by omega) hs_2
    subst e9
    have hk9 : k < 4 := by omega
    have qk1 := (hWF.2.1 k hk9).1
    have qk2 := pow4 qk1.2.1
    have qk3 : 0 < 2 ^ S (13 + 3 * k) 0 := Nat.pow_pos (by decide)
    have qk4 := sq4 qk2
    refine g_callV (0) (C := RX2) (T := TX2) (N := 7) (ci := 1) (As := [.int (nI (k))]) (rest := []) (c_X2_worldIn_y l hI hWt hMt hWF (k := k) (by omega)) (cwV 1 hts gX2_meet_X2_worldIn rfl rfl rfl (by decide +kernel) ⟨Nat.le_of_ble_eq_true rfl, Nat.le_of_ble_eq_true rfl⟩) hx hb hml hown hts hK hP  (by decide) rfl rfl rfl hl.1 rfl (Nat.le_of_ble_eq_true rfl) (Nat.zero_le _) (Nat.zero_le _) dX2_meet_2 ?_
    refine lv_astore (lv' := [(4, .ref (ad (13 + 3 * k))), (0, .ref (ad (0))), (1, .int (nI (k))), (2, .int (x)), (3, .int (y))]) hx hb dX2_meet_5 hl (by decide) rfl (fun ls hl => ?_)
    refine lv_aload hx hb dX2_meet_7 (lv_at hl 0 rfl) ?_
    refine lv_ifnull hx hb dX2_meet_9 ?_
    refine lv_aload hx hb dX2_meet_12 (lv_at hl 0 rfl) ?_
    refine lv_iload_n hx hb dX2_meet_14 rfl (lv_at hl 3 rfl) ?_
    refine g_callS (As := [.ref (ad (13 + 3 * k)), .int (x)]) (rest := []) (c_X0_has l hI (by omega) (gE_W hk9 (hWF.2.1 k hk9)) (x := x) (hWF.2.1 k hk9).1.2.1) (va_cwS 2 hts gX2_meet_X0_has rfl rfl rfl (by decide +kernel) ⟨Nat.le_of_ble_eq_true rfl, Nat.le_of_ble_eq_true rfl⟩) hx hb hml hown hts hK hP  rfl hl.1 rfl (Nat.le_of_ble_eq_true rfl) (Nat.zero_le _) (Nat.zero_le _) dX2_meet_15 ?_
    refine n_ifeq_b (tgt := 30) hx hb dX2_meet_18 (by decide) (fun h_18 => ?_) (fun h_18 => ?_)
    · refine lv_iconst (v := (-1)) hx hb dX2_meet_30 (by decide) ?_
      exact g_iret hx hb hrt hlocks dX2_meet_31 (by unfold sC_meet; dsimp only [cN, cC, cM_]; rw [rg_y (by omega) (by omega) (by omega), rg_n h_18])
    · obtain ⟨X, hX1, hX2, e9⟩ := rB_some (by omega) (by omega) h_18
      subst e9
      refine lv_aload hx hb dX2_meet_21 (lv_at hl 0 rfl) ?_
      refine lv_iload_n hx hb dX2_meet_23 rfl (lv_at hl 4 rfl) ?_
      refine g_callS (As := [.ref (ad (13 + 3 * k)), .int (y)]) (rest := []) (c_X0_has l hI (by omega) (gE_W hk9 (hWF.2.1 k hk9)) (x := y) (hWF.2.1 k hk9).1.2.1) (va_cwS 2 hts gX2_meet_X0_has rfl rfl rfl (by decide +kernel) ⟨Nat.le_of_ble_eq_true rfl, Nat.le_of_ble_eq_true rfl⟩) hx hb hml hown hts hK hP  rfl hl.1 rfl (Nat.le_of_ble_eq_true rfl) (Nat.zero_le _) (Nat.zero_le _) dX2_meet_24 ?_
      refine n_ifne_b (tgt := 32) hx hb dX2_meet_27 (by decide) (fun h_27 => ?_) (fun h_27 => ?_)
      · obtain ⟨Y, hY1, hY2, e9⟩ := rB_some (by omega) (by omega) h_27
        subst e9
        refine lv_iload_n hx hb dX2_meet_32 rfl (lv_at hl 3 rfl) ?_
        refine lv_iload_n hx hb dX2_meet_33 rfl (lv_at hl 4 rfl) ?_
        refine n_cne (tgt := 40) hx hb dX2_meet_34 (by decide) (by omega) (by omega) (fun h_34 => ?_) (fun h_34 => ?_)
        · refine lv_aload hx hb dX2_meet_40 (lv_at hl 0 rfl) ?_
          refine lv_iload_n hx hb dX2_meet_42 rfl (lv_at hl 3 rfl) ?_
          refine lv_iload_n hx hb dX2_meet_43 rfl (lv_at hl 4 rfl) ?_
          refine va_mmin hx hb (by rw [hml]; exact hl.1.symm) hown (hts _ (by decide +kernel)) (hts _ (by decide +kernel)) (hts _ (by decide +kernel)) (hts _ (by decide +kernel)) (Nat.le_of_ble_eq_true rfl) (Nat.le_of_ble_eq_true rfl) (Nat.zero_le _) (Nat.zero_le _) dX2_meet_44 ?_
          refine n_eq (show _ = nI (min X Y) from k_min (by omega) (by omega)) ?_
          refine lv_iload_n hx hb dX2_meet_47 rfl (lv_at hl 3 rfl) ?_
          refine lv_iload_n hx hb dX2_meet_48 rfl (lv_at hl 4 rfl) ?_
          refine va_mmax hx hb (by rw [hml]; exact hl.1.symm) hown (hts _ (by decide +kernel)) (hts _ (by decide +kernel)) (hts _ (by decide +kernel)) (hts _ (by decide +kernel)) (Nat.le_of_ble_eq_true rfl) (Nat.le_of_ble_eq_true rfl) (Nat.zero_le _) (Nat.zero_le _) dX2_meet_49 ?_
          refine n_eq (show _ = nI (max X Y) from k_max (by omega) (by omega)) ?_
          refine g_callS (As := [.ref (ad (13 + 3 * k)), .int (nI (min X Y)), .int (nI (max X Y))]) (rest := []) (c_X0_pointOfBoth l hI (by omega) (gE_W hk9 (hWF.2.1 k hk9)) (A0 := min X Y) (B0 := max X Y) (hWF.2.1 k hk9).2.2 (hWF.2.1 k hk9).1.2.1 (hWF.2.1 k hk9).2.1 (by omega) (by omega)) (va_cwS 3 hts gX2_meet_X0_pointOfBoth rfl rfl rfl (by decide +kernel) ⟨Nat.le_of_ble_eq_true rfl, Nat.le_of_ble_eq_true rfl⟩) hx hb hml hown hts hK hP  rfl hl.1 rfl (Nat.le_of_ble_eq_true rfl) (Nat.zero_le _) (Nat.zero_le _) dX2_meet_52 ?_
          exact g_iret hx hb hrt hlocks dX2_meet_55 (by unfold sC_meet; dsimp only [cN, cC, cM_]; rw [rg_y (by omega) (by omega) (by omega), rg_y (by omega) (by omega) (by omega), rg_y (by omega) (by omega) (by omega), if_neg h_34])
        · refine lv_bipush (v := (-3)) hx hb dX2_meet_37 (by decide) ?_
          exact g_iret hx hb hrt hlocks dX2_meet_39 (by unfold sC_meet; dsimp only [cN, cC, cM_]; rw [rg_y (by omega) (by omega) (by omega), rg_y (by omega) (by omega) (by omega), rg_y (by omega) (by omega) (by omega), if_pos h_34])
      · refine lv_iconst (v := (-1)) hx hb dX2_meet_30 (by decide) ?_
        exact g_iret hx hb hrt hlocks dX2_meet_31 (by unfold sC_meet; dsimp only [cN, cC, cM_]; rw [rg_y (by omega) (by omega) (by omega), rg_y (by omega) (by omega) (by omega), rg_n h_27])
set_option maxHeartbeats 4000000 in
set_option maxRecDepth 100000 in
theorem c_X2_bad (l : Launch) {D : va_G} {tys : List (ClassId × FieldType)} {ad : Nat → Nat} {cI cW cM : ClassId} {tI tW tM : Nat} {S : Nat → Nat → Nat} (hI : tys[tI]? = some (cI, .int)) (hWt : tys[tW]? = some (cW, .object "CubeWorlds$World")) (hMt : tys[tM]? = some (cM, .array .int)) (hWF : WF S) {a : Int32} : Met l yX2_bad wsX2_bad ({ frames := 4, cells := 0, slots := 0, locals := 87 } : Room) (va_Pc [.ref (ad (0)), .int (a)] (PB D tys 33 ad (gE cI cW cM ad S))) (k2_QcV (.int (sC_bad (cN S) (cC S) a))) 0 0 (fun _ => False) := by
  refine g_pure (cc := cX2_bad) (maxL := 3) (ret := (some .int)) (by decide) rfl (Nat.le_of_ble_eq_true rfl) ?_
  intro p e s m args below meth c hx hb hrt hts hown hlocks hml hP hK ls hl
  show W p l e ({ frames := 4, cells := 0, slots := 0, locals := 87 } : Room) s m args below meth c s.heap [] 0 0 _ _
  have hl : lv_has ls 3 [(0, .ref (ad (0))), (1, .int (a))] := hl
  refine lv_aload_n hx hb dX2_bad_0 rfl (lv_at hl 0 rfl) ?_
  refine lv_iload_n hx hb dX2_bad_1 rfl (lv_at hl 1 rfl) ?_
  cases hs_2 : rB 0 3 a with
  | false =>
    refine g_callV (0) (C := RX2) (T := TX2) (N := 7) (ci := 1) (As := [.int (a)]) (rest := []) (c_X2_worldIn_n l hI hWt hMt hWF hs_2) (cwV 1 hts gX2_bad_X2_worldIn rfl rfl rfl (by decide +kernel) ⟨Nat.le_of_ble_eq_true rfl, Nat.le_of_ble_eq_true rfl⟩) hx hb hml hown hts hK hP  (by decide) rfl rfl rfl hl.1 rfl (Nat.le_of_ble_eq_true rfl) (Nat.zero_le _) (Nat.zero_le _) dX2_bad_2 ?_
    refine lv_astore_nN (lv' := [(2, .null), (0, .ref (ad (0))), (1, .int (a))]) hx hb dX2_bad_5 rfl hl (by decide) rfl (fun ls hl => ?_)
    refine lv_aload_nN hx hb dX2_bad_6 rfl (lv_at hl 0 rfl) ?_
    refine lv_ifnonnullN hx hb dX2_bad_7 ?_
    refine lv_iconst (v := (-1)) hx hb dX2_bad_10 (by decide) ?_
    exact g_iret hx hb hrt hlocks dX2_bad_11 (by unfold sC_bad; dsimp only [cN, cC, cM_]; rw [rg_n hs_2])
  | true =>
    obtain ⟨k, hk1, hk2, e9⟩ := rB_some (by omega) (by omega) hs_2
    subst e9
    have hk9 : k < 4 := by omega
    have qk1 := (hWF.2.1 k hk9).1
    have qk2 := pow4 qk1.2.1
    have qk3 : 0 < 2 ^ S (13 + 3 * k) 0 := Nat.pow_pos (by decide)
    have qk4 := sq4 qk2
    refine g_callV (0) (C := RX2) (T := TX2) (N := 7) (ci := 1) (As := [.int (nI (k))]) (rest := []) (c_X2_worldIn_y l hI hWt hMt hWF (k := k) (by omega)) (cwV 1 hts gX2_bad_X2_worldIn rfl rfl rfl (by decide +kernel) ⟨Nat.le_of_ble_eq_true rfl, Nat.le_of_ble_eq_true rfl⟩) hx hb hml hown hts hK hP  (by decide) rfl rfl rfl hl.1 rfl (Nat.le_of_ble_eq_true rfl) (Nat.zero_le _) (Nat.zero_le _) dX2_bad_2 ?_
    refine lv_astore_n (lv' := [(2, .ref (ad (13 + 3 * k))), (0, .ref (ad (0))), (1, .int (nI (k)))]) hx hb dX2_bad_5 rfl hl (by decide) rfl (fun ls hl => ?_)
    refine lv_aload_n hx hb dX2_bad_6 rfl (lv_at hl 0 rfl) ?_
    refine lv_ifnonnull (tgt := 12) hx hb dX2_bad_7 (by decide) ?_
    refine lv_aload_n hx hb dX2_bad_12 rfl (lv_at hl 0 rfl) ?_
    refine g_callS (As := [.ref (ad (13 + 3 * k))]) (rest := []) (c_X0_countBadPairs l hI (by omega) (gE_W hk9 (hWF.2.1 k hk9)) (hWF.2.1 k hk9).2.2 (hWF.2.1 k hk9).1.2.1 (hWF.2.1 k hk9).2.1) (va_cwS 1 hts gX2_bad_X0_countBadPairs rfl rfl rfl (by decide +kernel) ⟨Nat.le_of_ble_eq_true rfl, Nat.le_of_ble_eq_true rfl⟩) hx hb hml hown hts hK hP  rfl hl.1 rfl (Nat.le_of_ble_eq_true rfl) (Nat.zero_le _) (Nat.zero_le _) dX2_bad_13 ?_
    exact g_iret hx hb hrt hlocks dX2_bad_16 (by unfold sC_bad; dsimp only [cN, cC, cM_]; rw [rg_y (by omega) (by omega) (by omega)])
set_option maxHeartbeats 4000000 in
set_option maxRecDepth 100000 in
theorem c_X2_rank (l : Launch) {D : va_G} {tys : List (ClassId × FieldType)} {ad : Nat → Nat} {cI cW cM : ClassId} {tI tW tM : Nat} {S : Nat → Nat → Nat} (hI : tys[tI]? = some (cI, .int)) (hWt : tys[tW]? = some (cW, .object "CubeWorlds$World")) (hMt : tys[tM]? = some (cM, .array .int)) (hWF : WF S) {a y : Int32} : Met l yX2_rank wsX2_rank ({ frames := 3, cells := 0, slots := 0, locals := 67 } : Room) (va_Pc [.ref (ad (0)), .int (a), .int (y)] (PB D tys 33 ad (gE cI cW cM ad S))) (k2_QcV (.int (sC_rank (cN S) (cC S) a y))) 0 0 (fun _ => False) := by
  refine g_pure (cc := cX2_rank) (maxL := 4) (ret := (some .int)) (by decide) rfl (Nat.le_of_ble_eq_true rfl) ?_
  intro p e s m args below meth c hx hb hrt hts hown hlocks hml hP hK ls hl
  show W p l e ({ frames := 3, cells := 0, slots := 0, locals := 67 } : Room) s m args below meth c s.heap [] 0 0 _ _
  have hl : lv_has ls 4 [(0, .ref (ad (0))), (1, .int (a)), (2, .int (y))] := hl
  refine lv_aload_n hx hb dX2_rank_0 rfl (lv_at hl 0 rfl) ?_
  refine lv_iload_n hx hb dX2_rank_1 rfl (lv_at hl 1 rfl) ?_
  cases hs_2 : rB 0 3 a with
  | false =>
    refine g_callV (0) (C := RX2) (T := TX2) (N := 7) (ci := 1) (As := [.int (a)]) (rest := []) (c_X2_worldIn_n l hI hWt hMt hWF hs_2) (cwV 1 hts gX2_rank_X2_worldIn rfl rfl rfl (by decide +kernel) ⟨Nat.le_of_ble_eq_true rfl, Nat.le_of_ble_eq_true rfl⟩) hx hb hml hown hts hK hP  (by decide) rfl rfl rfl hl.1 rfl (Nat.le_of_ble_eq_true rfl) (Nat.zero_le _) (Nat.zero_le _) dX2_rank_2 ?_
    refine lv_astore_nN (lv' := [(3, .null), (0, .ref (ad (0))), (1, .int (a)), (2, .int (y))]) hx hb dX2_rank_5 rfl hl (by decide) rfl (fun ls hl => ?_)
    refine lv_aload_nN hx hb dX2_rank_6 rfl (lv_at hl 0 rfl) ?_
    refine lv_ifnullN (tgt := 18) hx hb dX2_rank_7 (by decide) ?_
    refine lv_iconst (v := (-1)) hx hb dX2_rank_18 (by decide) ?_
    exact g_iret hx hb hrt hlocks dX2_rank_19 (by unfold sC_rank; dsimp only [cN, cC, cM_]; rw [rg_n hs_2])
  | true =>
    obtain ⟨k, hk1, hk2, e9⟩ := rB_some (by omega) (by omega) hs_2
    subst e9
    have hk9 : k < 4 := by omega
    have qk1 := (hWF.2.1 k hk9).1
    have qk2 := pow4 qk1.2.1
    have qk3 : 0 < 2 ^ S (13 + 3 * k) 0 := Nat.pow_pos (by decide)
    have qk4 := sq4 qk2
    refine g_callV (0) (C := RX2) (T := TX2) (N := 7) (ci := 1) (As := [.int (nI (k))]) (rest := []) (c_X2_worldIn_y l hI hWt hMt hWF (k := k) (by omega)) (cwV 1 hts gX2_rank_X2_worldIn rfl rfl rfl (by decide +kernel) ⟨Nat.le_of_ble_eq_true rfl, Nat.le_of_ble_eq_true rfl⟩) hx hb hml hown hts hK hP  (by decide) rfl rfl rfl hl.1 rfl (Nat.le_of_ble_eq_true rfl) (Nat.zero_le _) (Nat.zero_le _) dX2_rank_2 ?_
    refine lv_astore_n (lv' := [(3, .ref (ad (13 + 3 * k))), (0, .ref (ad (0))), (1, .int (nI (k))), (2, .int (y))]) hx hb dX2_rank_5 rfl hl (by decide) rfl (fun ls hl => ?_)
    refine lv_aload_n hx hb dX2_rank_6 rfl (lv_at hl 0 rfl) ?_
    refine lv_ifnull hx hb dX2_rank_7 ?_
    refine lv_aload_n hx hb dX2_rank_10 rfl (lv_at hl 0 rfl) ?_
    refine lv_iload_n hx hb dX2_rank_11 rfl (lv_at hl 3 rfl) ?_
    refine g_callV (13 + 3 * k) (C := RX1) (T := TX1) (N := 4) (ci := 0) (As := [.int (y)]) (rest := []) (c_X1_has l hI (by omega) (gE_W hk9 (hWF.2.1 k hk9)) (x := y) (hWF.2.1 k hk9).1.2.1 (hWF.2.1 k hk9).1.1) (cwV 1 hts gX2_rank_X1_has rfl rfl rfl (by decide +kernel) ⟨Nat.le_of_ble_eq_true rfl, Nat.le_of_ble_eq_true rfl⟩) hx hb hml hown hts hK hP  (by omega) (gE_obj (isO_w hk9)) rfl rfl hl.1 rfl (Nat.le_of_ble_eq_true rfl) (Nat.zero_le _) (Nat.zero_le _) dX2_rank_12 ?_
    refine n_ifne_b (tgt := 20) hx hb dX2_rank_15 (by decide) (fun h_15 => ?_) (fun h_15 => ?_)
    · obtain ⟨Y, hY1, hY2, e9⟩ := rB_some (by omega) (by omega) h_15
      subst e9
      refine lv_aload_n hx hb dX2_rank_20 rfl (lv_at hl 0 rfl) ?_
      refine lv_iload_n hx hb dX2_rank_21 rfl (lv_at hl 3 rfl) ?_
      refine g_callV (13 + 3 * k) (C := RX1) (T := TX1) (N := 4) (ci := 0) (As := [.int (nI (Y))]) (rest := []) (c_X1_rankOf l hI (by omega) (gE_W hk9 (hWF.2.1 k hk9)) (Y := Y) (hWF.2.1 k hk9).2.2 (hWF.2.1 k hk9).1.2.1 (hWF.2.1 k hk9).1.1 (hWF.2.1 k hk9).2.1 (by omega)) (cwV 1 hts gX2_rank_X1_rankOf rfl rfl rfl (by decide +kernel) ⟨Nat.le_of_ble_eq_true rfl, Nat.le_of_ble_eq_true rfl⟩) hx hb hml hown hts hK hP  (by omega) (gE_obj (isO_w hk9)) rfl rfl hl.1 rfl (Nat.le_of_ble_eq_true rfl) (Nat.zero_le _) (Nat.zero_le _) dX2_rank_22 ?_
      exact g_iret hx hb hrt hlocks dX2_rank_25 (by unfold sC_rank; dsimp only [cN, cC, cM_]; rw [rg_y (by omega) (by omega) (by omega), rg_y (by omega) (by omega) (by omega)])
    · refine lv_iconst (v := (-1)) hx hb dX2_rank_18 (by decide) ?_
      exact g_iret hx hb hrt hlocks dX2_rank_19 (by unfold sC_rank; dsimp only [cN, cC, cM_]; rw [rg_y (by omega) (by omega) (by omega), rg_n h_15])
set_option maxHeartbeats 4000000 in
set_option maxRecDepth 100000 in
theorem c_X2_ranks (l : Launch) {D : va_G} {tys : List (ClassId × FieldType)} {ad : Nat → Nat} {cI cW cM : ClassId} {tI tW tM : Nat} {S : Nat → Nat → Nat} (hI : tys[tI]? = some (cI, .int)) (hWt : tys[tW]? = some (cW, .object "CubeWorlds$World")) (hMt : tys[tM]? = some (cM, .array .int)) (hWF : WF S) {a x : Int32} : Met l yX2_ranks wsX2_ranks ({ frames := 3, cells := 0, slots := 0, locals := 67 } : Room) (va_Pc [.ref (ad (0)), .int (a), .int (x)] (PB D tys 33 ad (gE cI cW cM ad S))) (k2_QcV (.int (sC_ranks (cN S) (cC S) a x))) 0 0 (fun _ => False) := by
  refine g_pure (cc := cX2_ranks) (maxL := 6) (ret := (some .int)) (by decide) rfl (Nat.le_of_ble_eq_true rfl) ?_
  intro p e s m args below meth c hx hb hrt hts hown hlocks hml hP hK ls hl
  show W p l e ({ frames := 3, cells := 0, slots := 0, locals := 67 } : Room) s m args below meth c s.heap [] 0 0 _ _
  have hl : lv_has ls 6 [(0, .ref (ad (0))), (1, .int (a)), (2, .int (x))] := hl
  refine lv_aload_n hx hb dX2_ranks_0 rfl (lv_at hl 0 rfl) ?_
  refine lv_iload_n hx hb dX2_ranks_1 rfl (lv_at hl 1 rfl) ?_
  cases hs_2 : rB 0 3 a with
  | false =>
    refine g_callV (0) (C := RX2) (T := TX2) (N := 7) (ci := 1) (As := [.int (a)]) (rest := []) (c_X2_worldIn_n l hI hWt hMt hWF hs_2) (cwV 1 hts gX2_ranks_X2_worldIn rfl rfl rfl (by decide +kernel) ⟨Nat.le_of_ble_eq_true rfl, Nat.le_of_ble_eq_true rfl⟩) hx hb hml hown hts hK hP  (by decide) rfl rfl rfl hl.1 rfl (Nat.le_of_ble_eq_true rfl) (Nat.zero_le _) (Nat.zero_le _) dX2_ranks_2 ?_
    refine lv_astore_nN (lv' := [(3, .null), (0, .ref (ad (0))), (1, .int (a)), (2, .int (x))]) hx hb dX2_ranks_5 rfl hl (by decide) rfl (fun ls hl => ?_)
    refine lv_aload_nN hx hb dX2_ranks_6 rfl (lv_at hl 0 rfl) ?_
    refine lv_ifnonnullN hx hb dX2_ranks_7 ?_
    refine lv_iconst (v := (-1)) hx hb dX2_ranks_10 (by decide) ?_
    exact g_iret hx hb hrt hlocks dX2_ranks_11 (by unfold sC_ranks; dsimp only [cN, cC, cM_]; rw [rg_n hs_2])
  | true =>
    obtain ⟨k, hk1, hk2, e9⟩ := rB_some (by omega) (by omega) hs_2
    subst e9
    have hk9 : k < 4 := by omega
    have qk1 := (hWF.2.1 k hk9).1
    have qk2 := pow4 qk1.2.1
    have qk3 : 0 < 2 ^ S (13 + 3 * k) 0 := Nat.pow_pos (by decide)
    have qk4 := sq4 qk2
    refine g_callV (0) (C := RX2) (T := TX2) (N := 7) (ci := 1) (As := [.int (nI (k))]) (rest := []) (c_X2_worldIn_y l hI hWt hMt hWF (k := k) (by omega)) (cwV 1 hts gX2_ranks_X2_worldIn rfl rfl rfl (by decide +kernel) ⟨Nat.le_of_ble_eq_true rfl, Nat.le_of_ble_eq_true rfl⟩) hx hb hml hown hts hK hP  (by decide) rfl rfl rfl hl.1 rfl (Nat.le_of_ble_eq_true rfl) (Nat.zero_le _) (Nat.zero_le _) dX2_ranks_2 ?_
    refine lv_astore_n (lv' := [(3, .ref (ad (13 + 3 * k))), (0, .ref (ad (0))), (1, .int (nI (k))), (2, .int (x))]) hx hb dX2_ranks_5 rfl hl (by decide) rfl (fun ls hl => ?_)
    refine lv_aload_n hx hb dX2_ranks_6 rfl (lv_at hl 0 rfl) ?_
    refine lv_ifnonnull (tgt := 12) hx hb dX2_ranks_7 (by decide) ?_
    cases hs_12 : rB 0 4 x with
    | false =>
      refine lv_iload_n hx hb dX2_ranks_12 rfl (lv_at hl 3 rfl) ?_
      refine lv_if_lt (tgt := 21) hx hb dX2_ranks_13 (by decide) (fun h_13 => ?_) (fun h_13 => ?_)
      · refine lv_bipush (v := (-2)) hx hb dX2_ranks_21 (by decide) ?_
        exact g_iret hx hb hrt hlocks dX2_ranks_23 (by unfold sC_ranks; dsimp only [cN, cC, cM_]; rw [rg_y (by omega) (by omega) (by omega), rg_n hs_12])
      · refine lv_iload_n hx hb dX2_ranks_16 rfl (lv_at hl 3 rfl) ?_
        refine n_iconst 4 hx hb dX2_ranks_17 ?_
        refine lv_icmp_le (tgt := 24) hx hb dX2_ranks_18 (by decide) (fun h_18 => ?_) (fun h_18 => ?_)
        · exact absurd (show rB 0 4 x = true from decide_eq_true ⟨k2_le h_13, h_18⟩) (by rw [hs_12]; decide)
        · refine lv_bipush (v := (-2)) hx hb dX2_ranks_21 (by decide) ?_
          exact g_iret hx hb hrt hlocks dX2_ranks_23 (by unfold sC_ranks; dsimp only [cN, cC, cM_]; rw [rg_y (by omega) (by omega) (by omega), rg_n hs_12])
    | true =>
      obtain ⟨X, hX1, hX2, e9⟩ := rB_some (by omega) (by omega) hs_12
      subst e9
      refine lv_iload_n hx hb dX2_ranks_12 rfl (lv_at hl 3 rfl) ?_
      refine n_z_lt (tgt := 21) hx hb dX2_ranks_13 (by decide) (by omega) ?_
      refine lv_iload_n hx hb dX2_ranks_16 rfl (lv_at hl 3 rfl) ?_
      refine n_iconst 4 hx hb dX2_ranks_17 ?_
      refine n_le (tgt := 24) hx hb dX2_ranks_18 (by decide) (by omega) (by omega) (fun h_18 => ?_) (fun h_18 => ?_)
      · refine n_iconst 0 hx hb dX2_ranks_24 ?_
        refine lv_istore (lv' := [(4, .int (nI (0))), (3, .ref (ad (13 + 3 * k))), (0, .ref (ad (0))), (1, .int (nI (k))), (2, .int (nI (X)))]) hx hb dX2_ranks_25 hl (by decide) rfl (fun ls hl => ?_)
        refine n_iconst 0 hx hb dX2_ranks_27 ?_
        refine lv_istore (lv' := [(5, .int (nI (0))), (4, .int (nI (0))), (3, .ref (ad (13 + 3 * k))), (0, .ref (ad (0))), (1, .int (nI (k))), (2, .int (nI (X)))]) hx hb dX2_ranks_28 hl (by decide) rfl (fun ls hl => ?_)
        have L_30 : ∀ (r : Nat) (acc : Nat) (y : Nat), (y ≤ 2 ^ S (13 + 3 * k) 0) → (2 ^ S (13 + 3 * k) 0 < y + r) → (acc = cnt (fun y => rnk (S (13 + 3 * k) 0) (S (13 + 3 * k + 1)) y == X) y) → ∀ (ls : Array Slot), lv_has ls 6 [(0, .ref (ad (0))), (1, .int (nI (k))), (2, .int (nI (X))), (3, .ref (ad (13 + 3 * k))), (4, .int (nI (acc))), (5, .int (nI (y)))] → W p l e ({ frames := 3, cells := 0, slots := 0, locals := 67 } : Room) s m args below meth c s.heap [] 0 0 (MQ below (k2_QcV (.int (sC_ranks (cN S) (cC S) ((nI k)) ((nI X))))) args s 0 0 (fun _ => False)) (F0 m 30 ls []) := by
          intro r
          induction r with
          | zero => intro acc y hx1 hr hc9; intros; exact absurd hr (by omega)
          | succ r ih =>
            intro acc y hx1 hr hc9 ls hl
            have ih_30 := ih
            refine lv_iload hx hb dX2_ranks_30 (lv_at hl 5 rfl) ?_
            refine lv_aload_n hx hb dX2_ranks_32 rfl (lv_at hl 3 rfl) ?_
            refine g_callV (13 + 3 * k) (C := RX1) (T := TX1) (N := 4) (ci := 0) (As := []) (rest := [.int (nI (y))]) (c_X1_size l hI (by omega) (gE_W hk9 (hWF.2.1 k hk9))) (cwV 0 hts gX2_ranks_X1_size rfl rfl rfl (by decide +kernel) ⟨Nat.le_of_ble_eq_true rfl, Nat.le_of_ble_eq_true rfl⟩) hx hb hml hown hts hK hP  (by omega) (gE_obj (isO_w hk9)) rfl rfl hl.1 rfl (Nat.le_of_ble_eq_true rfl) (Nat.zero_le _) (Nat.zero_le _) dX2_ranks_33 ?_
            refine n_ge (tgt := 58) hx hb dX2_ranks_36 (by decide) (by omega) (by omega) (fun h_36 => ?_) (fun h_36 => ?_)
            · refine lv_iload hx hb dX2_ranks_58 (lv_at hl 4 rfl) ?_
              exact g_iret hx hb hrt hlocks dX2_ranks_60 (by unfold sC_ranks; dsimp only [cN, cC, cM_]; rw [rg_y (by omega) (by omega) (by omega), rg_y (by omega) (by omega) (by omega), hc9, show y = 2 ^ S (13 + 3 * k) 0 by omega])
            · refine lv_aload_n hx hb dX2_ranks_39 rfl (lv_at hl 3 rfl) ?_
              refine lv_iload hx hb dX2_ranks_40 (lv_at hl 5 rfl) ?_
              refine g_callV (13 + 3 * k) (C := RX1) (T := TX1) (N := 4) (ci := 0) (As := [.int (nI (y))]) (rest := []) (c_X1_rankOf l hI (by omega) (gE_W hk9 (hWF.2.1 k hk9)) (Y := y) (hWF.2.1 k hk9).2.2 (hWF.2.1 k hk9).1.2.1 (hWF.2.1 k hk9).1.1 (hWF.2.1 k hk9).2.1 (by omega)) (cwV 1 hts gX2_ranks_X1_rankOf rfl rfl rfl (by decide +kernel) ⟨Nat.le_of_ble_eq_true rfl, Nat.le_of_ble_eq_true rfl⟩) hx hb hml hown hts hK hP  (by omega) (gE_obj (isO_w hk9)) rfl rfl hl.1 rfl (Nat.le_of_ble_eq_true rfl) (Nat.zero_le _) (Nat.zero_le _) dX2_ranks_42 ?_
              have hl9 : rnk (S (13 + 3 * k) 0) (S (13 + 3 * k + 1)) y ≤ 4 := lgn_le _
              refine lv_iload_n hx hb dX2_ranks_45 rfl (lv_at hl 2 rfl) ?_
              refine n_cne (tgt := 52) hx hb dX2_ranks_46 (by decide) (by omega) (by omega) (fun h_46 => ?_) (fun h_46 => ?_)
              · refine n_iinc 5 1 (lv' := [(5, .int (nI (y + 1))), (0, .ref (ad (0))), (1, .int (nI (k))), (2, .int (nI (X))), (3, .ref (ad (13 + 3 * k))), (4, .int (nI (acc)))]) hx hb dX2_ranks_52 hl rfl (by decide) rfl (fun ls hl => ?_)
                refine n_goto 30 hx hb dX2_ranks_55 (by decide) ?_
                exact ih_30 (acc) (y + 1) (by omega) (by omega) (by rw [hc9, cnt_n (p := fun y => rnk (S (13 + 3 * k) 0) (S (13 + 3 * k + 1)) y == X) (bF h_46)]) _ (lv_sub hl [1, 2, 3, 4, 5, 0] rfl)
              · refine n_iinc 4 1 (lv' := [(4, .int (nI (acc + 1))), (0, .ref (ad (0))), (1, .int (nI (k))), (2, .int (nI (X))), (3, .ref (ad (13 + 3 * k))), (5, .int (nI (y)))]) hx hb dX2_ranks_49 hl rfl (by decide) rfl (fun ls hl => ?_)
                refine n_iinc 5 1 (lv' := [(5, .int (nI (y + 1))), (4, .int (nI (acc + 1))), (0, .ref (ad (0))), (1, .int (nI (k))), (2, .int (nI (X))), (3, .ref (ad (13 + 3 * k)))]) hx hb dX2_ranks_52 hl rfl (by decide) rfl (fun ls hl => ?_)
                refine n_goto 30 hx hb dX2_ranks_55 (by decide) ?_
                exact ih_30 (acc + 1) (y + 1) (by omega) (by omega) (by rw [hc9, cnt_y (p := fun y => rnk (S (13 + 3 * k) 0) (S (13 + 3 * k + 1)) y == X) (bT h_46)]) _ (lv_sub hl [2, 3, 4, 5, 1, 0] rfl)
        exact L_30 (2 ^ S (13 + 3 * k) 0 + 1) (0) (0) (Nat.zero_le _) (by omega) rfl _ (lv_sub hl [3, 4, 5, 2, 1, 0] rfl)
      · exact absurd h_18 (by omega)
