/-! what the calls of CubeWorlds that write leave -/
/-- the places i, j below n of a cube's row are filled, up to row x, place y -/
def cf (n : Nat) (v : Nat → Nat → Nat) (e : Nat → Nat) (x y q : Nat) : Nat := if (q / 4 < x ∧ q % 4 < n) ∨ (q / 4 = x ∧ q % 4 < y) then v (q / 4) (q % 4) else e q
theorem cf_00 (n : Nat) (v : Nat → Nat → Nat) (e : Nat → Nat) : cf n v e 0 0 = e := by
  funext q
  unfold cf
  rw [if_neg (by omega)]
theorem cf_put {n : Nat} {v : Nat → Nat → Nat} {e : Nat → Nat} {i j : Nat} (hj : j < n) (hn : n ≤ 4) : va_up (cf n v e i j) (4 * i + j) (v i j) = cf n v e i (j + 1) := by
  funext q
  unfold va_up cf
  by_cases h : q = 4 * i + j
  · have h1 : q / 4 = i := by omega
    have h2 : q % 4 = j := by omega
    rw [if_pos h, h1, h2, if_pos (by omega)]
  · rw [if_neg h]
    by_cases h2 : (q / 4 < i ∧ q % 4 < n) ∨ (q / 4 = i ∧ q % 4 < j)
    · rw [if_pos h2, if_pos (by omega)]
    · rw [if_neg h2, if_neg (by omega)]
theorem cf_row {n : Nat} {v : Nat → Nat → Nat} {e : Nat → Nat} {i : Nat} : cf n v e i n = cf n v e (i + 1) 0 := by
  funext q
  unfold cf
  by_cases h : (q / 4 < i ∧ q % 4 < n) ∨ (q / 4 = i ∧ q % 4 < n)
  · rw [if_pos h, if_pos (by omega)]
  · rw [if_neg h, if_neg (by omega)]
theorem cf_at {n : Nat} {v : Nat → Nat → Nat} {e : Nat → Nat} {i j : Nat} (hi : i < n) (hj : j < n) (hn : n ≤ 4) : cf n v e n 0 (4 * i + j) = v i j := by
  unfold cf
  have h1 : (4 * i + j) / 4 = i := by omega
  have h2 : (4 * i + j) % 4 = j := by omega
  rw [h1, h2, if_pos (by omega)]
def takeS (S : Nat → Nat → Nat) (b K : Nat) (e : Nat → Nat) : Nat → Nat → Nat :=
  va_up (va_up (va_up S b (obS K (2 ^ K))) (b + 1) (cpy e (S (b + 1)) 16)) (b + 2) (pf K (cpy e (S (b + 1)) 16) (S (b + 2)) (2 ^ K) 0)
/-- slot k gets the world of K whose products of bits are v -/
def newW (S : Nat → Nat → Nat) (k K : Nat) (v : Nat → Nat → Nat) : Nat → Nat → Nat :=
  takeS (va_up S 9 (cf K v (S 9) K 0)) (13 + 3 * k) K (cf K v (S 9) K 0)
def putS (S : Nat → Nat → Nat) (k I J V : Nat) : Nat → Nat → Nat :=
  va_up (va_up S (13 + 3 * k + 1) (va_up (S (13 + 3 * k + 1)) (4 * I + J) V)) (13 + 3 * k + 2) (pf (S (13 + 3 * k) 0) (va_up (S (13 + 3 * k + 1)) (4 * I + J) V) (S (13 + 3 * k + 2)) (2 ^ S (13 + 3 * k) 0) 0)
section GF
variable {cI cW cM : ClassId} {ad : Nat → Nat} {S S' : Nat → Nat → Nat}
theorem gE_upL (i L : Nat) (h : ln i = L) (h0 : L ≠ 0) (f : Nat → Nat) : va_up (gE cI cW cM ad S) i (.inl (cI, L, .inl (nF f))) = gE cI cW cM ad (va_up S i f) := by
  subst h
  exact gE_up h0 f
theorem gIS (i L : Nat) (h : ln i = L) (h0 : L ≠ 0) (hS : S' i = S i) : gE cI cW cM ad S' i = .inl (cI, L, .inl (nF (S i))) := by
  rw [← hS]
  exact gI i L h h0
theorem gE_WS {k : Nat} (h : k < 4) (hw : wf S (13 + 3 * k)) (h0 : S' (13 + 3 * k) = S (13 + 3 * k)) (h1 : S' (13 + 3 * k + 1) = S (13 + 3 * k + 1)) (h2 : S' (13 + 3 * k + 2) = S (13 + 3 * k + 2)) : isW cI ad (gE cI cW cM ad S') (13 + 3 * k) (S (13 + 3 * k) 0) (S (13 + 3 * k + 1)) (S (13 + 3 * k + 2)) :=
  ⟨by rw [gE_obj (isO_w h), h0, hw.1.2.2], gIS _ 16 (ln_c h) (by decide) h1, gIS _ 256 (ln_t h) (by decide) h2⟩
theorem gE_take {b K : Nat} {e : Nat → Nat} (hb : isO b = true) (h1 : ln (b + 1) = 16) (h2 : ln (b + 2) = 256) : va_up (va_up (va_up (gE cI cW cM ad S) b (.inr (0, [.int (nI K), .int (nI (2 ^ K)), .ref (ad (b + 1)), .ref (ad (b + 2))]))) (b + 1) (.inl (cI, 16, .inl (nF (cpy e (S (b + 1)) 16))))) (b + 2) (.inl (cI, 256, .inl (nF (pf K (cpy e (S (b + 1)) 16) (S (b + 2)) (2 ^ K) 0)))) = gE cI cW cM ad (takeS S b K e) := by
  rw [gE_ob hb, gE_upL _ 16 h1 (by decide), gE_upL _ 256 h2 (by decide)]
  rfl
theorem gE_put {k I J V : Nat} (h : k < 4) : va_up (va_up (gE cI cW cM ad S) (13 + 3 * k + 1) (.inl (cI, 16, .inl (nF (va_up (S (13 + 3 * k + 1)) (4 * I + J) V))))) (13 + 3 * k + 2) (.inl (cI, 256, .inl (nF (pf (S (13 + 3 * k) 0) (va_up (S (13 + 3 * k + 1)) (4 * I + J) V) (S (13 + 3 * k + 2)) (2 ^ S (13 + 3 * k) 0) 0)))) = gE cI cW cM ad (putS S k I J V) := by
  rw [gE_upL _ 16 (ln_c h) (by decide), gE_upL _ 256 (ln_t h) (by decide)]
  rfl
end GF
theorem up9 (S : Nat → Nat → Nat) (i : Nat) (f g : Nat → Nat) : va_up (va_up S i f) i (va_up S i g i) = va_up S i g := by rw [va_up_up, va_up_at]
abbrev cU (S : Nat → Nat → Nat) (k q : Nat) : Nat := S (13 + 3 * k + 1) q
def sC_world (a x : Int32) : Int32 := rg 0 3 a (-1) fun _ => rg 1 4 x (-2) fun N => nI (2 ^ N)
def nC_world (S : Nat → Nat → Nat) (a x : Int32) : Nat → Nat → Nat := rg 0 3 a S fun k => rg 1 4 x S fun N => newW S k N (fun _ _ => 0)
def sC_put (n : Nat → Nat) (c : Nat → Nat → Nat) (a x y v : Int32) : Int32 := rg 0 3 a (-1) fun k => rg 0 (2 ^ n k - 1) v (-1) fun V => rg 0 (n k - 1) x (-2) fun I => rg 0 (n k - 1) y (-2) fun J => nI (c k (4 * I + J))
def nC_put (S : Nat → Nat → Nat) (a x y v : Int32) : Nat → Nat → Nat := rg 0 3 a S fun k => rg 0 (2 ^ cN S k - 1) v S fun V => rg 0 (cN S k - 1) x S fun I => rg 0 (cN S k - 1) y S fun J => putS S k I J V
def sC_turn (a b w : Int32) : Int32 := rg 0 3 a (-1) fun _ => rg 0 3 b (-1) fun _ => rg 0 5 w (-2) fun _ => nI 1
def nC_turn (S : Nat → Nat → Nat) (a b w : Int32) : Nat → Nat → Nat := rg 0 3 a S fun k => rg 0 3 b S fun j => rg 0 5 w S fun T => newW S k (cN S j) (tcS (cN S j) (cC S j) T)
def sC_carry (n : Nat → Nat) (M : Nat → Nat → Nat) (a b : Int32) : Int32 := rg 0 3 a (-1) fun _ => rg 0 3 b (-1) fun j => if amf M (n j) then nI 1 else -3
def crS (n : Nat) (c : Nat → Nat) (M : Nat → Nat → Nat) (i j : Nat) : Nat := im (M 2) (tm n c (src (M 0) n (1 <<< i)) (src (M 1) n (1 <<< j)))
def nC_carry (S : Nat → Nat → Nat) (a b : Int32) : Nat → Nat → Nat := rg 0 3 a S fun k => rg 0 3 b S fun j => if amf (cM_ S) (cN S j) then newW S k (cN S j) (crS (cN S j) (cC S j) (cM_ S)) else S
def sC_map (M : Nat → Nat → Nat) (a x v : Int32) : Int32 := rg 0 2 a (-1) fun m => rg 0 3 x (-2) fun I => rg 0 15 v (-2) fun _ => nI (M m I)
def nC_map (S : Nat → Nat → Nat) (a x v : Int32) : Nat → Nat → Nat := rg 0 2 a S fun m => rg 0 3 x S fun I => rg 0 15 v S fun V => va_up S (3 + m) (va_up (S (3 + m)) I V)
theorem src_lt {f : Nat → Nat} {n v : Nat} : src f n v < 2 ^ n := by
  unfold src
  cases e : fl (fun x => im f x == v) 0 (2 ^ n) with
  | none => exact Nat.pow_pos (by decide)
  | some k => have := (fl_some e).2.1; show k < 2 ^ n; omega
theorem gIX {cI cW cM : ClassId} {ad : Nat → Nat} {S' : Nat → Nat → Nat} {f : Nat → Nat} (i L : Nat) (h : ln i = L) (h0 : L ≠ 0) (hS : S' i = f) : gE cI cW cM ad S' i = .inl (cI, L, .inl (nF f)) := by
  rw [← hS]
  exact gI i L h h0
theorem isW.up12 {cI : ClassId} {ad : Nat → Nat} {E : Nat → va_E} {b K : Nat} {c t : Nat → Nat} : isW cI ad (va_up (va_up (va_up E b (.inr (0, [.int (nI K), .int (nI (2 ^ K)), .ref (ad (b + 1)), .ref (ad (b + 2))]))) (b + 1) (.inl (cI, 16, .inl (nF c)))) (b + 2) (.inl (cI, 256, .inl (nF t)))) b K c t :=
  ⟨by rw [va_up_o (by omega), va_up_o (by omega), va_up_at], by rw [va_up_o (by omega), va_up_at], va_up_at _ _ _⟩
theorem src_lt' {f : Nat → Nat} {n v m : Nat} (h : n = m) : src f n v < 2 ^ m := h ▸ src_lt
theorem k6_lt {x : Int32} (h : x < nI 6) : x ≤ nI 5 := by
  rw [i_le, nI_toInt' (by decide)]
  rw [i_lt, nI_toInt' (by decide)] at h
  omega

set_option maxHeartbeats 4000000 in
set_option maxRecDepth 100000 in
theorem c_X2_put (l : Launch) {D : va_G} {tys : List (ClassId × FieldType)} {A : Nat → Prop} {ad : Nat → Nat} {cI cW cM : ClassId} {tI tW tM : Nat} {S : Nat → Nat → Nat} (hI : tys[tI]? = some (cI, .int)) (hWt : tys[tW]? = some (cW, .object "CubeWorlds$World")) (hMt : tys[tM]? = some (cM, .array .int)) (hWF : WF S) {a x y v : Int32} : Met l yX2_put wsX2_put ({ frames := 5, cells := 0, slots := 0, locals := 113 } : Room) (va_Pc [.ref (ad (0)), .int (a), .int (x), .int (y), .int (v)] (PW D tys A 33 ad (gE cI cW cM ad S))) (QW (some (.int (sC_put (cN S) (cC S) a x y v))) (PW D tys A 33 ad (gE cI cW cM ad (nC_put S a x y v))) A) 0 0 A := by
  refine g_writes (cc := cX2_put) (maxL := 7) (ret := (some .int)) (by decide) rfl (Nat.le_of_ble_eq_true rfl) ?_
  intro p e s m args below meth c hx hb hrt hts hown hlocks hml hP hK hD hS ls hl
  show W p l e ({ frames := 5, cells := 0, slots := 0, locals := 113 } : Room) s m args below meth c s.heap [] 0 0 _ _
  have hl : lv_has ls 7 [(0, .ref (ad (0))), (1, .int (a)), (2, .int (x)), (3, .int (y)), (4, .int (v))] := hl
  refine lv_aload_n hx hb dX2_put_0 rfl (lv_at hl 0 rfl) ?_
  refine lv_iload_n hx hb dX2_put_1 rfl (lv_at hl 1 rfl) ?_
  cases hs_2 : rB 0 3 a with
  | false =>
    refine g_callV (0) (C := RX2) (T := TX2) (N := 7) (ci := 1) (As := [.int (a)]) (rest := []) (c_X2_worldIn_n l hI hWt hMt hWF hs_2) (cwV 1 hts gX2_put_X2_worldIn rfl rfl rfl (by decide +kernel) ⟨Nat.le_of_ble_eq_true rfl, Nat.le_of_ble_eq_true rfl⟩) hx hb hml hown hts hK hP  (by decide) rfl rfl rfl hl.1 rfl (Nat.le_of_ble_eq_true rfl) (Nat.zero_le _) (Nat.zero_le _) dX2_put_2 ?_
    refine lv_astoreN (lv' := [(5, .null), (0, .ref (ad (0))), (1, .int (a)), (2, .int (x)), (3, .int (y)), (4, .int (v))]) hx hb dX2_put_5 hl (by decide) rfl (fun ls hl => ?_)
    refine lv_aloadN hx hb dX2_put_7 (lv_at hl 0 rfl) ?_
    refine lv_ifnullN (tgt := 22) hx hb dX2_put_9 (by decide) ?_
    refine lv_iconst (v := (-1)) hx hb dX2_put_22 (by decide) ?_
    have hP : va_P D vwCl (pic 33 ad (gE cI cW cM ad (nC_put S a x y v))) s.heap := by rw [show nC_put S a x y v = S from by unfold nC_put; (try dsimp only [cN, cC, cM_]); rw [rg_n hs_2]]; exact hP
    exact g_iretW hx hb hrt hlocks hK hP (pic_D _ hD) hS dX2_put_23 (by unfold sC_put; (try dsimp only [cN, cC, cM_]); rw [rg_n hs_2])
  | true =>
    obtain ⟨k, hk1, hk2, e9⟩ := rB_some (by omega) (by omega) hs_2
    subst e9
    have hk9 : k < 4 := by omega
    have qk1 := (hWF.2.1 k hk9).1
    have qk2 := pow4 qk1.2.1
    have qk3 : 0 < 2 ^ S (13 + 3 * k) 0 := Nat.pow_pos (by decide)
    have qk4 := sq4 qk2
    refine g_callV (0) (C := RX2) (T := TX2) (N := 7) (ci := 1) (As := [.int (nI (k))]) (rest := []) (c_X2_worldIn_y l hI hWt hMt hWF (k := k) (by omega)) (cwV 1 hts gX2_put_X2_worldIn rfl rfl rfl (by decide +kernel) ⟨Nat.le_of_ble_eq_true rfl, Nat.le_of_ble_eq_true rfl⟩) hx hb hml hown hts hK hP  (by decide) rfl rfl rfl hl.1 rfl (Nat.le_of_ble_eq_true rfl) (Nat.zero_le _) (Nat.zero_le _) dX2_put_2 ?_
    refine lv_astore (lv' := [(5, .ref (ad (13 + 3 * k))), (0, .ref (ad (0))), (1, .int (nI (k))), (2, .int (x)), (3, .int (y)), (4, .int (v))]) hx hb dX2_put_5 hl (by decide) rfl (fun ls hl => ?_)
    refine lv_aload hx hb dX2_put_7 (lv_at hl 0 rfl) ?_
    refine lv_ifnull hx hb dX2_put_9 ?_
    refine lv_aload hx hb dX2_put_12 (lv_at hl 0 rfl) ?_
    refine lv_iload hx hb dX2_put_14 (lv_at hl 5 rfl) ?_
    refine g_callV (13 + 3 * k) (C := RX1) (T := TX1) (N := 4) (ci := 0) (As := [.int (v)]) (rest := []) (c_X1_has l hI (by omega) (gE_W hk9 (hWF.2.1 k hk9)) (x := v) (hWF.2.1 k hk9).1.2.1 (hWF.2.1 k hk9).1.1) (cwV 1 hts gX2_put_X1_has rfl rfl rfl (by decide +kernel) ⟨Nat.le_of_ble_eq_true rfl, Nat.le_of_ble_eq_true rfl⟩) hx hb hml hown hts hK hP  (by omega) (gE_obj (isO_w hk9)) rfl rfl hl.1 rfl (Nat.le_of_ble_eq_true rfl) (Nat.zero_le _) (Nat.zero_le _) dX2_put_16 ?_
    refine n_ifne_b (tgt := 24) hx hb dX2_put_19 (by decide) (fun h_19 => ?_) (fun h_19 => ?_)
    · obtain ⟨V, hV1, hV2, e9⟩ := rB_some (by omega) (by omega) h_19
      subst e9
      refine lv_aload hx hb dX2_put_24 (lv_at hl 0 rfl) ?_
      refine lv_iload_n hx hb dX2_put_26 rfl (lv_at hl 3 rfl) ?_
      refine g_callV (13 + 3 * k) (C := RX1) (T := TX1) (N := 4) (ci := 0) (As := [.int (x)]) (rest := []) (c_X1_hasBit l hI (by omega) (gE_W hk9 (hWF.2.1 k hk9)) (x := x) (hWF.2.1 k hk9).1.2.1 (hWF.2.1 k hk9).1.1) (cwV 1 hts gX2_put_X1_hasBit rfl rfl rfl (by decide +kernel) ⟨Nat.le_of_ble_eq_true rfl, Nat.le_of_ble_eq_true rfl⟩) hx hb hml hown hts hK hP  (by omega) (gE_obj (isO_w hk9)) rfl rfl hl.1 rfl (Nat.le_of_ble_eq_true rfl) (Nat.zero_le _) (Nat.zero_le _) dX2_put_27 ?_
      refine n_ifeq_b (tgt := 42) hx hb dX2_put_30 (by decide) (fun h_30 => ?_) (fun h_30 => ?_)
      · refine lv_bipush (v := (-2)) hx hb dX2_put_42 (by decide) ?_
        have hP : va_P D vwCl (pic 33 ad (gE cI cW cM ad (nC_put S ((nI k)) x y ((nI V))))) s.heap := by rw [show nC_put S ((nI k)) x y ((nI V)) = S from by unfold nC_put; (try dsimp only [cN, cC, cM_]); rw [rg_y (by omega) (by omega) (by omega), rg_y (by omega) (by omega) (by omega), rg_n h_30]]; exact hP
        exact g_iretW hx hb hrt hlocks hK hP (pic_D _ hD) hS dX2_put_44 (by unfold sC_put; (try dsimp only [cN, cC, cM_]); rw [rg_y (by omega) (by omega) (by omega), rg_y (by omega) (by omega) (by omega), rg_n h_30])
      · obtain ⟨I, hI1, hI2, e9⟩ := rB_some (by omega) (by omega) h_30
        subst e9
        refine lv_aload hx hb dX2_put_33 (lv_at hl 0 rfl) ?_
        refine lv_iload_n hx hb dX2_put_35 rfl (lv_at hl 4 rfl) ?_
        refine g_callV (13 + 3 * k) (C := RX1) (T := TX1) (N := 4) (ci := 0) (As := [.int (y)]) (rest := []) (c_X1_hasBit l hI (by omega) (gE_W hk9 (hWF.2.1 k hk9)) (x := y) (hWF.2.1 k hk9).1.2.1 (hWF.2.1 k hk9).1.1) (cwV 1 hts gX2_put_X1_hasBit rfl rfl rfl (by decide +kernel) ⟨Nat.le_of_ble_eq_true rfl, Nat.le_of_ble_eq_true rfl⟩) hx hb hml hown hts hK hP  (by omega) (gE_obj (isO_w hk9)) rfl rfl hl.1 rfl (Nat.le_of_ble_eq_true rfl) (Nat.zero_le _) (Nat.zero_le _) dX2_put_36 ?_
        refine n_ifne_b (tgt := 45) hx hb dX2_put_39 (by decide) (fun h_39 => ?_) (fun h_39 => ?_)
        · obtain ⟨J, hJ1, hJ2, e9⟩ := rB_some (by omega) (by omega) h_39
          subst e9
          refine lv_aload hx hb dX2_put_45 (lv_at hl 0 rfl) ?_
          refine lv_iload_n hx hb dX2_put_47 rfl (lv_at hl 3 rfl) ?_
          refine lv_iload_n hx hb dX2_put_48 rfl (lv_at hl 4 rfl) ?_
          refine g_callV (13 + 3 * k) (C := RX1) (T := TX1) (N := 4) (ci := 0) (As := [.int (nI (I)), .int (nI (J))]) (rest := []) (c_X1_cell l hI (by omega) (gE_W hk9 (hWF.2.1 k hk9)) (I := I) (J := J) (by omega) (by omega)) (cwV 2 hts gX2_put_X1_cell rfl rfl rfl (by decide +kernel) ⟨Nat.le_of_ble_eq_true rfl, Nat.le_of_ble_eq_true rfl⟩) hx hb hml hown hts hK hP  (by omega) (gE_obj (isO_w hk9)) rfl rfl hl.1 rfl (Nat.le_of_ble_eq_true rfl) (Nat.zero_le _) (Nat.zero_le _) dX2_put_49 ?_
          refine lv_istore (lv' := [(6, .int (nI ((S (13 + 3 * k + 1)) (4 * I + J)))), (5, .ref (ad (13 + 3 * k))), (0, .ref (ad (0))), (1, .int (nI (k))), (2, .int (nI (I))), (3, .int (nI (J))), (4, .int (nI (V)))]) hx hb dX2_put_52 hl (by decide) rfl (fun ls hl => ?_)
          refine lv_aload hx hb dX2_put_54 (lv_at hl 1 rfl) ?_
          refine lv_iload_n hx hb dX2_put_56 rfl (lv_at hl 4 rfl) ?_
          refine lv_iload_n hx hb dX2_put_57 rfl (lv_at hl 5 rfl) ?_
          refine lv_iload hx hb dX2_put_58 (lv_at hl 6 rfl) ?_
          refine g_callVW (13 + 3 * k) (C := RX1) (T := TX1) (N := 4) (ci := 0) (As := [.int (nI (I)), .int (nI (J)), .int (nI (V))]) (rest := []) (c_X1_changeCell l hI (by omega) (gE_W hk9 (hWF.2.1 k hk9)) (I := I) (J := J) (V := V) (hWF.2.1 k hk9).1.2.1 (by omega) (by omega)) (cwV 3 hts gX2_put_X1_changeCell rfl rfl rfl (by decide +kernel) ⟨Nat.le_of_ble_eq_true rfl, Nat.le_of_ble_eq_true rfl⟩) hx hb hml hown hts hK hP (pic_D _ hD) hS  (by omega) (gE_obj (isO_w hk9)) rfl rfl hl.1 rfl (Nat.le_of_ble_eq_true rfl) (Nat.zero_le _) (Nat.zero_le _) dX2_put_60 (fun H locs hP hS => ?_)
          refine lv_iload hx hb dX2_put_63 (lv_at hl 0 rfl) ?_
          have hP : va_P D vwCl (pic 33 ad (gE cI cW cM ad (nC_put S ((nI k)) ((nI I)) ((nI J)) ((nI V))))) H := by rw [show nC_put S ((nI k)) ((nI I)) ((nI J)) ((nI V)) = putS S k I J V from by unfold nC_put; (try dsimp only [cN, cC, cM_]); rw [rg_y (by omega) (by omega) (by omega), rg_y (by omega) (by omega) (by omega), rg_y (by omega) (by omega) (by omega), rg_y (by omega) (by omega) (by omega)]]; rw [← gE_put hk9]; exact hP
          exact g_iretW hx hb hrt hlocks hK hP (pic_D _ hD) hS dX2_put_65 (by unfold sC_put; (try dsimp only [cN, cC, cM_]); rw [rg_y (by omega) (by omega) (by omega), rg_y (by omega) (by omega) (by omega), rg_y (by omega) (by omega) (by omega), rg_y (by omega) (by omega) (by omega)])
        · refine lv_bipush (v := (-2)) hx hb dX2_put_42 (by decide) ?_
          have hP : va_P D vwCl (pic 33 ad (gE cI cW cM ad (nC_put S ((nI k)) ((nI I)) y ((nI V))))) s.heap := by rw [show nC_put S ((nI k)) ((nI I)) y ((nI V)) = S from by unfold nC_put; (try dsimp only [cN, cC, cM_]); rw [rg_y (by omega) (by omega) (by omega), rg_y (by omega) (by omega) (by omega), rg_y (by omega) (by omega) (by omega), rg_n h_39]]; exact hP
          exact g_iretW hx hb hrt hlocks hK hP (pic_D _ hD) hS dX2_put_44 (by unfold sC_put; (try dsimp only [cN, cC, cM_]); rw [rg_y (by omega) (by omega) (by omega), rg_y (by omega) (by omega) (by omega), rg_y (by omega) (by omega) (by omega), rg_n h_39])
    · refine lv_iconst (v := (-1)) hx hb dX2_put_22 (by decide) ?_
      have hP : va_P D vwCl (pic 33 ad (gE cI cW cM ad (nC_put S ((nI k)) x y v))) s.heap := by rw [show nC_put S ((nI k)) x y v = S from by unfold nC_put; (try dsimp only [cN, cC, cM_]); rw [rg_y (by omega) (by omega) (by omega), rg_n h_19]]; exact hP
      exact g_iretW hx hb hrt hlocks hK hP (pic_D _ hD) hS dX2_put_23 (by unfold sC_put; (try dsimp only [cN, cC, cM_]); rw [rg_y (by omega) (by omega) (by omega), rg_n h_19])
set_option maxHeartbeats 4000000 in
set_option maxRecDepth 100000 in
theorem c_X2_map (l : Launch) {D : va_G} {tys : List (ClassId × FieldType)} {A : Nat → Prop} {ad : Nat → Nat} {cI cW cM : ClassId} {tI tW tM : Nat} {S : Nat → Nat → Nat} (hI : tys[tI]? = some (cI, .int)) (hWt : tys[tW]? = some (cW, .object "CubeWorlds$World")) (hMt : tys[tM]? = some (cM, .array .int)) (hWF : WF S) {a x v : Int32} : Met l yX2_map wsX2_map ({ frames := 1, cells := 0, slots := 0, locals := 21 } : Room) (va_Pc [.ref (ad (0)), .int (a), .int (x), .int (v)] (PW D tys A 33 ad (gE cI cW cM ad S))) (QW (some (.int (sC_map (cM_ S) a x v))) (PW D tys A 33 ad (gE cI cW cM ad (nC_map S a x v))) A) 0 0 A := by
  refine g_writes (cc := cX2_map) (maxL := 6) (ret := (some .int)) (by decide) rfl (Nat.le_of_ble_eq_true rfl) ?_
  intro p e s m args below meth c hx hb hrt hts hown hlocks hml hP hK hD hS ls hl
  show W p l e ({ frames := 1, cells := 0, slots := 0, locals := 21 } : Room) s m args below meth c s.heap [] 0 0 _ _
  have hl : lv_has ls 6 [(0, .ref (ad (0))), (1, .int (a)), (2, .int (x)), (3, .int (v))] := hl
  refine lv_aload_n hx hb dX2_map_0 rfl (lv_at hl 0 rfl) ?_
  refine lv_iload_n hx hb dX2_map_1 rfl (lv_at hl 1 rfl) ?_
  cases hs_2 : rB 0 2 a with
  | false =>
    refine g_callV (0) (C := RX2) (T := TX2) (N := 7) (ci := 1) (As := [.int (a)]) (rest := []) (c_X2_mapAt_n l hI hWt hMt hWF hs_2) (cwV 1 hts gX2_map_X2_mapAt rfl rfl rfl (by decide +kernel) ⟨Nat.le_of_ble_eq_true rfl, Nat.le_of_ble_eq_true rfl⟩) hx hb hml hown hts hK hP  (by decide) rfl rfl rfl hl.1 rfl (Nat.le_of_ble_eq_true rfl) (Nat.zero_le _) (Nat.zero_le _) dX2_map_2 ?_
    refine lv_astoreN (lv' := [(4, .null), (0, .ref (ad (0))), (1, .int (a)), (2, .int (x)), (3, .int (v))]) hx hb dX2_map_5 hl (by decide) rfl (fun ls hl => ?_)
    refine lv_aloadN hx hb dX2_map_7 (lv_at hl 0 rfl) ?_
    refine lv_ifnonnullN hx hb dX2_map_9 ?_
    refine lv_iconst (v := (-1)) hx hb dX2_map_12 (by decide) ?_
    have hP : va_P D vwCl (pic 33 ad (gE cI cW cM ad (nC_map S a x v))) s.heap := by rw [show nC_map S a x v = S from by unfold nC_map; (try dsimp only [cN, cC, cM_]); rw [rg_n hs_2]]; exact hP
    exact g_iretW hx hb hrt hlocks hK hP (pic_D _ hD) hS dX2_map_13 (by unfold sC_map; (try dsimp only [cN, cC, cM_]); rw [rg_n hs_2])
  | true =>
    obtain ⟨m, hm1, hm2, e9⟩ := rB_some (by omega) (by omega) hs_2
    subst e9
    have hm9 : m < 3 := by omega
    refine g_callV (0) (C := RX2) (T := TX2) (N := 7) (ci := 1) (As := [.int (nI (m))]) (rest := []) (c_X2_mapAt_y l hI hWt hMt hWF (k := m) (by omega)) (cwV 1 hts gX2_map_X2_mapAt rfl rfl rfl (by decide +kernel) ⟨Nat.le_of_ble_eq_true rfl, Nat.le_of_ble_eq_true rfl⟩) hx hb hml hown hts hK hP  (by decide) rfl rfl rfl hl.1 rfl (Nat.le_of_ble_eq_true rfl) (Nat.zero_le _) (Nat.zero_le _) dX2_map_2 ?_
    refine lv_astore (lv' := [(4, .ref (ad (3 + m))), (0, .ref (ad (0))), (1, .int (nI (m))), (2, .int (x)), (3, .int (v))]) hx hb dX2_map_5 hl (by decide) rfl (fun ls hl => ?_)
    refine lv_aload hx hb dX2_map_7 (lv_at hl 0 rfl) ?_
    refine lv_ifnonnull (tgt := 14) hx hb dX2_map_9 (by decide) ?_
    cases hs_14 : rB 0 3 x with
    | false =>
      refine lv_iload_n hx hb dX2_map_14 rfl (lv_at hl 3 rfl) ?_
      refine lv_if_lt (tgt := 32) hx hb dX2_map_15 (by decide) (fun h_15 => ?_) (fun h_15 => ?_)
      · refine lv_bipush (v := (-2)) hx hb dX2_map_32 (by decide) ?_
        have hP : va_P D vwCl (pic 33 ad (gE cI cW cM ad (nC_map S ((nI m)) x v))) s.heap := by rw [show nC_map S ((nI m)) x v = S from by unfold nC_map; (try dsimp only [cN, cC, cM_]); rw [rg_y (by omega) (by omega) (by omega), rg_n hs_14]]; exact hP
        exact g_iretW hx hb hrt hlocks hK hP (pic_D _ hD) hS dX2_map_34 (by unfold sC_map; (try dsimp only [cN, cC, cM_]); rw [rg_y (by omega) (by omega) (by omega), rg_n hs_14])
      · refine lv_iload_n hx hb dX2_map_18 rfl (lv_at hl 3 rfl) ?_
        refine lv_aload hx hb dX2_map_19 (lv_at hl 0 rfl) ?_
        refine g_alen (3 + m) hx hb hK hP (by omega) (gI _ 4 (ln_m (by omega)) (by decide)) hI dX2_map_21 ?_
        refine lv_icmp_ge (tgt := 32) hx hb dX2_map_22 (by decide) (fun h_22 => ?_) (fun h_22 => ?_)
        · refine lv_bipush (v := (-2)) hx hb dX2_map_32 (by decide) ?_
          have hP : va_P D vwCl (pic 33 ad (gE cI cW cM ad (nC_map S ((nI m)) x v))) s.heap := by rw [show nC_map S ((nI m)) x v = S from by unfold nC_map; (try dsimp only [cN, cC, cM_]); rw [rg_y (by omega) (by omega) (by omega), rg_n hs_14]]; exact hP
          exact g_iretW hx hb hrt hlocks hK hP (pic_D _ hD) hS dX2_map_34 (by unfold sC_map; (try dsimp only [cN, cC, cM_]); rw [rg_y (by omega) (by omega) (by omega), rg_n hs_14])
        · exact absurd (show rB 0 3 x = true from decide_eq_true ⟨k2_le h_15, k4_le h_22⟩) (by rw [hs_14]; decide)
    | true =>
      obtain ⟨I, hI1, hI2, e9⟩ := rB_some (by omega) (by omega) hs_14
      subst e9
      refine lv_iload_n hx hb dX2_map_14 rfl (lv_at hl 3 rfl) ?_
      refine n_z_lt (tgt := 32) hx hb dX2_map_15 (by decide) (by omega) ?_
      refine lv_iload_n hx hb dX2_map_18 rfl (lv_at hl 3 rfl) ?_
      refine lv_aload hx hb dX2_map_19 (lv_at hl 0 rfl) ?_
      refine g_alen (3 + m) hx hb hK hP (by omega) (gI _ 4 (ln_m (by omega)) (by decide)) hI dX2_map_21 ?_
      refine n_ge (tgt := 32) hx hb dX2_map_22 (by decide) (by omega) (by omega) (fun h_22 => ?_) (fun h_22 => ?_)
      · exact absurd h_22 (by omega)
      · refine lv_iload_n hx hb dX2_map_25 rfl (lv_at hl 4 rfl) ?_
        refine g_callS (As := [.int (v)]) (rest := []) (c_X2_isMapNumber l hI (x := v)) (va_cwS 1 hts gX2_map_X2_isMapNumber rfl rfl rfl (by decide +kernel) ⟨Nat.le_of_ble_eq_true rfl, Nat.le_of_ble_eq_true rfl⟩) hx hb hml hown hts hK hP  rfl hl.1 rfl (Nat.le_of_ble_eq_true rfl) (Nat.zero_le _) (Nat.zero_le _) dX2_map_26 ?_
        refine n_ifne_b (tgt := 35) hx hb dX2_map_29 (by decide) (fun h_29 => ?_) (fun h_29 => ?_)
        · obtain ⟨V, hV1, hV2, e9⟩ := rB_some (by omega) (by omega) h_29
          subst e9
          refine lv_aload hx hb dX2_map_35 (lv_at hl 0 rfl) ?_
          refine lv_iload_n hx hb dX2_map_37 rfl (lv_at hl 3 rfl) ?_
          refine g_iald (3 + m) (I) (t0 := _) hx hb hK hP (by omega) (gI _ 4 (ln_m (by omega)) (by decide)) hI (by omega) (by decide) dX2_map_38 ?_
          refine lv_istore (lv' := [(5, .int (nI ((S (3 + m)) (I)))), (4, .ref (ad (3 + m))), (0, .ref (ad (0))), (1, .int (nI (m))), (2, .int (nI (I))), (3, .int (nI (V)))]) hx hb dX2_map_39 hl (by decide) rfl (fun ls hl => ?_)
          refine lv_aload hx hb dX2_map_41 (lv_at hl 1 rfl) ?_
          refine lv_iload_n hx hb dX2_map_43 rfl (lv_at hl 4 rfl) ?_
          refine lv_iload_n hx hb dX2_map_44 rfl (lv_at hl 5 rfl) ?_
          refine g_iast (3 + m) (I) (V) hx hb hK hP (pic_D _ hD) hS (by omega) (gI _ 4 (ln_m (by omega)) (by decide)) hI (by omega) (by decide) dX2_map_45 (fun H locs hP hS => ?_)
          rw [gE_upL _ 4 (ln_m (by omega)) (by decide)] at hP
          refine lv_iload hx hb dX2_map_46 (lv_at hl 0 rfl) ?_
          have hP : va_P D vwCl (pic 33 ad (gE cI cW cM ad (nC_map S ((nI m)) ((nI I)) ((nI V))))) H := by rw [show nC_map S ((nI m)) ((nI I)) ((nI V)) = va_up S (3 + m) (va_up (S (3 + m)) I V) from by unfold nC_map; (try dsimp only [cN, cC, cM_]); rw [rg_y (by omega) (by omega) (by omega), rg_y (by omega) (by omega) (by omega), rg_y (by omega) (by omega) (by omega)]]; exact hP
          exact g_iretW hx hb hrt hlocks hK hP (pic_D _ hD) hS dX2_map_48 (by unfold sC_map; (try dsimp only [cN, cC, cM_]); rw [rg_y (by omega) (by omega) (by omega), rg_y (by omega) (by omega) (by omega), rg_y (by omega) (by omega) (by omega)])
        · refine lv_bipush (v := (-2)) hx hb dX2_map_32 (by decide) ?_
          have hP : va_P D vwCl (pic 33 ad (gE cI cW cM ad (nC_map S ((nI m)) ((nI I)) v))) s.heap := by rw [show nC_map S ((nI m)) ((nI I)) v = S from by unfold nC_map; (try dsimp only [cN, cC, cM_]); rw [rg_y (by omega) (by omega) (by omega), rg_y (by omega) (by omega) (by omega), rg_n h_29]]; exact hP
          exact g_iretW hx hb hrt hlocks hK hP (pic_D _ hD) hS dX2_map_34 (by unfold sC_map; (try dsimp only [cN, cC, cM_]); rw [rg_y (by omega) (by omega) (by omega), rg_y (by omega) (by omega) (by omega), rg_n h_29])
set_option maxHeartbeats 4000000 in
set_option maxRecDepth 100000 in
theorem c_X2_world (l : Launch) {D : va_G} {tys : List (ClassId × FieldType)} {A : Nat → Prop} {ad : Nat → Nat} {cI cW cM : ClassId} {tI tW tM : Nat} {S : Nat → Nat → Nat} (hI : tys[tI]? = some (cI, .int)) (hWt : tys[tW]? = some (cW, .object "CubeWorlds$World")) (hMt : tys[tM]? = some (cM, .array .int)) (hWF : WF S) {a x : Int32} : Met l yX2_world wsX2_world ({ frames := 5, cells := 0, slots := 0, locals := 113 } : Room) (va_Pc [.ref (ad (0)), .int (a), .int (x)] (PW D tys A 33 ad (gE cI cW cM ad S))) (QW (some (.int (sC_world a x))) (PW D tys A 33 ad (gE cI cW cM ad (nC_world S a x))) A) 0 0 A := by
  refine g_writes (cc := cX2_world) (maxL := 6) (ret := (some .int)) (by decide) rfl (Nat.le_of_ble_eq_true rfl) ?_
  intro p e s m args below meth c hx hb hrt hts hown hlocks hml hP hK hD hS ls hl
  show W p l e ({ frames := 5, cells := 0, slots := 0, locals := 113 } : Room) s m args below meth c s.heap [] 0 0 _ _
  have hl : lv_has ls 6 [(0, .ref (ad (0))), (1, .int (a)), (2, .int (x))] := hl
  refine lv_aload_n hx hb dX2_world_0 rfl (lv_at hl 0 rfl) ?_
  refine lv_iload_n hx hb dX2_world_1 rfl (lv_at hl 1 rfl) ?_
  cases hs_2 : rB 0 3 a with
  | false =>
    refine g_callV (0) (C := RX2) (T := TX2) (N := 7) (ci := 1) (As := [.int (a)]) (rest := []) (c_X2_worldIn_n l hI hWt hMt hWF hs_2) (cwV 1 hts gX2_world_X2_worldIn rfl rfl rfl (by decide +kernel) ⟨Nat.le_of_ble_eq_true rfl, Nat.le_of_ble_eq_true rfl⟩) hx hb hml hown hts hK hP  (by decide) rfl rfl rfl hl.1 rfl (Nat.le_of_ble_eq_true rfl) (Nat.zero_le _) (Nat.zero_le _) dX2_world_2 ?_
    refine lv_astore_nN (lv' := [(3, .null), (0, .ref (ad (0))), (1, .int (a)), (2, .int (x))]) hx hb dX2_world_5 rfl hl (by decide) rfl (fun ls hl => ?_)
    refine lv_aload_nN hx hb dX2_world_6 rfl (lv_at hl 0 rfl) ?_
    refine lv_ifnonnullN hx hb dX2_world_7 ?_
    refine lv_iconst (v := (-1)) hx hb dX2_world_10 (by decide) ?_
    have hP : va_P D vwCl (pic 33 ad (gE cI cW cM ad (nC_world S a x))) s.heap := by rw [show nC_world S a x = S from by unfold nC_world; (try dsimp only [cN, cC, cM_]); rw [rg_n hs_2]]; exact hP
    exact g_iretW hx hb hrt hlocks hK hP (pic_D _ hD) hS dX2_world_11 (by unfold sC_world; (try dsimp only [cN, cC, cM_]); rw [rg_n hs_2])
  | true =>
    obtain ⟨k, hk1, hk2, e9⟩ := rB_some (by omega) (by omega) hs_2
    subst e9
    have hk9 : k < 4 := by omega
    have qk1 := (hWF.2.1 k hk9).1
    have qk2 := pow4 qk1.2.1
    have qk3 : 0 < 2 ^ S (13 + 3 * k) 0 := Nat.pow_pos (by decide)
    have qk4 := sq4 qk2
    refine g_callV (0) (C := RX2) (T := TX2) (N := 7) (ci := 1) (As := [.int (nI (k))]) (rest := []) (c_X2_worldIn_y l hI hWt hMt hWF (k := k) (by omega)) (cwV 1 hts gX2_world_X2_worldIn rfl rfl rfl (by decide +kernel) ⟨Nat.le_of_ble_eq_true rfl, Nat.le_of_ble_eq_true rfl⟩) hx hb hml hown hts hK hP  (by decide) rfl rfl rfl hl.1 rfl (Nat.le_of_ble_eq_true rfl) (Nat.zero_le _) (Nat.zero_le _) dX2_world_2 ?_
    refine lv_astore_n (lv' := [(3, .ref (ad (13 + 3 * k))), (0, .ref (ad (0))), (1, .int (nI (k))), (2, .int (x))]) hx hb dX2_world_5 rfl hl (by decide) rfl (fun ls hl => ?_)
    refine lv_aload_n hx hb dX2_world_6 rfl (lv_at hl 0 rfl) ?_
    refine lv_ifnonnull (tgt := 12) hx hb dX2_world_7 (by decide) ?_
    refine lv_iload_n hx hb dX2_world_12 rfl (lv_at hl 3 rfl) ?_
    refine g_callS (As := [.int (x)]) (rest := []) (c_X2_isSomeN l hI (x := x)) (va_cwS 1 hts gX2_world_X2_isSomeN rfl rfl rfl (by decide +kernel) ⟨Nat.le_of_ble_eq_true rfl, Nat.le_of_ble_eq_true rfl⟩) hx hb hml hown hts hK hP  rfl hl.1 rfl (Nat.le_of_ble_eq_true rfl) (Nat.zero_le _) (Nat.zero_le _) dX2_world_13 ?_
    refine n_ifne_b (tgt := 22) hx hb dX2_world_16 (by decide) (fun h_16 => ?_) (fun h_16 => ?_)
    · obtain ⟨N, hN1, hN2, e9⟩ := rB_some (by omega) (by omega) h_16
      subst e9
      have hP : va_P D vwCl (pic 33 ad (gE cI cW cM ad (va_up S 9 (cf (N) (fun _ _ => 0) (S 9) 0 0)))) s.heap := by rw [cf_00, va_up_same rfl]; exact hP
      refine n_iconst 0 hx hb dX2_world_22 ?_
      refine lv_istore (lv' := [(4, .int (nI (0))), (3, .ref (ad (13 + 3 * k))), (0, .ref (ad (0))), (1, .int (nI (k))), (2, .int (nI (N)))]) hx hb dX2_world_23 hl (by decide) rfl (fun ls hl => ?_)
      have L_25 : ∀ (r : Nat) (i : Nat), (i ≤ N) → (N < i + r) → ∀ (H : Heap) (locs : List Loc), va_P D vwCl (pic 33 ad (gE cI cW cM ad (va_up S 9 (cf (N) (fun _ _ => 0) (S 9) i 0)))) H → va_S A s.heap H locs → ∀ (ls : Array Slot), lv_has ls 6 [(0, .ref (ad (0))), (1, .int (nI (k))), (2, .int (nI (N))), (3, .ref (ad (13 + 3 * k))), (4, .int (nI (i)))] → W p l e ({ frames := 5, cells := 0, slots := 0, locals := 113 } : Room) s m args below meth c H locs 0 0 (MQ below (QW (some (.int (sC_world ((nI k)) ((nI N))))) (PW D tys A 33 ad (gE cI cW cM ad (nC_world S ((nI k)) ((nI N))))) A) args s 0 0 A) (F0 m 25 ls []) := by
        intro r
        induction r with
        | zero => intro i hi hr; intros; exact absurd hr (by omega)
        | succ r ih =>
          intro i hi hr H locs hP hS ls hl
          have ih_25 := ih
          refine lv_iload hx hb dX2_world_25 (lv_at hl 4 rfl) ?_
          refine lv_iload_n hx hb dX2_world_27 rfl (lv_at hl 2 rfl) ?_
          refine n_ge (tgt := 65) hx hb dX2_world_28 (by decide) (by omega) (by omega) (fun h_28 => ?_) (fun h_28 => ?_)
          · rw [show i = N by omega] at hP
            refine lv_aload_n hx hb dX2_world_65 rfl (lv_at hl 3 rfl) ?_
            refine lv_iload_n hx hb dX2_world_66 rfl (lv_at hl 2 rfl) ?_
            refine lv_aload_n hx hb dX2_world_67 rfl (lv_at hl 0 rfl) ?_
            refine g_get (0) 3 (C := RX2) (T := TX2) (N := 7) (ci := 1) (ref := "CubeWorlds") hx hb hts (by decide +kernel) hown hK hP (by decide) rfl rfl (by decide) (by decide +kernel) rfl rfl dX2_world_68 ?_
            refine g_callVW (13 + 3 * k) (C := RX1) (T := TX1) (N := 4) (ci := 0) (As := [.int (nI (N)), .ref (ad (9))]) (rest := []) (c_X1_take l hI (by omega) (gE_WS (S' := va_up S 9 (cf (N) (fun _ _ => 0) (S 9) N 0)) hk9 (hWF.2.1 k hk9) (by repeat rw [va_up_o (by omega)]) (by repeat rw [va_up_o (by omega)]) (by repeat rw [va_up_o (by omega)])) (K := N) (cx := 9) (e0 := cf (N) (fun _ _ => 0) (S 9) (N) 0) (by omega) (by decide) (by omega) (gIX 9 16 rfl (by decide) (va_up_at _ _ _))) (cwV 2 hts gX2_world_X1_take rfl rfl rfl (by decide +kernel) ⟨Nat.le_of_ble_eq_true rfl, Nat.le_of_ble_eq_true rfl⟩) hx hb hml hown hts hK hP (pic_D _ hD) hS  (by omega) (gE_obj (isO_w hk9)) rfl rfl hl.1 rfl (Nat.le_of_ble_eq_true rfl) (Nat.zero_le _) (Nat.zero_le _) dX2_world_71 (fun H locs hP hS => ?_)
            refine lv_aload_n hx hb dX2_world_74 rfl (lv_at hl 3 rfl) ?_
            refine g_callV (13 + 3 * k) (C := RX1) (T := TX1) (N := 4) (ci := 0) (As := []) (rest := []) (c_X1_size l hI (by omega) isW.up12) (cwV 0 hts gX2_world_X1_size rfl rfl rfl (by decide +kernel) ⟨Nat.le_of_ble_eq_true rfl, Nat.le_of_ble_eq_true rfl⟩) hx hb hml hown hts hK hP  (by omega) isW.up12.1 rfl rfl hl.1 rfl (Nat.le_of_ble_eq_true rfl) (Nat.zero_le _) (Nat.zero_le _) dX2_world_75 ?_
            have hP : va_P D vwCl (pic 33 ad (gE cI cW cM ad (nC_world S ((nI k)) ((nI N))))) H := by rw [show nC_world S ((nI k)) ((nI N)) = newW S k (N) (fun _ _ => 0) from by unfold nC_world; (try dsimp only [cN, cC, cM_]); rw [rg_y (by omega) (by omega) (by omega), rg_y (by omega) (by omega) (by omega)]]; unfold newW; rw [← gE_take (isO_w hk9) (ln_c hk9) (ln_t hk9), va_up_o (show 13 + 3 * k + 1 ≠ 9 by omega), va_up_o (show 13 + 3 * k + 2 ≠ 9 by omega)]; exact hP
            exact g_iretW hx hb hrt hlocks hK hP (pic_D _ hD) hS dX2_world_78 (by unfold sC_world; (try dsimp only [cN, cC, cM_]); rw [rg_y (by omega) (by omega) (by omega), rg_y (by omega) (by omega) (by omega)])
          · refine n_iconst 0 hx hb dX2_world_31 ?_
            refine lv_istore (lv' := [(5, .int (nI (0))), (0, .ref (ad (0))), (1, .int (nI (k))), (2, .int (nI (N))), (3, .ref (ad (13 + 3 * k))), (4, .int (nI (i)))]) hx hb dX2_world_32 hl (by decide) rfl (fun ls hl => ?_)
            have L_34 : ∀ (r : Nat) (j : Nat), (j ≤ N) → (N < j + r) → ∀ (H : Heap) (locs : List Loc), va_P D vwCl (pic 33 ad (gE cI cW cM ad (va_up S 9 (cf (N) (fun _ _ => 0) (S 9) i j)))) H → va_S A s.heap H locs → ∀ (ls : Array Slot), lv_has ls 6 [(0, .ref (ad (0))), (1, .int (nI (k))), (2, .int (nI (N))), (3, .ref (ad (13 + 3 * k))), (4, .int (nI (i))), (5, .int (nI (j)))] → W p l e ({ frames := 5, cells := 0, slots := 0, locals := 113 } : Room) s m args below meth c H locs 0 0 (MQ below (QW (some (.int (sC_world ((nI k)) ((nI N))))) (PW D tys A 33 ad (gE cI cW cM ad (nC_world S ((nI k)) ((nI N))))) A) args s 0 0 A) (F0 m 34 ls []) := by
              intro r
              induction r with
              | zero => intro j hj hr2; intros; exact absurd hr2 (by omega)
              | succ r ih =>
                intro j hj hr2 H locs hP hS ls hl
                have ih_34 := ih
                refine lv_iload hx hb dX2_world_34 (lv_at hl 5 rfl) ?_
                refine lv_iload_n hx hb dX2_world_36 rfl (lv_at hl 2 rfl) ?_
                refine n_ge (tgt := 59) hx hb dX2_world_37 (by decide) (by omega) (by omega) (fun h_37 => ?_) (fun h_37 => ?_)
                · rw [show j = N by omega, cf_row] at hP
                  refine n_iinc 4 1 (lv' := [(4, .int (nI (i + 1))), (0, .ref (ad (0))), (1, .int (nI (k))), (2, .int (nI (N))), (3, .ref (ad (13 + 3 * k))), (5, .int (nI (j)))]) hx hb dX2_world_59 hl rfl (by decide) rfl (fun ls hl => ?_)
                  refine n_goto 25 hx hb dX2_world_62 (by decide) ?_
                  exact ih_25 (i + 1) (by omega) (by omega) _ _ hP hS _ (lv_sub hl [1, 2, 3, 4, 0] rfl)
                · refine lv_aload_n hx hb dX2_world_40 rfl (lv_at hl 0 rfl) ?_
                  refine g_get (0) 3 (C := RX2) (T := TX2) (N := 7) (ci := 1) (ref := "CubeWorlds") hx hb hts (by decide +kernel) hown hK hP (by decide) rfl rfl (by decide) (by decide +kernel) rfl rfl dX2_world_41 ?_
                  refine lv_iload hx hb dX2_world_44 (lv_at hl 4 rfl) ?_
                  refine lv_iload hx hb dX2_world_46 (lv_at hl 5 rfl) ?_
                  refine g_callS (As := [.int (nI (i)), .int (nI (j))]) (rest := [.ref (ad (9))]) (c_X2_cellIndex l hI (by omega) (gE_WS (S' := va_up S 9 (cf (N) (fun _ _ => 0) (S 9) i j)) hk9 (hWF.2.1 k hk9) (by repeat rw [va_up_o (by omega)]) (by repeat rw [va_up_o (by omega)]) (by repeat rw [va_up_o (by omega)])) (I := i) (J := j) (by omega) (by omega)) (va_cwS 2 hts gX2_world_X2_cellIndex rfl rfl rfl (by decide +kernel) ⟨Nat.le_of_ble_eq_true rfl, Nat.le_of_ble_eq_true rfl⟩) hx hb hml hown hts hK hP  rfl hl.1 rfl (Nat.le_of_ble_eq_true rfl) (Nat.zero_le _) (Nat.zero_le _) dX2_world_48 ?_
                  refine n_iconst 0 hx hb dX2_world_51 ?_
                  refine g_iast (9) (4 * i + j) (0) hx hb hK hP (pic_D _ hD) hS (by decide) (gIX (S' := va_up S 9 (cf (N) (fun _ _ => 0) (S 9) i j)) 9 16 rfl (by decide) (by exact va_up_at _ _ _)) hI (by omega) (by decide) dX2_world_52 (fun H locs hP hS => ?_)
                  rw [gE_upL 9 16 rfl (by decide), va_up_up, cf_put (by omega) (by omega)] at hP
                  refine n_iinc 5 1 (lv' := [(5, .int (nI (j + 1))), (0, .ref (ad (0))), (1, .int (nI (k))), (2, .int (nI (N))), (3, .ref (ad (13 + 3 * k))), (4, .int (nI (i)))]) hx hb dX2_world_53 hl rfl (by decide) rfl (fun ls hl => ?_)
                  refine n_goto 34 hx hb dX2_world_56 (by decide) ?_
                  exact ih_34 (j + 1) (by omega) (by omega) _ _ hP hS _ (lv_sub hl [1, 2, 3, 4, 5, 0] rfl)
            exact L_34 (N + 1) (0) (Nat.zero_le _) (by omega) _ _ hP hS _ (lv_sub hl [1, 2, 3, 4, 5, 0] rfl)
      exact L_25 (N + 1) (0) (Nat.zero_le _) (by omega) _ _ hP hS _ (lv_sub hl [2, 3, 4, 1, 0] rfl)
    · refine lv_bipush (v := (-2)) hx hb dX2_world_19 (by decide) ?_
      have hP : va_P D vwCl (pic 33 ad (gE cI cW cM ad (nC_world S ((nI k)) x))) s.heap := by rw [show nC_world S ((nI k)) x = S from by unfold nC_world; (try dsimp only [cN, cC, cM_]); rw [rg_y (by omega) (by omega) (by omega), rg_n h_16]]; exact hP
      exact g_iretW hx hb hrt hlocks hK hP (pic_D _ hD) hS dX2_world_21 (by unfold sC_world; (try dsimp only [cN, cC, cM_]); rw [rg_y (by omega) (by omega) (by omega), rg_n h_16])
set_option maxHeartbeats 4000000 in
set_option maxRecDepth 100000 in
theorem c_X2_allMapsFit (l : Launch) {D : va_G} {tys : List (ClassId × FieldType)} {ad : Nat → Nat} {cI cW cM : ClassId} {tI tW tM : Nat} {S : Nat → Nat → Nat} (hI : tys[tI]? = some (cI, .int)) (hWt : tys[tW]? = some (cW, .object "CubeWorlds$World")) (hMt : tys[tM]? = some (cM, .array .int)) (hWF : WF S) {N : Nat} (hN : N ≤ 4) : Met l yX2_allMapsFit wsX2_allMapsFit ({ frames := 2, cells := 0, slots := 0, locals := 48 } : Room) (va_Pc [.ref (ad (0)), .int (nI (N))] (PB D tys 33 ad (gE cI cW cM ad S))) (k2_QcV (.int (bI (amf (cM_ S) N)))) 0 0 (fun _ => False) := by
  refine g_pure (cc := cX2_allMapsFit) (maxL := 3) (ret := (some .boolean)) (by decide) rfl (Nat.le_of_ble_eq_true rfl) ?_
  intro p e s m args below meth c hx hb hrt hts hown hlocks hml hP hK ls hl
  show W p l e ({ frames := 2, cells := 0, slots := 0, locals := 48 } : Room) s m args below meth c s.heap [] 0 0 _ _
  have hl : lv_has ls 3 [(0, .ref (ad (0))), (1, .int (nI (N)))] := hl
  refine n_iconst 0 hx hb dX2_allMapsFit_0 ?_
  refine lv_istore_n (lv' := [(2, .int (nI (0))), (0, .ref (ad (0))), (1, .int (nI (N)))]) hx hb dX2_allMapsFit_1 rfl hl (by decide) rfl (fun ls hl => ?_)
  have L_2 : ∀ (r : Nat) (g : Nat), (g ≤ 3) → (3 < g + r) → (∀ k, k < g → fitB (cM_ S k) N = true) → ∀ (ls : Array Slot), lv_has ls 3 [(0, .ref (ad (0))), (1, .int (nI (N))), (2, .int (nI (g)))] → W p l e ({ frames := 2, cells := 0, slots := 0, locals := 48 } : Room) s m args below meth c s.heap [] 0 0 (MQ below (k2_QcV (.int (bI (amf (cM_ S) N)))) args s 0 0 (fun _ => False)) (F0 m 2 ls []) := by
    intro r
    induction r with
    | zero => intro g hg hr hno; intros; exact absurd hr (by omega)
    | succ r ih =>
      intro g hg hr hno ls hl
      have ih_2 := ih
      refine lv_iload_n hx hb dX2_allMapsFit_2 rfl (lv_at hl 2 rfl) ?_
      refine lv_aload_n hx hb dX2_allMapsFit_3 rfl (lv_at hl 0 rfl) ?_
      refine g_get (0) 1 (C := RX2) (T := TX2) (N := 7) (ci := 1) (ref := "CubeWorlds") hx hb hts (by decide +kernel) hown hK hP (by decide) rfl rfl (by decide) (by decide +kernel) rfl rfl dX2_allMapsFit_4 ?_
      refine g_alen (2) hx hb hK hP (by decide) rfl hMt dX2_allMapsFit_7 ?_
      refine n_ge (tgt := 32) hx hb dX2_allMapsFit_8 (by decide) (by omega) (by omega) (fun h_8 => ?_) (fun h_8 => ?_)
      · refine n_iconst 1 hx hb dX2_allMapsFit_32 ?_
        exact g_zret (true) hx hb hrt hlocks dX2_allMapsFit_33 rfl (by rw [show amf (cM_ S) N = true from al_yes (fun k hk => hno k (by omega))])
      · refine lv_aload_n hx hb dX2_allMapsFit_11 rfl (lv_at hl 0 rfl) ?_
        refine g_get (0) 1 (C := RX2) (T := TX2) (N := 7) (ci := 1) (ref := "CubeWorlds") hx hb hts (by decide +kernel) hown hK hP (by decide) rfl rfl (by decide) (by decide +kernel) rfl rfl dX2_allMapsFit_12 ?_
        refine lv_iload_n hx hb dX2_allMapsFit_15 rfl (lv_at hl 2 rfl) ?_
        refine g_aaldA (2) (g) hx hb hK hP (by decide) rfl hMt (by omega) (by decide) (if_pos (by omega)) dX2_allMapsFit_16 ?_
        refine lv_iload_n hx hb dX2_allMapsFit_17 rfl (lv_at hl 1 rfl) ?_
        refine g_callS (As := [.ref (ad (3 + g)), .int (nI (N))]) (rest := []) (c_X2_isFit l hI (rI := 3 + g) (f := S (3 + g)) (by omega) (gI _ 4 (ln_m (by omega)) (by decide)) (nn := N) hN (fun x _ => im16 (fun i hi => hWF.2.2 g (by omega) i hi) x)) (va_cwS 2 hts gX2_allMapsFit_X2_isFit rfl rfl rfl (by decide +kernel) ⟨Nat.le_of_ble_eq_true rfl, Nat.le_of_ble_eq_true rfl⟩) hx hb hml hown hts hK hP  rfl hl.1 rfl (Nat.le_of_ble_eq_true rfl) (Nat.zero_le _) (Nat.zero_le _) dX2_allMapsFit_18 ?_
        refine n_ifne_b (tgt := 26) hx hb dX2_allMapsFit_21 (by decide) (fun h_21 => ?_) (fun h_21 => ?_)
        · refine n_iinc 2 1 (lv' := [(2, .int (nI (g + 1))), (0, .ref (ad (0))), (1, .int (nI (N)))]) hx hb dX2_allMapsFit_26 hl rfl (by decide) rfl (fun ls hl => ?_)
          refine n_goto 2 hx hb dX2_allMapsFit_29 (by decide) ?_
          exact ih_2 (g + 1) (by omega) (by omega) (ya_s hno h_21) _ (lv_sub hl [1, 2, 0] rfl)
        · refine n_iconst 0 hx hb dX2_allMapsFit_24 ?_
          exact g_zret (false) hx hb hrt hlocks dX2_allMapsFit_25 rfl (by rw [show amf (cM_ S) N = false from al_no (k := g) (by omega) h_21])
  exact L_2 4 (0) (Nat.zero_le _) (by omega) (fun j h => absurd h (by omega)) _ (lv_sub hl [1, 2, 0] rfl)
set_option maxHeartbeats 4000000 in
set_option maxRecDepth 100000 in
theorem c_X2_mapsCarry (l : Launch) {D : va_G} {tys : List (ClassId × FieldType)} {ad : Nat → Nat} {cI cW cM : ClassId} {tI tW tM : Nat} {S : Nat → Nat → Nat} (hI : tys[tI]? = some (cI, .int)) (hWt : tys[tW]? = some (cW, .object "CubeWorlds$World")) (hMt : tys[tM]? = some (cM, .array .int)) (hWF : WF S) {k u : Nat} (hk9 : k < 4) (hu9 : u < 4) (hnn : S (13 + 3 * k) 0 = S (13 + 3 * u) 0) (hfit : amf (cM_ S) (S (13 + 3 * k) 0) = true) : Met l yX2_mapsCarry wsX2_mapsCarry ({ frames := 2, cells := 0, slots := 0, locals := 43 } : Room) (va_Pc [.ref (ad (0)), .ref (ad (13 + 3 * k)), .ref (ad (13 + 3 * u))] (PB D tys 33 ad (gE cI cW cM ad S))) (k2_QcV (.int (bI (mcS (S (13 + 3 * k) 0) (S (13 + 3 * k + 1)) (S (13 + 3 * u + 1)) (cM_ S))))) 0 0 (fun _ => False) := by
  have qk1 := (hWF.2.1 k hk9).1
  have qk2 := pow4 qk1.2.1
  have qk6 : 2 ^ S (13 + 3 * k) 0 = 2 ^ S (13 + 3 * u) 0 := by rw [hnn]
  have f0 := fun x hx => fit_lt (x := x) (amf_m hfit (m := 0) (by decide)) hx
  have f1 := fun x hx => fit_lt (x := x) (amf_m hfit (m := 1) (by decide)) hx
  refine g_pure (cc := cX2_mapsCarry) (maxL := 6) (ret := (some .boolean)) (by decide) rfl (Nat.le_of_ble_eq_true rfl) ?_
  intro p e s m args below meth c hx hb hrt hts hown hlocks hml hP hK ls hl
  show W p l e ({ frames := 2, cells := 0, slots := 0, locals := 43 } : Room) s m args below meth c s.heap [] 0 0 _ _
  have hl : lv_has ls 6 [(0, .ref (ad (0))), (1, .ref (ad (13 + 3 * k))), (2, .ref (ad (13 + 3 * u)))] := hl
  refine n_iconst 0 hx hb dX2_mapsCarry_0 ?_
  refine lv_istore_n (lv' := [(3, .int (nI (0))), (0, .ref (ad (0))), (1, .ref (ad (13 + 3 * k))), (2, .ref (ad (13 + 3 * u)))]) hx hb dX2_mapsCarry_1 rfl hl (by decide) rfl (fun ls hl => ?_)
  have L_2 : ∀ (r : Nat) (i : Nat), (i ≤ S (13 + 3 * k) 0) → (S (13 + 3 * k) 0 < i + r) → (∀ p, p < i → al (fun j => tm (S (13 + 3 * k) 0) (S (13 + 3 * u + 1)) (im (cM_ S 0) (1 <<< p)) (im (cM_ S 1) (1 <<< j)) == im (cM_ S 2) (tm (S (13 + 3 * k) 0) (S (13 + 3 * k + 1)) (1 <<< p) (1 <<< j))) (S (13 + 3 * k) 0) = true) → ∀ (ls : Array Slot), lv_has ls 6 [(0, .ref (ad (0))), (1, .ref (ad (13 + 3 * k))), (2, .ref (ad (13 + 3 * u))), (3, .int (nI (i)))] → W p l e ({ frames := 2, cells := 0, slots := 0, locals := 43 } : Room) s m args below meth c s.heap [] 0 0 (MQ below (k2_QcV (.int (bI (mcS (S (13 + 3 * k) 0) (S (13 + 3 * k + 1)) (S (13 + 3 * u + 1)) (cM_ S))))) args s 0 0 (fun _ => False)) (F0 m 2 ls []) := by
    intro r
    induction r with
    | zero => intro i hi hr hno; intros; exact absurd hr (by omega)
    | succ r ih =>
      intro i hi hr hno ls hl
      have ih_2 := ih
      refine lv_iload_n hx hb dX2_mapsCarry_2 rfl (lv_at hl 3 rfl) ?_
      refine lv_aload_n hx hb dX2_mapsCarry_3 rfl (lv_at hl 1 rfl) ?_
      refine g_callV (13 + 3 * k) (C := RX1) (T := TX1) (N := 4) (ci := 0) (As := []) (rest := [.int (nI (i))]) (c_X1_bits l hI (by omega) (gE_W hk9 (hWF.2.1 k hk9))) (cwV 0 hts gX2_mapsCarry_X1_bits rfl rfl rfl (by decide +kernel) ⟨Nat.le_of_ble_eq_true rfl, Nat.le_of_ble_eq_true rfl⟩) hx hb hml hown hts hK hP  (by omega) (gE_obj (isO_w hk9)) rfl rfl hl.1 rfl (Nat.le_of_ble_eq_true rfl) (Nat.zero_le _) (Nat.zero_le _) dX2_mapsCarry_4 ?_
      refine n_ge (tgt := 92) hx hb dX2_mapsCarry_7 (by decide) (by omega) (by omega) (fun h_7 => ?_) (fun h_7 => ?_)
      · refine n_iconst 1 hx hb dX2_mapsCarry_92 ?_
        exact g_zret (true) hx hb hrt hlocks dX2_mapsCarry_93 rfl (by rw [show mcS _ _ _ (cM_ S) = true from al_yes (fun q hq => hno q (by omega))])
      · refine n_iconst 0 hx hb dX2_mapsCarry_10 ?_
        refine lv_istore (lv' := [(4, .int (nI (0))), (0, .ref (ad (0))), (1, .ref (ad (13 + 3 * k))), (2, .ref (ad (13 + 3 * u))), (3, .int (nI (i)))]) hx hb dX2_mapsCarry_11 hl (by decide) rfl (fun ls hl => ?_)
        have L_13 : ∀ (r : Nat) (j : Nat), (j ≤ S (13 + 3 * k) 0) → (S (13 + 3 * k) 0 < j + r) → (∀ q, q < j → (tm (S (13 + 3 * k) 0) (S (13 + 3 * u + 1)) (im (cM_ S 0) (1 <<< i)) (im (cM_ S 1) (1 <<< q)) == im (cM_ S 2) (tm (S (13 + 3 * k) 0) (S (13 + 3 * k + 1)) (1 <<< i) (1 <<< q))) = true) → ∀ (ls : Array Slot), lv_has ls 6 [(0, .ref (ad (0))), (1, .ref (ad (13 + 3 * k))), (2, .ref (ad (13 + 3 * u))), (3, .int (nI (i))), (4, .int (nI (j)))] → W p l e ({ frames := 2, cells := 0, slots := 0, locals := 43 } : Room) s m args below meth c s.heap [] 0 0 (MQ below (k2_QcV (.int (bI (mcS (S (13 + 3 * k) 0) (S (13 + 3 * k + 1)) (S (13 + 3 * u + 1)) (cM_ S))))) args s 0 0 (fun _ => False)) (F0 m 13 ls []) := by
          intro r
          induction r with
          | zero => intro j hj hr2 hno2; intros; exact absurd hr2 (by omega)
          | succ r ih =>
            intro j hj hr2 hno2 ls hl
            have ih_13 := ih
            refine lv_iload hx hb dX2_mapsCarry_13 (lv_at hl 4 rfl) ?_
            refine lv_aload_n hx hb dX2_mapsCarry_15 rfl (lv_at hl 1 rfl) ?_
            refine g_callV (13 + 3 * k) (C := RX1) (T := TX1) (N := 4) (ci := 0) (As := []) (rest := [.int (nI (j))]) (c_X1_bits l hI (by omega) (gE_W hk9 (hWF.2.1 k hk9))) (cwV 0 hts gX2_mapsCarry_X1_bits rfl rfl rfl (by decide +kernel) ⟨Nat.le_of_ble_eq_true rfl, Nat.le_of_ble_eq_true rfl⟩) hx hb hml hown hts hK hP  (by omega) (gE_obj (isO_w hk9)) rfl rfl hl.1 rfl (Nat.le_of_ble_eq_true rfl) (Nat.zero_le _) (Nat.zero_le _) dX2_mapsCarry_16 ?_
            refine n_ge (tgt := 86) hx hb dX2_mapsCarry_19 (by decide) (by omega) (by omega) (fun h_19 => ?_) (fun h_19 => ?_)
            · refine n_iinc 3 1 (lv' := [(3, .int (nI (i + 1))), (0, .ref (ad (0))), (1, .ref (ad (13 + 3 * k))), (2, .ref (ad (13 + 3 * u))), (4, .int (nI (j)))]) hx hb dX2_mapsCarry_86 hl rfl (by decide) rfl (fun ls hl => ?_)
              refine n_goto 2 hx hb dX2_mapsCarry_89 (by decide) ?_
              exact ih_2 (i + 1) (by omega) (by omega) (ya_s hno (al_yes (fun q hq => hno2 q (by omega)))) _ (lv_sub hl [1, 2, 3, 0] rfl)
            · have s1 := shl1_lt (k := i) (n := S (13 + 3 * k) 0) (by omega)
              have s2 := shl1_lt (k := j) (n := S (13 + 3 * k) 0) (by omega)
              have f2 : im (S (3 + 0)) (1 <<< i) < 2 ^ S (13 + 3 * k) 0 := f0 _ s1
              have f3 : im (S (3 + 1)) (1 <<< j) < 2 ^ S (13 + 3 * k) 0 := f1 _ s2
              have t1 := tm_lt (hWF.2.1 k hk9).2.1 (1 <<< i) (1 <<< j)
              have t2 := tm_lt (hWF.2.1 u hu9).2.1 (im (S (3 + 0)) (1 <<< i)) (im (S (3 + 1)) (1 <<< j))
              have t3 := im16 (fun i hi => hWF.2.2 2 (by decide) i hi) (tm (S (13 + 3 * k) 0) (S (13 + 3 * k + 1)) (1 <<< i) (1 <<< j))
              refine lv_aload_n hx hb dX2_mapsCarry_22 rfl (lv_at hl 2 rfl) ?_
              refine lv_aload_n hx hb dX2_mapsCarry_23 rfl (lv_at hl 0 rfl) ?_
              refine g_get (0) 1 (C := RX2) (T := TX2) (N := 7) (ci := 1) (ref := "CubeWorlds") hx hb hts (by decide +kernel) hown hK hP (by decide) rfl rfl (by decide) (by decide +kernel) rfl rfl dX2_mapsCarry_24 ?_
              refine n_iconst 0 hx hb dX2_mapsCarry_27 ?_
              refine g_aaldA (2) (0) hx hb hK hP (by decide) rfl hMt (by decide) (by decide) rfl dX2_mapsCarry_28 ?_
              refine n_iconst 1 hx hb dX2_mapsCarry_29 ?_
              refine lv_iload_n hx hb dX2_mapsCarry_30 rfl (lv_at hl 3 rfl) ?_
              refine n_ishl hx hb dX2_mapsCarry_31 (by omega) ?_
              refine g_callS (As := [.ref (ad (3 + 0)), .int (nI (1 <<< i))]) (rest := [.ref (ad (13 + 3 * u))]) (c_X2_sumOf l hI (rI := 3 + 0) (f := S (3 + 0)) (by omega) (gI _ 4 (ln_m (by omega)) (by decide)) (X := 1 <<< i) (by omega)) (va_cwS 2 hts gX2_mapsCarry_X2_sumOf rfl rfl rfl (by decide +kernel) ⟨Nat.le_of_ble_eq_true rfl, Nat.le_of_ble_eq_true rfl⟩) hx hb hml hown hts hK hP  rfl hl.1 rfl (Nat.le_of_ble_eq_true rfl) (Nat.zero_le _) (Nat.zero_le _) dX2_mapsCarry_32 ?_
              refine lv_aload_n hx hb dX2_mapsCarry_35 rfl (lv_at hl 0 rfl) ?_
              refine g_get (0) 1 (C := RX2) (T := TX2) (N := 7) (ci := 1) (ref := "CubeWorlds") hx hb hts (by decide +kernel) hown hK hP (by decide) rfl rfl (by decide) (by decide +kernel) rfl rfl dX2_mapsCarry_36 ?_
              refine n_iconst 1 hx hb dX2_mapsCarry_39 ?_
              refine g_aaldA (2) (1) hx hb hK hP (by decide) rfl hMt (by decide) (by decide) rfl dX2_mapsCarry_40 ?_
              refine n_iconst 1 hx hb dX2_mapsCarry_41 ?_
              refine lv_iload hx hb dX2_mapsCarry_42 (lv_at hl 4 rfl) ?_
              refine n_ishl hx hb dX2_mapsCarry_44 (by omega) ?_
              refine g_callS (As := [.ref (ad (3 + 1)), .int (nI (1 <<< j))]) (rest := [.int (nI (im (S (3 + 0)) (1 <<< i))), .ref (ad (13 + 3 * u))]) (c_X2_sumOf l hI (rI := 3 + 1) (f := S (3 + 1)) (by omega) (gI _ 4 (ln_m (by omega)) (by decide)) (X := 1 <<< j) (by omega)) (va_cwS 2 hts gX2_mapsCarry_X2_sumOf rfl rfl rfl (by decide +kernel) ⟨Nat.le_of_ble_eq_true rfl, Nat.le_of_ble_eq_true rfl⟩) hx hb hml hown hts hK hP  rfl hl.1 rfl (Nat.le_of_ble_eq_true rfl) (Nat.zero_le _) (Nat.zero_le _) dX2_mapsCarry_45 ?_
              refine g_callV (13 + 3 * u) (C := RX1) (T := TX1) (N := 4) (ci := 0) (As := [.int (nI (im (S (3 + 0)) (1 <<< i))), .int (nI (im (S (3 + 1)) (1 <<< j)))]) (rest := []) (c_X1_times l hI (by omega) (gE_W hu9 (hWF.2.1 u hu9)) (X := im (S (3 + 0)) (1 <<< i)) (Y := im (S (3 + 1)) (1 <<< j)) (hWF.2.1 u hu9).2.2 (hWF.2.1 u hu9).1.2.1 (by omega) (by omega)) (cwV 2 hts gX2_mapsCarry_X1_times rfl rfl rfl (by decide +kernel) ⟨Nat.le_of_ble_eq_true rfl, Nat.le_of_ble_eq_true rfl⟩) hx hb hml hown hts hK hP  (by omega) (gE_obj (isO_w hu9)) rfl rfl hl.1 rfl (Nat.le_of_ble_eq_true rfl) (Nat.zero_le _) (Nat.zero_le _) dX2_mapsCarry_48 ?_
              refine n_eq (show nI (tm (S (13 + 3 * u) 0) (S (13 + 3 * u + 1)) (im (S (3 + 0)) (1 <<< i)) (im (S (3 + 1)) (1 <<< j))) = nI (tm (S (13 + 3 * k) 0) (S (13 + 3 * u + 1)) (im (S (3 + 0)) (1 <<< i)) (im (S (3 + 1)) (1 <<< j))) from by rw [hnn]) ?_
              refine lv_istore (lv' := [(5, .int (nI (tm (S (13 + 3 * k) 0) (S (13 + 3 * u + 1)) (im (S (3 + 0)) (1 <<< i)) (im (S (3 + 1)) (1 <<< j))))), (0, .ref (ad (0))), (1, .ref (ad (13 + 3 * k))), (2, .ref (ad (13 + 3 * u))), (3, .int (nI (i))), (4, .int (nI (j)))]) hx hb dX2_mapsCarry_51 hl (by decide) rfl (fun ls hl => ?_)
              have t4 := hnn ▸ t2
              refine lv_iload hx hb dX2_mapsCarry_53 (lv_at hl 0 rfl) ?_
              refine lv_aload_n hx hb dX2_mapsCarry_55 rfl (lv_at hl 1 rfl) ?_
              refine g_get (0) 1 (C := RX2) (T := TX2) (N := 7) (ci := 1) (ref := "CubeWorlds") hx hb hts (by decide +kernel) hown hK hP (by decide) rfl rfl (by decide) (by decide +kernel) rfl rfl dX2_mapsCarry_56 ?_
              refine n_iconst 2 hx hb dX2_mapsCarry_59 ?_
              refine g_aaldA (2) (2) hx hb hK hP (by decide) rfl hMt (by decide) (by decide) rfl dX2_mapsCarry_60 ?_
              refine lv_aload_n hx hb dX2_mapsCarry_61 rfl (lv_at hl 2 rfl) ?_
              refine n_iconst 1 hx hb dX2_mapsCarry_62 ?_
              refine lv_iload_n hx hb dX2_mapsCarry_63 rfl (lv_at hl 4 rfl) ?_
              refine n_ishl hx hb dX2_mapsCarry_64 (by omega) ?_
              refine n_iconst 1 hx hb dX2_mapsCarry_65 ?_
              refine lv_iload hx hb dX2_mapsCarry_66 (lv_at hl 5 rfl) ?_
              refine n_ishl hx hb dX2_mapsCarry_68 (by omega) ?_
              refine g_callV (13 + 3 * k) (C := RX1) (T := TX1) (N := 4) (ci := 0) (As := [.int (nI (1 <<< i)), .int (nI (1 <<< j))]) (rest := [.ref (ad (3 + 2)), .int (nI (tm (S (13 + 3 * k) 0) (S (13 + 3 * u + 1)) (im (S (3 + 0)) (1 <<< i)) (im (S (3 + 1)) (1 <<< j))))]) (c_X1_times l hI (by omega) (gE_W hk9 (hWF.2.1 k hk9)) (X := 1 <<< i) (Y := 1 <<< j) (hWF.2.1 k hk9).2.2 (hWF.2.1 k hk9).1.2.1 (by omega) (by omega)) (cwV 2 hts gX2_mapsCarry_X1_times rfl rfl rfl (by decide +kernel) ⟨Nat.le_of_ble_eq_true rfl, Nat.le_of_ble_eq_true rfl⟩) hx hb hml hown hts hK hP  (by omega) (gE_obj (isO_w hk9)) rfl rfl hl.1 rfl (Nat.le_of_ble_eq_true rfl) (Nat.zero_le _) (Nat.zero_le _) dX2_mapsCarry_69 ?_
              refine g_callS (As := [.ref (ad (3 + 2)), .int (nI (tm (S (13 + 3 * k) 0) (S (13 + 3 * k + 1)) (1 <<< i) (1 <<< j)))]) (rest := [.int (nI (tm (S (13 + 3 * k) 0) (S (13 + 3 * u + 1)) (im (S (3 + 0)) (1 <<< i)) (im (S (3 + 1)) (1 <<< j))))]) (c_X2_sumOf l hI (rI := 3 + 2) (f := S (3 + 2)) (by omega) (gI _ 4 (ln_m (by omega)) (by decide)) (X := tm (S (13 + 3 * k) 0) (S (13 + 3 * k + 1)) (1 <<< i) (1 <<< j)) (by omega)) (va_cwS 2 hts gX2_mapsCarry_X2_sumOf rfl rfl rfl (by decide +kernel) ⟨Nat.le_of_ble_eq_true rfl, Nat.le_of_ble_eq_true rfl⟩) hx hb hml hown hts hK hP  rfl hl.1 rfl (Nat.le_of_ble_eq_true rfl) (Nat.zero_le _) (Nat.zero_le _) dX2_mapsCarry_72 ?_
              refine n_ceq (tgt := 80) hx hb dX2_mapsCarry_75 (by decide) (by omega) (by omega) (fun h_75 => ?_) (fun h_75 => ?_)
              · refine n_iinc 5 1 (lv' := [(4, .int (nI (j + 1))), (5, .int (nI (tm (S (13 + 3 * k) 0) (S (13 + 3 * u + 1)) (im (S (3 + 0)) (1 <<< i)) (im (S (3 + 1)) (1 <<< j))))), (0, .ref (ad (0))), (1, .ref (ad (13 + 3 * k))), (2, .ref (ad (13 + 3 * u))), (3, .int (nI (i)))]) hx hb dX2_mapsCarry_80 hl rfl (by decide) rfl (fun ls hl => ?_)
                refine n_goto 13 hx hb dX2_mapsCarry_83 (by decide) ?_
                exact ih_13 (j + 1) (by omega) (by omega) (ya_s hno2 (bT h_75)) _ (lv_sub hl [2, 3, 4, 5, 0] rfl)
              · refine n_iconst 0 hx hb dX2_mapsCarry_78 ?_
                exact g_zret (false) hx hb hrt hlocks dX2_mapsCarry_79 rfl (by rw [show mcS _ _ _ (cM_ S) = false from al_no (k := i) (by omega) (al_no (k := j) (by omega) (bF h_75))])
        exact L_13 (S (13 + 3 * k) 0 + 1) (0) (Nat.zero_le _) (by omega) (fun j h => absurd h (by omega)) _ (lv_sub hl [1, 2, 3, 4, 0] rfl)
  exact L_2 (S (13 + 3 * k) 0 + 1) (0) (Nat.zero_le _) (by omega) (fun j h => absurd h (by omega)) _ (lv_sub hl [1, 2, 3, 0] rfl)
set_option maxHeartbeats 4000000 in
set_option maxRecDepth 100000 in
theorem c_X2_alike (l : Launch) {D : va_G} {tys : List (ClassId × FieldType)} {ad : Nat → Nat} {cI cW cM : ClassId} {tI tW tM : Nat} {S : Nat → Nat → Nat} (hI : tys[tI]? = some (cI, .int)) (hWt : tys[tW]? = some (cW, .object "CubeWorlds$World")) (hMt : tys[tM]? = some (cM, .array .int)) (hWF : WF S) {a b0 : Int32} : Met l yX2_alike wsX2_alike ({ frames := 3, cells := 0, slots := 0, locals := 70 } : Room) (va_Pc [.ref (ad (0)), .int (a), .int (b0)] (PB D tys 33 ad (gE cI cW cM ad S))) (k2_QcV (.int (sC_alike (cN S) (cC S) (cM_ S) a b0))) 0 0 (fun _ => False) := by
  refine g_pure (cc := cX2_alike) (maxL := 5) (ret := (some .int)) (by decide) rfl (Nat.le_of_ble_eq_true rfl) ?_
  intro p e s m args below meth c hx hb hrt hts hown hlocks hml hP hK ls hl
  show W p l e ({ frames := 3, cells := 0, slots := 0, locals := 70 } : Room) s m args below meth c s.heap [] 0 0 _ _
  have hl : lv_has ls 5 [(0, .ref (ad (0))), (1, .int (a)), (2, .int (b0))] := hl
  refine lv_aload_n hx hb dX2_alike_0 rfl (lv_at hl 0 rfl) ?_
  refine lv_iload_n hx hb dX2_alike_1 rfl (lv_at hl 1 rfl) ?_
  cases hs_2 : rB 0 3 a with
  | false =>
    refine g_callV (0) (C := RX2) (T := TX2) (N := 7) (ci := 1) (As := [.int (a)]) (rest := []) (c_X2_worldIn_n l hI hWt hMt hWF hs_2) (cwV 1 hts gX2_alike_X2_worldIn rfl rfl rfl (by decide +kernel) ⟨Nat.le_of_ble_eq_true rfl, Nat.le_of_ble_eq_true rfl⟩) hx hb hml hown hts hK hP  (by decide) rfl rfl rfl hl.1 rfl (Nat.le_of_ble_eq_true rfl) (Nat.zero_le _) (Nat.zero_le _) dX2_alike_2 ?_
    refine lv_astore_nN (lv' := [(3, .null), (0, .ref (ad (0))), (1, .int (a)), (2, .int (b0))]) hx hb dX2_alike_5 rfl hl (by decide) rfl (fun ls hl => ?_)
    refine lv_aload_n hx hb dX2_alike_6 rfl (lv_at hl 1 rfl) ?_
    refine lv_iload_n hx hb dX2_alike_7 rfl (lv_at hl 3 rfl) ?_
    cases hs_8 : rB 0 3 b0 with
    | false =>
      refine g_callV (0) (C := RX2) (T := TX2) (N := 7) (ci := 1) (As := [.int (b0)]) (rest := []) (c_X2_worldIn_n l hI hWt hMt hWF hs_8) (cwV 1 hts gX2_alike_X2_worldIn rfl rfl rfl (by decide +kernel) ⟨Nat.le_of_ble_eq_true rfl, Nat.le_of_ble_eq_true rfl⟩) hx hb hml hown hts hK hP  (by decide) rfl rfl rfl hl.1 rfl (Nat.le_of_ble_eq_true rfl) (Nat.zero_le _) (Nat.zero_le _) dX2_alike_8 ?_
      refine lv_astoreN (lv' := [(4, .null), (3, .null), (0, .ref (ad (0))), (1, .int (a)), (2, .int (b0))]) hx hb dX2_alike_11 hl (by decide) rfl (fun ls hl => ?_)
      refine lv_aload_nN hx hb dX2_alike_13 rfl (lv_at hl 1 rfl) ?_
      refine lv_ifnullN (tgt := 22) hx hb dX2_alike_14 (by decide) ?_
      refine lv_iconst (v := (-1)) hx hb dX2_alike_22 (by decide) ?_
      exact g_iret hx hb hrt hlocks dX2_alike_23 (by unfold sC_alike; dsimp only [cN, cC, cM_]; rw [rg_n hs_2])
    | true =>
      obtain ⟨u, hu1, hu2, e9⟩ := rB_some (by omega) (by omega) hs_8
      subst e9
      have hu9 : u < 4 := by omega
      have qu1 := (hWF.2.1 u hu9).1
      have qu2 := pow4 qu1.2.1
      have qu3 : 0 < 2 ^ S (13 + 3 * u) 0 := Nat.pow_pos (by decide)
      have qu4 := sq4 qu2
      refine g_callV (0) (C := RX2) (T := TX2) (N := 7) (ci := 1) (As := [.int (nI (u))]) (rest := []) (c_X2_worldIn_y l hI hWt hMt hWF (k := u) (by omega)) (cwV 1 hts gX2_alike_X2_worldIn rfl rfl rfl (by decide +kernel) ⟨Nat.le_of_ble_eq_true rfl, Nat.le_of_ble_eq_true rfl⟩) hx hb hml hown hts hK hP  (by decide) rfl rfl rfl hl.1 rfl (Nat.le_of_ble_eq_true rfl) (Nat.zero_le _) (Nat.zero_le _) dX2_alike_8 ?_
      refine lv_astore (lv' := [(4, .ref (ad (13 + 3 * u))), (3, .null), (0, .ref (ad (0))), (1, .int (a)), (2, .int (nI (u)))]) hx hb dX2_alike_11 hl (by decide) rfl (fun ls hl => ?_)
      refine lv_aload_nN hx hb dX2_alike_13 rfl (lv_at hl 1 rfl) ?_
      refine lv_ifnullN (tgt := 22) hx hb dX2_alike_14 (by decide) ?_
      refine lv_iconst (v := (-1)) hx hb dX2_alike_22 (by decide) ?_
      exact g_iret hx hb hrt hlocks dX2_alike_23 (by unfold sC_alike; dsimp only [cN, cC, cM_]; rw [rg_n hs_2])
  | true =>
    obtain ⟨k, hk1, hk2, e9⟩ := rB_some (by omega) (by omega) hs_2
    subst e9
    have hk9 : k < 4 := by omega
    have qk1 := (hWF.2.1 k hk9).1
    have qk2 := pow4 qk1.2.1
    have qk3 : 0 < 2 ^ S (13 + 3 * k) 0 := Nat.pow_pos (by decide)
    have qk4 := sq4 qk2
    refine g_callV (0) (C := RX2) (T := TX2) (N := 7) (ci := 1) (As := [.int (nI (k))]) (rest := []) (c_X2_worldIn_y l hI hWt hMt hWF (k := k) (by omega)) (cwV 1 hts gX2_alike_X2_worldIn rfl rfl rfl (by decide +kernel) ⟨Nat.le_of_ble_eq_true rfl, Nat.le_of_ble_eq_true rfl⟩) hx hb hml hown hts hK hP  (by decide) rfl rfl rfl hl.1 rfl (Nat.le_of_ble_eq_true rfl) (Nat.zero_le _) (Nat.zero_le _) dX2_alike_2 ?_
    refine lv_astore_n (lv' := [(3, .ref (ad (13 + 3 * k))), (0, .ref (ad (0))), (1, .int (nI (k))), (2, .int (b0))]) hx hb dX2_alike_5 rfl hl (by decide) rfl (fun ls hl => ?_)
    refine lv_aload_n hx hb dX2_alike_6 rfl (lv_at hl 1 rfl) ?_
    refine lv_iload_n hx hb dX2_alike_7 rfl (lv_at hl 3 rfl) ?_
    cases hs_8 : rB 0 3 b0 with
    | false =>
      refine g_callV (0) (C := RX2) (T := TX2) (N := 7) (ci := 1) (As := [.int (b0)]) (rest := []) (c_X2_worldIn_n l hI hWt hMt hWF hs_8) (cwV 1 hts gX2_alike_X2_worldIn rfl rfl rfl (by decide +kernel) ⟨Nat.le_of_ble_eq_true rfl, Nat.le_of_ble_eq_true rfl⟩) hx hb hml hown hts hK hP  (by decide) rfl rfl rfl hl.1 rfl (Nat.le_of_ble_eq_true rfl) (Nat.zero_le _) (Nat.zero_le _) dX2_alike_8 ?_
      refine lv_astoreN (lv' := [(4, .null), (3, .ref (ad (13 + 3 * k))), (0, .ref (ad (0))), (1, .int (nI (k))), (2, .int (b0))]) hx hb dX2_alike_11 hl (by decide) rfl (fun ls hl => ?_)
      refine lv_aload_n hx hb dX2_alike_13 rfl (lv_at hl 1 rfl) ?_
      refine lv_ifnull hx hb dX2_alike_14 ?_
      refine lv_aloadN hx hb dX2_alike_17 (lv_at hl 0 rfl) ?_
      refine lv_ifnonnullN hx hb dX2_alike_19 ?_
      refine lv_iconst (v := (-1)) hx hb dX2_alike_22 (by decide) ?_
      exact g_iret hx hb hrt hlocks dX2_alike_23 (by unfold sC_alike; dsimp only [cN, cC, cM_]; rw [rg_y (by omega) (by omega) (by omega), rg_n hs_8])
    | true =>
      obtain ⟨u, hu1, hu2, e9⟩ := rB_some (by omega) (by omega) hs_8
      subst e9
      have hu9 : u < 4 := by omega
      have qu1 := (hWF.2.1 u hu9).1
      have qu2 := pow4 qu1.2.1
      have qu3 : 0 < 2 ^ S (13 + 3 * u) 0 := Nat.pow_pos (by decide)
      have qu4 := sq4 qu2
      refine g_callV (0) (C := RX2) (T := TX2) (N := 7) (ci := 1) (As := [.int (nI (u))]) (rest := []) (c_X2_worldIn_y l hI hWt hMt hWF (k := u) (by omega)) (cwV 1 hts gX2_alike_X2_worldIn rfl rfl rfl (by decide +kernel) ⟨Nat.le_of_ble_eq_true rfl, Nat.le_of_ble_eq_true rfl⟩) hx hb hml hown hts hK hP  (by decide) rfl rfl rfl hl.1 rfl (Nat.le_of_ble_eq_true rfl) (Nat.zero_le _) (Nat.zero_le _) dX2_alike_8 ?_
      refine lv_astore (lv' := [(4, .ref (ad (13 + 3 * u))), (3, .ref (ad (13 + 3 * k))), (0, .ref (ad (0))), (1, .int (nI (k))), (2, .int (nI (u)))]) hx hb dX2_alike_11 hl (by decide) rfl (fun ls hl => ?_)
      refine lv_aload_n hx hb dX2_alike_13 rfl (lv_at hl 1 rfl) ?_
      refine lv_ifnull hx hb dX2_alike_14 ?_
      refine lv_aload hx hb dX2_alike_17 (lv_at hl 0 rfl) ?_
      refine lv_ifnonnull (tgt := 24) hx hb dX2_alike_19 (by decide) ?_
      refine lv_aload_n hx hb dX2_alike_24 rfl (lv_at hl 1 rfl) ?_
      refine g_callV (13 + 3 * k) (C := RX1) (T := TX1) (N := 4) (ci := 0) (As := []) (rest := []) (c_X1_bits l hI (by omega) (gE_W hk9 (hWF.2.1 k hk9))) (cwV 0 hts gX2_alike_X1_bits rfl rfl rfl (by decide +kernel) ⟨Nat.le_of_ble_eq_true rfl, Nat.le_of_ble_eq_true rfl⟩) hx hb hml hown hts hK hP  (by omega) (gE_obj (isO_w hk9)) rfl rfl hl.1 rfl (Nat.le_of_ble_eq_true rfl) (Nat.zero_le _) (Nat.zero_le _) dX2_alike_25 ?_
      refine lv_aload hx hb dX2_alike_28 (lv_at hl 0 rfl) ?_
      refine g_callV (13 + 3 * u) (C := RX1) (T := TX1) (N := 4) (ci := 0) (As := []) (rest := [.int (nI (S (13 + 3 * k) 0))]) (c_X1_bits l hI (by omega) (gE_W hu9 (hWF.2.1 u hu9))) (cwV 0 hts gX2_alike_X1_bits rfl rfl rfl (by decide +kernel) ⟨Nat.le_of_ble_eq_true rfl, Nat.le_of_ble_eq_true rfl⟩) hx hb hml hown hts hK hP  (by omega) (gE_obj (isO_w hu9)) rfl rfl hl.1 rfl (Nat.le_of_ble_eq_true rfl) (Nat.zero_le _) (Nat.zero_le _) dX2_alike_30 ?_
      refine n_ceq (tgt := 39) hx hb dX2_alike_33 (by decide) (by omega) (by omega) (fun h_33 => ?_) (fun h_33 => ?_)
      · have h_33 : S (13 + 3 * k) 0 = S (13 + 3 * u) 0 := h_33
        refine lv_aload_n hx hb dX2_alike_39 rfl (lv_at hl 2 rfl) ?_
        refine lv_aload_n hx hb dX2_alike_40 rfl (lv_at hl 1 rfl) ?_
        refine g_callV (13 + 3 * k) (C := RX1) (T := TX1) (N := 4) (ci := 0) (As := []) (rest := [.ref (ad (0))]) (c_X1_bits l hI (by omega) (gE_W hk9 (hWF.2.1 k hk9))) (cwV 0 hts gX2_alike_X1_bits rfl rfl rfl (by decide +kernel) ⟨Nat.le_of_ble_eq_true rfl, Nat.le_of_ble_eq_true rfl⟩) hx hb hml hown hts hK hP  (by omega) (gE_obj (isO_w hk9)) rfl rfl hl.1 rfl (Nat.le_of_ble_eq_true rfl) (Nat.zero_le _) (Nat.zero_le _) dX2_alike_41 ?_
        refine g_callV (0) (C := RX2) (T := TX2) (N := 7) (ci := 1) (As := [.int (nI (S (13 + 3 * k) 0))]) (rest := []) (c_X2_allMapsFit l hI hWt hMt hWF (N := S (13 + 3 * k) 0) (by omega)) (cwV 1 hts gX2_alike_X2_allMapsFit rfl rfl rfl (by decide +kernel) ⟨Nat.le_of_ble_eq_true rfl, Nat.le_of_ble_eq_true rfl⟩) hx hb hml hown hts hK hP  (by decide) rfl rfl rfl hl.1 rfl (Nat.le_of_ble_eq_true rfl) (Nat.zero_le _) (Nat.zero_le _) dX2_alike_44 ?_
        refine n_ifeq_b (tgt := 64) hx hb dX2_alike_47 (by decide) (fun h_47 => ?_) (fun h_47 => ?_)
        · refine n_iconst 0 hx hb dX2_alike_64 ?_
          refine n_eq (show nI 0 = bI false from rfl) ?_
          refine g_callS (As := [.int (bI (false))]) (rest := []) (c_X2_oneIf l hI (B := false)) (va_cwS 1 hts gX2_alike_X2_oneIf rfl rfl rfl (by decide +kernel) ⟨Nat.le_of_ble_eq_true rfl, Nat.le_of_ble_eq_true rfl⟩) hx hb hml hown hts hK hP  rfl hl.1 rfl (Nat.le_of_ble_eq_true rfl) (Nat.zero_le _) (Nat.zero_le _) dX2_alike_65 ?_
          exact g_iret hx hb hrt hlocks dX2_alike_68 (by unfold sC_alike; dsimp only [cN, cC, cM_]; rw [rg_y (by omega) (by omega) (by omega), rg_y (by omega) (by omega) (by omega), if_pos h_33, h_47, Bool.false_and])
        · refine lv_aload_n hx hb dX2_alike_50 rfl (lv_at hl 2 rfl) ?_
          refine lv_aload_n hx hb dX2_alike_51 rfl (lv_at hl 1 rfl) ?_
          refine lv_aload hx hb dX2_alike_52 (lv_at hl 0 rfl) ?_
          refine g_callV (0) (C := RX2) (T := TX2) (N := 7) (ci := 1) (As := [.ref (ad (13 + 3 * k)), .ref (ad (13 + 3 * u))]) (rest := []) (c_X2_mapsCarry l hI hWt hMt hWF (k := k) (u := u) hk9 hu9 h_33 h_47) (cwV 2 hts gX2_alike_X2_mapsCarry rfl rfl rfl (by decide +kernel) ⟨Nat.le_of_ble_eq_true rfl, Nat.le_of_ble_eq_true rfl⟩) hx hb hml hown hts hK hP  (by decide) rfl rfl rfl hl.1 rfl (Nat.le_of_ble_eq_true rfl) (Nat.zero_le _) (Nat.zero_le _) dX2_alike_54 ?_
          refine n_ifeq_b (tgt := 64) hx hb dX2_alike_57 (by decide) (fun h_57 => ?_) (fun h_57 => ?_)
          · refine n_iconst 0 hx hb dX2_alike_64 ?_
            refine n_eq (show nI 0 = bI false from rfl) ?_
            refine g_callS (As := [.int (bI (false))]) (rest := []) (c_X2_oneIf l hI (B := false)) (va_cwS 1 hts gX2_alike_X2_oneIf rfl rfl rfl (by decide +kernel) ⟨Nat.le_of_ble_eq_true rfl, Nat.le_of_ble_eq_true rfl⟩) hx hb hml hown hts hK hP  rfl hl.1 rfl (Nat.le_of_ble_eq_true rfl) (Nat.zero_le _) (Nat.zero_le _) dX2_alike_65 ?_
            exact g_iret hx hb hrt hlocks dX2_alike_68 (by unfold sC_alike; dsimp only [cN, cC, cM_]; rw [rg_y (by omega) (by omega) (by omega), rg_y (by omega) (by omega) (by omega), if_pos h_33, h_47, h_57, Bool.true_and])
          · refine n_iconst 1 hx hb dX2_alike_60 ?_
            refine n_goto 65 hx hb dX2_alike_61 (by decide) ?_
            refine n_eq (show nI 1 = bI true from rfl) ?_
            refine g_callS (As := [.int (bI (true))]) (rest := []) (c_X2_oneIf l hI (B := true)) (va_cwS 1 hts gX2_alike_X2_oneIf rfl rfl rfl (by decide +kernel) ⟨Nat.le_of_ble_eq_true rfl, Nat.le_of_ble_eq_true rfl⟩) hx hb hml hown hts hK hP  rfl hl.1 rfl (Nat.le_of_ble_eq_true rfl) (Nat.zero_le _) (Nat.zero_le _) dX2_alike_65 ?_
            exact g_iret hx hb hrt hlocks dX2_alike_68 (by unfold sC_alike; dsimp only [cN, cC, cM_]; rw [rg_y (by omega) (by omega) (by omega), rg_y (by omega) (by omega) (by omega), if_pos h_33, h_47, h_57, Bool.true_and])
      · refine lv_bipush (v := (-3)) hx hb dX2_alike_36 (by decide) ?_
        exact g_iret hx hb hrt hlocks dX2_alike_38 (by unfold sC_alike; dsimp only [cN, cC, cM_]; rw [rg_y (by omega) (by omega) (by omega), rg_y (by omega) (by omega) (by omega), if_neg h_33])
set_option maxHeartbeats 4000000 in
set_option maxRecDepth 100000 in
theorem c_X2_turn (l : Launch) {D : va_G} {tys : List (ClassId × FieldType)} {A : Nat → Prop} {ad : Nat → Nat} {cI cW cM : ClassId} {tI tW tM : Nat} {S : Nat → Nat → Nat} (hI : tys[tI]? = some (cI, .int)) (hWt : tys[tW]? = some (cW, .object "CubeWorlds$World")) (hMt : tys[tM]? = some (cM, .array .int)) (hWF : WF S) {a b0 w : Int32} : Met l yX2_turn wsX2_turn ({ frames := 5, cells := 0, slots := 0, locals := 115 } : Room) (va_Pc [.ref (ad (0)), .int (a), .int (b0), .int (w)] (PW D tys A 33 ad (gE cI cW cM ad S))) (QW (some (.int (sC_turn a b0 w))) (PW D tys A 33 ad (gE cI cW cM ad (nC_turn S a b0 w))) A) 0 0 A := by
  refine g_writes (cc := cX2_turn) (maxL := 9) (ret := (some .int)) (by decide) rfl (Nat.le_of_ble_eq_true rfl) ?_
  intro p e s m args below meth c hx hb hrt hts hown hlocks hml hP hK hD hS ls hl
  show W p l e ({ frames := 5, cells := 0, slots := 0, locals := 115 } : Room) s m args below meth c s.heap [] 0 0 _ _
  have hl : lv_has ls 9 [(0, .ref (ad (0))), (1, .int (a)), (2, .int (b0)), (3, .int (w))] := hl
  refine lv_aload_n hx hb dX2_turn_0 rfl (lv_at hl 0 rfl) ?_
  refine lv_iload_n hx hb dX2_turn_1 rfl (lv_at hl 1 rfl) ?_
  cases hs_2 : rB 0 3 a with
  | false =>
    refine g_callV (0) (C := RX2) (T := TX2) (N := 7) (ci := 1) (As := [.int (a)]) (rest := []) (c_X2_worldIn_n l hI hWt hMt hWF hs_2) (cwV 1 hts gX2_turn_X2_worldIn rfl rfl rfl (by decide +kernel) ⟨Nat.le_of_ble_eq_true rfl, Nat.le_of_ble_eq_true rfl⟩) hx hb hml hown hts hK hP  (by decide) rfl rfl rfl hl.1 rfl (Nat.le_of_ble_eq_true rfl) (Nat.zero_le _) (Nat.zero_le _) dX2_turn_2 ?_
    refine lv_astoreN (lv' := [(4, .null), (0, .ref (ad (0))), (1, .int (a)), (2, .int (b0)), (3, .int (w))]) hx hb dX2_turn_5 hl (by decide) rfl (fun ls hl => ?_)
    refine lv_aload_n hx hb dX2_turn_7 rfl (lv_at hl 1 rfl) ?_
    refine lv_iload_n hx hb dX2_turn_8 rfl (lv_at hl 3 rfl) ?_
    cases hs_9 : rB 0 3 b0 with
    | false =>
      refine g_callV (0) (C := RX2) (T := TX2) (N := 7) (ci := 1) (As := [.int (b0)]) (rest := []) (c_X2_worldIn_n l hI hWt hMt hWF hs_9) (cwV 1 hts gX2_turn_X2_worldIn rfl rfl rfl (by decide +kernel) ⟨Nat.le_of_ble_eq_true rfl, Nat.le_of_ble_eq_true rfl⟩) hx hb hml hown hts hK hP  (by decide) rfl rfl rfl hl.1 rfl (Nat.le_of_ble_eq_true rfl) (Nat.zero_le _) (Nat.zero_le _) dX2_turn_9 ?_
      refine lv_astoreN (lv' := [(5, .null), (4, .null), (0, .ref (ad (0))), (1, .int (a)), (2, .int (b0)), (3, .int (w))]) hx hb dX2_turn_12 hl (by decide) rfl (fun ls hl => ?_)
      refine lv_aloadN hx hb dX2_turn_14 (lv_at hl 1 rfl) ?_
      refine lv_ifnullN (tgt := 24) hx hb dX2_turn_16 (by decide) ?_
      refine lv_iconst (v := (-1)) hx hb dX2_turn_24 (by decide) ?_
      have hP : va_P D vwCl (pic 33 ad (gE cI cW cM ad (nC_turn S a b0 w))) s.heap := by rw [show nC_turn S a b0 w = S from by unfold nC_turn; (try dsimp only [cN, cC, cM_]); rw [rg_n hs_2]]; exact hP
      exact g_iretW hx hb hrt hlocks hK hP (pic_D _ hD) hS dX2_turn_25 (by unfold sC_turn; (try dsimp only [cN, cC, cM_]); rw [rg_n hs_2])
    | true =>
      obtain ⟨u, hu1, hu2, e9⟩ := rB_some (by omega) (by omega) hs_9
      subst e9
      have hu9 : u < 4 := by omega
      have qu1 := (hWF.2.1 u hu9).1
      have qu2 := pow4 qu1.2.1
      have qu3 : 0 < 2 ^ S (13 + 3 * u) 0 := Nat.pow_pos (by decide)
      have qu4 := sq4 qu2
      refine g_callV (0) (C := RX2) (T := TX2) (N := 7) (ci := 1) (As := [.int (nI (u))]) (rest := []) (c_X2_worldIn_y l hI hWt hMt hWF (k := u) (by omega)) (cwV 1 hts gX2_turn_X2_worldIn rfl rfl rfl (by decide +kernel) ⟨Nat.le_of_ble_eq_true rfl, Nat.le_of_ble_eq_true rfl⟩) hx hb hml hown hts hK hP  (by decide) rfl rfl rfl hl.1 rfl (Nat.le_of_ble_eq_true rfl) (Nat.zero_le _) (Nat.zero_le _) dX2_turn_9 ?_
      refine lv_astore (lv' := [(5, .ref (ad (13 + 3 * u))), (4, .null), (0, .ref (ad (0))), (1, .int (a)), (2, .int (nI (u))), (3, .int (w))]) hx hb dX2_turn_12 hl (by decide) rfl (fun ls hl => ?_)
      refine lv_aloadN hx hb dX2_turn_14 (lv_at hl 1 rfl) ?_
      refine lv_ifnullN (tgt := 24) hx hb dX2_turn_16 (by decide) ?_
      refine lv_iconst (v := (-1)) hx hb dX2_turn_24 (by decide) ?_
      have hP : va_P D vwCl (pic 33 ad (gE cI cW cM ad (nC_turn S a ((nI u)) w))) s.heap := by rw [show nC_turn S a ((nI u)) w = S from by unfold nC_turn; (try dsimp only [cN, cC, cM_]); rw [rg_n hs_2]]; exact hP
      exact g_iretW hx hb hrt hlocks hK hP (pic_D _ hD) hS dX2_turn_25 (by unfold sC_turn; (try dsimp only [cN, cC, cM_]); rw [rg_n hs_2])
  | true =>
    obtain ⟨k, hk1, hk2, e9⟩ := rB_some (by omega) (by omega) hs_2
    subst e9
    have hk9 : k < 4 := by omega
    have qk1 := (hWF.2.1 k hk9).1
    have qk2 := pow4 qk1.2.1
    have qk3 : 0 < 2 ^ S (13 + 3 * k) 0 := Nat.pow_pos (by decide)
    have qk4 := sq4 qk2
    refine g_callV (0) (C := RX2) (T := TX2) (N := 7) (ci := 1) (As := [.int (nI (k))]) (rest := []) (c_X2_worldIn_y l hI hWt hMt hWF (k := k) (by omega)) (cwV 1 hts gX2_turn_X2_worldIn rfl rfl rfl (by decide +kernel) ⟨Nat.le_of_ble_eq_true rfl, Nat.le_of_ble_eq_true rfl⟩) hx hb hml hown hts hK hP  (by decide) rfl rfl rfl hl.1 rfl (Nat.le_of_ble_eq_true rfl) (Nat.zero_le _) (Nat.zero_le _) dX2_turn_2 ?_
    refine lv_astore (lv' := [(4, .ref (ad (13 + 3 * k))), (0, .ref (ad (0))), (1, .int (nI (k))), (2, .int (b0)), (3, .int (w))]) hx hb dX2_turn_5 hl (by decide) rfl (fun ls hl => ?_)
    refine lv_aload_n hx hb dX2_turn_7 rfl (lv_at hl 1 rfl) ?_
    refine lv_iload_n hx hb dX2_turn_8 rfl (lv_at hl 3 rfl) ?_
    cases hs_9 : rB 0 3 b0 with
    | false =>
      refine g_callV (0) (C := RX2) (T := TX2) (N := 7) (ci := 1) (As := [.int (b0)]) (rest := []) (c_X2_worldIn_n l hI hWt hMt hWF hs_9) (cwV 1 hts gX2_turn_X2_worldIn rfl rfl rfl (by decide +kernel) ⟨Nat.le_of_ble_eq_true rfl, Nat.le_of_ble_eq_true rfl⟩) hx hb hml hown hts hK hP  (by decide) rfl rfl rfl hl.1 rfl (Nat.le_of_ble_eq_true rfl) (Nat.zero_le _) (Nat.zero_le _) dX2_turn_9 ?_
      refine lv_astoreN (lv' := [(5, .null), (4, .ref (ad (13 + 3 * k))), (0, .ref (ad (0))), (1, .int (nI (k))), (2, .int (b0)), (3, .int (w))]) hx hb dX2_turn_12 hl (by decide) rfl (fun ls hl => ?_)
      refine lv_aload hx hb dX2_turn_14 (lv_at hl 1 rfl) ?_
      refine lv_ifnull hx hb dX2_turn_16 ?_
      refine lv_aloadN hx hb dX2_turn_19 (lv_at hl 0 rfl) ?_
      refine lv_ifnonnullN hx hb dX2_turn_21 ?_
      refine lv_iconst (v := (-1)) hx hb dX2_turn_24 (by decide) ?_
      have hP : va_P D vwCl (pic 33 ad (gE cI cW cM ad (nC_turn S ((nI k)) b0 w))) s.heap := by rw [show nC_turn S ((nI k)) b0 w = S from by unfold nC_turn; (try dsimp only [cN, cC, cM_]); rw [rg_y (by omega) (by omega) (by omega), rg_n hs_9]]; exact hP
      exact g_iretW hx hb hrt hlocks hK hP (pic_D _ hD) hS dX2_turn_25 (by unfold sC_turn; (try dsimp only [cN, cC, cM_]); rw [rg_y (by omega) (by omega) (by omega), rg_n hs_9])
    | true =>
      obtain ⟨u, hu1, hu2, e9⟩ := rB_some (by omega) (by omega) hs_9
      subst e9
      have hu9 : u < 4 := by omega
      have qu1 := (hWF.2.1 u hu9).1
      have qu2 := pow4 qu1.2.1
      have qu3 : 0 < 2 ^ S (13 + 3 * u) 0 := Nat.pow_pos (by decide)
      have qu4 := sq4 qu2
      refine g_callV (0) (C := RX2) (T := TX2) (N := 7) (ci := 1) (As := [.int (nI (u))]) (rest := []) (c_X2_worldIn_y l hI hWt hMt hWF (k := u) (by omega)) (cwV 1 hts gX2_turn_X2_worldIn rfl rfl rfl (by decide +kernel) ⟨Nat.le_of_ble_eq_true rfl, Nat.le_of_ble_eq_true rfl⟩) hx hb hml hown hts hK hP  (by decide) rfl rfl rfl hl.1 rfl (Nat.le_of_ble_eq_true rfl) (Nat.zero_le _) (Nat.zero_le _) dX2_turn_9 ?_
      refine lv_astore (lv' := [(5, .ref (ad (13 + 3 * u))), (4, .ref (ad (13 + 3 * k))), (0, .ref (ad (0))), (1, .int (nI (k))), (2, .int (nI (u))), (3, .int (w))]) hx hb dX2_turn_12 hl (by decide) rfl (fun ls hl => ?_)
      refine lv_aload hx hb dX2_turn_14 (lv_at hl 1 rfl) ?_
      refine lv_ifnull hx hb dX2_turn_16 ?_
      refine lv_aload hx hb dX2_turn_19 (lv_at hl 0 rfl) ?_
      refine lv_ifnonnull (tgt := 26) hx hb dX2_turn_21 (by decide) ?_
      cases hs_26 : rB 0 5 w with
      | false =>
        refine lv_iload_n hx hb dX2_turn_26 rfl (lv_at hl 5 rfl) ?_
        refine lv_if_lt (tgt := 36) hx hb dX2_turn_27 (by decide) (fun h_27 => ?_) (fun h_27 => ?_)
        · refine lv_bipush (v := (-2)) hx hb dX2_turn_36 (by decide) ?_
          have hP : va_P D vwCl (pic 33 ad (gE cI cW cM ad (nC_turn S ((nI k)) ((nI u)) w))) s.heap := by rw [show nC_turn S ((nI k)) ((nI u)) w = S from by unfold nC_turn; (try dsimp only [cN, cC, cM_]); rw [rg_y (by omega) (by omega) (by omega), rg_y (by omega) (by omega) (by omega), rg_n hs_26]]; exact hP
          exact g_iretW hx hb hrt hlocks hK hP (pic_D _ hD) hS dX2_turn_38 (by unfold sC_turn; (try dsimp only [cN, cC, cM_]); rw [rg_y (by omega) (by omega) (by omega), rg_y (by omega) (by omega) (by omega), rg_n hs_26])
        · refine lv_iload_n hx hb dX2_turn_30 rfl (lv_at hl 5 rfl) ?_
          refine lv_bipush (v := nI 6) hx hb dX2_turn_31 (by decide) ?_
          refine lv_icmp_lt (tgt := 39) hx hb dX2_turn_33 (by decide) (fun h_33 => ?_) (fun h_33 => ?_)
          · exact absurd (show rB 0 5 w = true from decide_eq_true ⟨k2_le h_27, k6_lt h_33⟩) (by rw [hs_26]; decide)
          · refine lv_bipush (v := (-2)) hx hb dX2_turn_36 (by decide) ?_
            have hP : va_P D vwCl (pic 33 ad (gE cI cW cM ad (nC_turn S ((nI k)) ((nI u)) w))) s.heap := by rw [show nC_turn S ((nI k)) ((nI u)) w = S from by unfold nC_turn; (try dsimp only [cN, cC, cM_]); rw [rg_y (by omega) (by omega) (by omega), rg_y (by omega) (by omega) (by omega), rg_n hs_26]]; exact hP
            exact g_iretW hx hb hrt hlocks hK hP (pic_D _ hD) hS dX2_turn_38 (by unfold sC_turn; (try dsimp only [cN, cC, cM_]); rw [rg_y (by omega) (by omega) (by omega), rg_y (by omega) (by omega) (by omega), rg_n hs_26])
      | true =>
        obtain ⟨T, hT1, hT2, e9⟩ := rB_some (by omega) (by omega) hs_26
        subst e9
        refine lv_iload_n hx hb dX2_turn_26 rfl (lv_at hl 5 rfl) ?_
        refine n_z_lt (tgt := 36) hx hb dX2_turn_27 (by decide) (by omega) ?_
        refine lv_iload_n hx hb dX2_turn_30 rfl (lv_at hl 5 rfl) ?_
        refine lv_bipush (v := nI 6) hx hb dX2_turn_31 (by decide) ?_
        refine n_lt (tgt := 39) hx hb dX2_turn_33 (by decide) (by omega) (by omega) (fun h_33 => ?_) (fun h_33 => ?_)
        · refine lv_aload hx hb dX2_turn_39 (lv_at hl 0 rfl) ?_
          refine g_callV (13 + 3 * u) (C := RX1) (T := TX1) (N := 4) (ci := 0) (As := []) (rest := []) (c_X1_bits l hI (by omega) (gE_W hu9 (hWF.2.1 u hu9))) (cwV 0 hts gX2_turn_X1_bits rfl rfl rfl (by decide +kernel) ⟨Nat.le_of_ble_eq_true rfl, Nat.le_of_ble_eq_true rfl⟩) hx hb hml hown hts hK hP  (by omega) (gE_obj (isO_w hu9)) rfl rfl hl.1 rfl (Nat.le_of_ble_eq_true rfl) (Nat.zero_le _) (Nat.zero_le _) dX2_turn_41 ?_
          refine lv_istore (lv' := [(6, .int (nI (S (13 + 3 * u) 0))), (5, .ref (ad (13 + 3 * u))), (4, .ref (ad (13 + 3 * k))), (0, .ref (ad (0))), (1, .int (nI (k))), (2, .int (nI (u))), (3, .int (nI (T)))]) hx hb dX2_turn_44 hl (by decide) rfl (fun ls hl => ?_)
          have hP : va_P D vwCl (pic 33 ad (gE cI cW cM ad (va_up S 9 (cf (S (13 + 3 * u) 0) (tcS (S (13 + 3 * u) 0) (S (13 + 3 * u + 1)) T) (S 9) 0 0)))) s.heap := by rw [cf_00, va_up_same rfl]; exact hP
          refine n_iconst 0 hx hb dX2_turn_46 ?_
          refine lv_istore (lv' := [(7, .int (nI (0))), (6, .int (nI (S (13 + 3 * u) 0))), (5, .ref (ad (13 + 3 * u))), (4, .ref (ad (13 + 3 * k))), (0, .ref (ad (0))), (1, .int (nI (k))), (2, .int (nI (u))), (3, .int (nI (T)))]) hx hb dX2_turn_47 hl (by decide) rfl (fun ls hl => ?_)
          have L_49 : ∀ (r : Nat) (i : Nat), (i ≤ S (13 + 3 * u) 0) → (S (13 + 3 * u) 0 < i + r) → ∀ (H : Heap) (locs : List Loc), va_P D vwCl (pic 33 ad (gE cI cW cM ad (va_up S 9 (cf (S (13 + 3 * u) 0) (tcS (S (13 + 3 * u) 0) (S (13 + 3 * u + 1)) T) (S 9) i 0)))) H → va_S A s.heap H locs → ∀ (ls : Array Slot), lv_has ls 9 [(0, .ref (ad (0))), (1, .int (nI (k))), (2, .int (nI (u))), (3, .int (nI (T))), (4, .ref (ad (13 + 3 * k))), (5, .ref (ad (13 + 3 * u))), (6, .int (nI (S (13 + 3 * u) 0))), (7, .int (nI (i)))] → W p l e ({ frames := 5, cells := 0, slots := 0, locals := 115 } : Room) s m args below meth c H locs 0 0 (MQ below (QW (some (.int (sC_turn ((nI k)) ((nI u)) ((nI T))))) (PW D tys A 33 ad (gE cI cW cM ad (nC_turn S ((nI k)) ((nI u)) ((nI T))))) A) args s 0 0 A) (F0 m 49 ls []) := by
            intro r
            induction r with
            | zero => intro i hi hr; intros; exact absurd hr (by omega)
            | succ r ih =>
              intro i hi hr H locs hP hS ls hl
              have ih_49 := ih
              refine lv_iload hx hb dX2_turn_49 (lv_at hl 7 rfl) ?_
              refine lv_iload hx hb dX2_turn_51 (lv_at hl 6 rfl) ?_
              refine n_ge (tgt := 100) hx hb dX2_turn_53 (by decide) (by omega) (by omega) (fun h_53 => ?_) (fun h_53 => ?_)
              · rw [show i = S (13 + 3 * u) 0 by omega] at hP
                refine lv_aload hx hb dX2_turn_100 (lv_at hl 4 rfl) ?_
                refine lv_iload hx hb dX2_turn_102 (lv_at hl 6 rfl) ?_
                refine lv_aload_n hx hb dX2_turn_104 rfl (lv_at hl 0 rfl) ?_
                refine g_get (0) 3 (C := RX2) (T := TX2) (N := 7) (ci := 1) (ref := "CubeWorlds") hx hb hts (by decide +kernel) hown hK hP (by decide) rfl rfl (by decide) (by decide +kernel) rfl rfl dX2_turn_105 ?_
                refine g_callVW (13 + 3 * k) (C := RX1) (T := TX1) (N := 4) (ci := 0) (As := [.int (nI (S (13 + 3 * u) 0)), .ref (ad (9))]) (rest := []) (c_X1_take l hI (by omega) (gE_WS (S' := va_up S 9 (cf (S (13 + 3 * u) 0) (tcS (S (13 + 3 * u) 0) (S (13 + 3 * u + 1)) T) (S 9) (S (13 + 3 * u) 0) 0)) hk9 (hWF.2.1 k hk9) (by repeat rw [va_up_o (by omega)]) (by repeat rw [va_up_o (by omega)]) (by repeat rw [va_up_o (by omega)])) (K := S (13 + 3 * u) 0) (cx := 9) (e0 := cf (S (13 + 3 * u) 0) (tcS (S (13 + 3 * u) 0) (S (13 + 3 * u + 1)) T) (S 9) (S (13 + 3 * u) 0) 0) (by omega) (by decide) (by omega) (gIX 9 16 rfl (by decide) (va_up_at _ _ _))) (cwV 2 hts gX2_turn_X1_take rfl rfl rfl (by decide +kernel) ⟨Nat.le_of_ble_eq_true rfl, Nat.le_of_ble_eq_true rfl⟩) hx hb hml hown hts hK hP (pic_D _ hD) hS  (by omega) (gE_obj (isO_w hk9)) rfl rfl hl.1 rfl (Nat.le_of_ble_eq_true rfl) (Nat.zero_le _) (Nat.zero_le _) dX2_turn_108 (fun H locs hP hS => ?_)
                refine n_iconst 1 hx hb dX2_turn_111 ?_
                have hP : va_P D vwCl (pic 33 ad (gE cI cW cM ad (nC_turn S ((nI k)) ((nI u)) ((nI T))))) H := by rw [show nC_turn S ((nI k)) ((nI u)) ((nI T)) = newW S k (S (13 + 3 * u) 0) (tcS (S (13 + 3 * u) 0) (S (13 + 3 * u + 1)) T) from by unfold nC_turn; (try dsimp only [cN, cC, cM_]); rw [rg_y (by omega) (by omega) (by omega), rg_y (by omega) (by omega) (by omega), rg_y (by omega) (by omega) (by omega)]]; unfold newW; rw [← gE_take (isO_w hk9) (ln_c hk9) (ln_t hk9), va_up_o (show 13 + 3 * k + 1 ≠ 9 by omega), va_up_o (show 13 + 3 * k + 2 ≠ 9 by omega)]; exact hP
                exact g_iretW hx hb hrt hlocks hK hP (pic_D _ hD) hS dX2_turn_112 (by unfold sC_turn; (try dsimp only [cN, cC, cM_]); rw [rg_y (by omega) (by omega) (by omega), rg_y (by omega) (by omega) (by omega), rg_y (by omega) (by omega) (by omega)])
              · refine n_iconst 0 hx hb dX2_turn_56 ?_
                refine lv_istore (lv' := [(8, .int (nI (0))), (0, .ref (ad (0))), (1, .int (nI (k))), (2, .int (nI (u))), (3, .int (nI (T))), (4, .ref (ad (13 + 3 * k))), (5, .ref (ad (13 + 3 * u))), (6, .int (nI (S (13 + 3 * u) 0))), (7, .int (nI (i)))]) hx hb dX2_turn_57 hl (by decide) rfl (fun ls hl => ?_)
                have L_59 : ∀ (r : Nat) (j : Nat), (j ≤ S (13 + 3 * u) 0) → (S (13 + 3 * u) 0 < j + r) → ∀ (H : Heap) (locs : List Loc), va_P D vwCl (pic 33 ad (gE cI cW cM ad (va_up S 9 (cf (S (13 + 3 * u) 0) (tcS (S (13 + 3 * u) 0) (S (13 + 3 * u + 1)) T) (S 9) i j)))) H → va_S A s.heap H locs → ∀ (ls : Array Slot), lv_has ls 9 [(0, .ref (ad (0))), (1, .int (nI (k))), (2, .int (nI (u))), (3, .int (nI (T))), (4, .ref (ad (13 + 3 * k))), (5, .ref (ad (13 + 3 * u))), (6, .int (nI (S (13 + 3 * u) 0))), (7, .int (nI (i))), (8, .int (nI (j)))] → W p l e ({ frames := 5, cells := 0, slots := 0, locals := 115 } : Room) s m args below meth c H locs 0 0 (MQ below (QW (some (.int (sC_turn ((nI k)) ((nI u)) ((nI T))))) (PW D tys A 33 ad (gE cI cW cM ad (nC_turn S ((nI k)) ((nI u)) ((nI T))))) A) args s 0 0 A) (F0 m 59 ls []) := by
                  intro r
                  induction r with
                  | zero => intro j hj hr2; intros; exact absurd hr2 (by omega)
                  | succ r ih =>
                    intro j hj hr2 H locs hP hS ls hl
                    have ih_59 := ih
                    refine lv_iload hx hb dX2_turn_59 (lv_at hl 8 rfl) ?_
                    refine lv_iload hx hb dX2_turn_61 (lv_at hl 6 rfl) ?_
                    refine n_ge (tgt := 94) hx hb dX2_turn_63 (by decide) (by omega) (by omega) (fun h_63 => ?_) (fun h_63 => ?_)
                    · rw [show j = S (13 + 3 * u) 0 by omega, cf_row] at hP
                      refine n_iinc 7 1 (lv' := [(7, .int (nI (i + 1))), (0, .ref (ad (0))), (1, .int (nI (k))), (2, .int (nI (u))), (3, .int (nI (T))), (4, .ref (ad (13 + 3 * k))), (5, .ref (ad (13 + 3 * u))), (6, .int (nI (S (13 + 3 * u) 0))), (8, .int (nI (j)))]) hx hb dX2_turn_94 hl rfl (by decide) rfl (fun ls hl => ?_)
                      refine n_goto 49 hx hb dX2_turn_97 (by decide) ?_
                      exact ih_49 (i + 1) (by omega) (by omega) _ _ hP hS _ (lv_sub hl [1, 2, 3, 4, 5, 6, 7, 0] rfl)
                    · refine lv_aload_n hx hb dX2_turn_66 rfl (lv_at hl 0 rfl) ?_
                      refine g_get (0) 3 (C := RX2) (T := TX2) (N := 7) (ci := 1) (ref := "CubeWorlds") hx hb hts (by decide +kernel) hown hK hP (by decide) rfl rfl (by decide) (by decide +kernel) rfl rfl dX2_turn_67 ?_
                      refine lv_iload hx hb dX2_turn_70 (lv_at hl 7 rfl) ?_
                      refine lv_iload hx hb dX2_turn_72 (lv_at hl 8 rfl) ?_
                      refine g_callS (As := [.int (nI (i)), .int (nI (j))]) (rest := [.ref (ad (9))]) (c_X2_cellIndex l hI (by omega) (gE_WS (S' := va_up S 9 (cf (S (13 + 3 * u) 0) (tcS (S (13 + 3 * u) 0) (S (13 + 3 * u + 1)) T) (S 9) i j)) hk9 (hWF.2.1 k hk9) (by repeat rw [va_up_o (by omega)]) (by repeat rw [va_up_o (by omega)]) (by repeat rw [va_up_o (by omega)])) (I := i) (J := j) (by omega) (by omega)) (va_cwS 2 hts gX2_turn_X2_cellIndex rfl rfl rfl (by decide +kernel) ⟨Nat.le_of_ble_eq_true rfl, Nat.le_of_ble_eq_true rfl⟩) hx hb hml hown hts hK hP  rfl hl.1 rfl (Nat.le_of_ble_eq_true rfl) (Nat.zero_le _) (Nat.zero_le _) dX2_turn_74 ?_
                      refine lv_aload hx hb dX2_turn_77 (lv_at hl 5 rfl) ?_
                      refine lv_iload hx hb dX2_turn_79 (lv_at hl 7 rfl) ?_
                      refine lv_iload hx hb dX2_turn_81 (lv_at hl 8 rfl) ?_
                      refine lv_iload_n hx hb dX2_turn_83 rfl (lv_at hl 3 rfl) ?_
                      refine g_callS (As := [.ref (ad (13 + 3 * u)), .int (nI (i)), .int (nI (j)), .int (nI (T))]) (rest := [.int (nI (4 * i + j)), .ref (ad (9))]) (c_X2_turnedCell l hI (by omega) (gE_WS (S' := va_up S 9 (cf (S (13 + 3 * u) 0) (tcS (S (13 + 3 * u) 0) (S (13 + 3 * u + 1)) T) (S 9) i j)) hu9 (hWF.2.1 u hu9) (by repeat rw [va_up_o (by omega)]) (by repeat rw [va_up_o (by omega)]) (by repeat rw [va_up_o (by omega)])) (I := i) (J := j) (T := T) (hWF.2.1 u hu9).1.2.1 (hWF.2.1 u hu9).2.1 (by omega) (by omega) (by omega)) (va_cwS 4 hts gX2_turn_X2_turnedCell rfl rfl rfl (by decide +kernel) ⟨Nat.le_of_ble_eq_true rfl, Nat.le_of_ble_eq_true rfl⟩) hx hb hml hown hts hK hP  rfl hl.1 rfl (Nat.le_of_ble_eq_true rfl) (Nat.zero_le _) (Nat.zero_le _) dX2_turn_84 ?_
                      refine g_iast (9) (4 * i + j) (tcS (S (13 + 3 * u) 0) (S (13 + 3 * u + 1)) T i j) hx hb hK hP (pic_D _ hD) hS (by decide) (gIX (S' := va_up S 9 (cf (S (13 + 3 * u) 0) (tcS (S (13 + 3 * u) 0) (S (13 + 3 * u + 1)) T) (S 9) i j)) 9 16 rfl (by decide) (by exact va_up_at _ _ _)) hI (by omega) (by decide) dX2_turn_87 (fun H locs hP hS => ?_)
                      rw [gE_upL 9 16 rfl (by decide), va_up_up, cf_put (by omega) (by omega)] at hP
                      refine n_iinc 8 1 (lv' := [(8, .int (nI (j + 1))), (0, .ref (ad (0))), (1, .int (nI (k))), (2, .int (nI (u))), (3, .int (nI (T))), (4, .ref (ad (13 + 3 * k))), (5, .ref (ad (13 + 3 * u))), (6, .int (nI (S (13 + 3 * u) 0))), (7, .int (nI (i)))]) hx hb dX2_turn_88 hl rfl (by decide) rfl (fun ls hl => ?_)
                      refine n_goto 59 hx hb dX2_turn_91 (by decide) ?_
                      exact ih_59 (j + 1) (by omega) (by omega) _ _ hP hS _ (lv_sub hl [1, 2, 3, 4, 5, 6, 7, 8, 0] rfl)
                exact L_59 (S (13 + 3 * u) 0 + 1) (0) (Nat.zero_le _) (by omega) _ _ hP hS _ (lv_sub hl [1, 2, 3, 4, 5, 6, 7, 8, 0] rfl)
          exact L_49 (S (13 + 3 * u) 0 + 1) (0) (Nat.zero_le _) (by omega) _ _ hP hS _ (lv_sub hl [4, 5, 6, 7, 3, 2, 1, 0] rfl)
        · exact absurd h_33 (by omega)
set_option maxHeartbeats 4000000 in
set_option maxRecDepth 100000 in
theorem c_X2_carry (l : Launch) {D : va_G} {tys : List (ClassId × FieldType)} {A : Nat → Prop} {ad : Nat → Nat} {cI cW cM : ClassId} {tI tW tM : Nat} {S : Nat → Nat → Nat} (hI : tys[tI]? = some (cI, .int)) (hWt : tys[tW]? = some (cW, .object "CubeWorlds$World")) (hMt : tys[tM]? = some (cM, .array .int)) (hWF : WF S) {a b0 : Int32} : Met l yX2_carry wsX2_carry ({ frames := 5, cells := 0, slots := 0, locals := 113 } : Room) (va_Pc [.ref (ad (0)), .int (a), .int (b0)] (PW D tys A 33 ad (gE cI cW cM ad S))) (QW (some (.int (sC_carry (cN S) (cM_ S) a b0))) (PW D tys A 33 ad (gE cI cW cM ad (nC_carry S a b0))) A) 0 0 A := by
  refine g_writes (cc := cX2_carry) (maxL := 10) (ret := (some .int)) (by decide) rfl (Nat.le_of_ble_eq_true rfl) ?_
  intro p e s m args below meth c hx hb hrt hts hown hlocks hml hP hK hD hS ls hl
  show W p l e ({ frames := 5, cells := 0, slots := 0, locals := 113 } : Room) s m args below meth c s.heap [] 0 0 _ _
  have hl : lv_has ls 10 [(0, .ref (ad (0))), (1, .int (a)), (2, .int (b0))] := hl
  refine lv_aload_n hx hb dX2_carry_0 rfl (lv_at hl 0 rfl) ?_
  refine lv_iload_n hx hb dX2_carry_1 rfl (lv_at hl 1 rfl) ?_
  cases hs_2 : rB 0 3 a with
  | false =>
    refine g_callV (0) (C := RX2) (T := TX2) (N := 7) (ci := 1) (As := [.int (a)]) (rest := []) (c_X2_worldIn_n l hI hWt hMt hWF hs_2) (cwV 1 hts gX2_carry_X2_worldIn rfl rfl rfl (by decide +kernel) ⟨Nat.le_of_ble_eq_true rfl, Nat.le_of_ble_eq_true rfl⟩) hx hb hml hown hts hK hP  (by decide) rfl rfl rfl hl.1 rfl (Nat.le_of_ble_eq_true rfl) (Nat.zero_le _) (Nat.zero_le _) dX2_carry_2 ?_
    refine lv_astore_nN (lv' := [(3, .null), (0, .ref (ad (0))), (1, .int (a)), (2, .int (b0))]) hx hb dX2_carry_5 rfl hl (by decide) rfl (fun ls hl => ?_)
    refine lv_aload_n hx hb dX2_carry_6 rfl (lv_at hl 1 rfl) ?_
    refine lv_iload_n hx hb dX2_carry_7 rfl (lv_at hl 3 rfl) ?_
    cases hs_8 : rB 0 3 b0 with
    | false =>
      refine g_callV (0) (C := RX2) (T := TX2) (N := 7) (ci := 1) (As := [.int (b0)]) (rest := []) (c_X2_worldIn_n l hI hWt hMt hWF hs_8) (cwV 1 hts gX2_carry_X2_worldIn rfl rfl rfl (by decide +kernel) ⟨Nat.le_of_ble_eq_true rfl, Nat.le_of_ble_eq_true rfl⟩) hx hb hml hown hts hK hP  (by decide) rfl rfl rfl hl.1 rfl (Nat.le_of_ble_eq_true rfl) (Nat.zero_le _) (Nat.zero_le _) dX2_carry_8 ?_
      refine lv_astoreN (lv' := [(4, .null), (3, .null), (0, .ref (ad (0))), (1, .int (a)), (2, .int (b0))]) hx hb dX2_carry_11 hl (by decide) rfl (fun ls hl => ?_)
      refine lv_aload_nN hx hb dX2_carry_13 rfl (lv_at hl 1 rfl) ?_
      refine lv_ifnullN (tgt := 22) hx hb dX2_carry_14 (by decide) ?_
      refine lv_iconst (v := (-1)) hx hb dX2_carry_22 (by decide) ?_
      have hP : va_P D vwCl (pic 33 ad (gE cI cW cM ad (nC_carry S a b0))) s.heap := by rw [show nC_carry S a b0 = S from by unfold nC_carry; (try dsimp only [cN, cC, cM_]); rw [rg_n hs_2]]; exact hP
      exact g_iretW hx hb hrt hlocks hK hP (pic_D _ hD) hS dX2_carry_23 (by unfold sC_carry; (try dsimp only [cN, cC, cM_]); rw [rg_n hs_2])
    | true =>
      obtain ⟨u, hu1, hu2, e9⟩ := rB_some (by omega) (by omega) hs_8
      subst e9
      have hu9 : u < 4 := by omega
      have qu1 := (hWF.2.1 u hu9).1
      have qu2 := pow4 qu1.2.1
      have qu3 : 0 < 2 ^ S (13 + 3 * u) 0 := Nat.pow_pos (by decide)
      have qu4 := sq4 qu2
      refine g_callV (0) (C := RX2) (T := TX2) (N := 7) (ci := 1) (As := [.int (nI (u))]) (rest := []) (c_X2_worldIn_y l hI hWt hMt hWF (k := u) (by omega)) (cwV 1 hts gX2_carry_X2_worldIn rfl rfl rfl (by decide +kernel) ⟨Nat.le_of_ble_eq_true rfl, Nat.le_of_ble_eq_true rfl⟩) hx hb hml hown hts hK hP  (by decide) rfl rfl rfl hl.1 rfl (Nat.le_of_ble_eq_true rfl) (Nat.zero_le _) (Nat.zero_le _) dX2_carry_8 ?_
      refine lv_astore (lv' := [(4, .ref (ad (13 + 3 * u))), (3, .null), (0, .ref (ad (0))), (1, .int (a)), (2, .int (nI (u)))]) hx hb dX2_carry_11 hl (by decide) rfl (fun ls hl => ?_)
      refine lv_aload_nN hx hb dX2_carry_13 rfl (lv_at hl 1 rfl) ?_
      refine lv_ifnullN (tgt := 22) hx hb dX2_carry_14 (by decide) ?_
      refine lv_iconst (v := (-1)) hx hb dX2_carry_22 (by decide) ?_
      have hP : va_P D vwCl (pic 33 ad (gE cI cW cM ad (nC_carry S a ((nI u))))) s.heap := by rw [show nC_carry S a ((nI u)) = S from by unfold nC_carry; (try dsimp only [cN, cC, cM_]); rw [rg_n hs_2]]; exact hP
      exact g_iretW hx hb hrt hlocks hK hP (pic_D _ hD) hS dX2_carry_23 (by unfold sC_carry; (try dsimp only [cN, cC, cM_]); rw [rg_n hs_2])
  | true =>
    obtain ⟨k, hk1, hk2, e9⟩ := rB_some (by omega) (by omega) hs_2
    subst e9
    have hk9 : k < 4 := by omega
    have qk1 := (hWF.2.1 k hk9).1
    have qk2 := pow4 qk1.2.1
    have qk3 : 0 < 2 ^ S (13 + 3 * k) 0 := Nat.pow_pos (by decide)
    have qk4 := sq4 qk2
    refine g_callV (0) (C := RX2) (T := TX2) (N := 7) (ci := 1) (As := [.int (nI (k))]) (rest := []) (c_X2_worldIn_y l hI hWt hMt hWF (k := k) (by omega)) (cwV 1 hts gX2_carry_X2_worldIn rfl rfl rfl (by decide +kernel) ⟨Nat.le_of_ble_eq_true rfl, Nat.le_of_ble_eq_true rfl⟩) hx hb hml hown hts hK hP  (by decide) rfl rfl rfl hl.1 rfl (Nat.le_of_ble_eq_true rfl) (Nat.zero_le _) (Nat.zero_le _) dX2_carry_2 ?_
    refine lv_astore_n (lv' := [(3, .ref (ad (13 + 3 * k))), (0, .ref (ad (0))), (1, .int (nI (k))), (2, .int (b0))]) hx hb dX2_carry_5 rfl hl (by decide) rfl (fun ls hl => ?_)
    refine lv_aload_n hx hb dX2_carry_6 rfl (lv_at hl 1 rfl) ?_
    refine lv_iload_n hx hb dX2_carry_7 rfl (lv_at hl 3 rfl) ?_
    cases hs_8 : rB 0 3 b0 with
    | false =>
      refine g_callV (0) (C := RX2) (T := TX2) (N := 7) (ci := 1) (As := [.int (b0)]) (rest := []) (c_X2_worldIn_n l hI hWt hMt hWF hs_8) (cwV 1 hts gX2_carry_X2_worldIn rfl rfl rfl (by decide +kernel) ⟨Nat.le_of_ble_eq_true rfl, Nat.le_of_ble_eq_true rfl⟩) hx hb hml hown hts hK hP  (by decide) rfl rfl rfl hl.1 rfl (Nat.le_of_ble_eq_true rfl) (Nat.zero_le _) (Nat.zero_le _) dX2_carry_8 ?_
      refine lv_astoreN (lv' := [(4, .null), (3, .ref (ad (13 + 3 * k))), (0, .ref (ad (0))), (1, .int (nI (k))), (2, .int (b0))]) hx hb dX2_carry_11 hl (by decide) rfl (fun ls hl => ?_)
      refine lv_aload_n hx hb dX2_carry_13 rfl (lv_at hl 1 rfl) ?_
      refine lv_ifnull hx hb dX2_carry_14 ?_
      refine lv_aloadN hx hb dX2_carry_17 (lv_at hl 0 rfl) ?_
      refine lv_ifnonnullN hx hb dX2_carry_19 ?_
      refine lv_iconst (v := (-1)) hx hb dX2_carry_22 (by decide) ?_
      have hP : va_P D vwCl (pic 33 ad (gE cI cW cM ad (nC_carry S ((nI k)) b0))) s.heap := by rw [show nC_carry S ((nI k)) b0 = S from by unfold nC_carry; (try dsimp only [cN, cC, cM_]); rw [rg_y (by omega) (by omega) (by omega), rg_n hs_8]]; exact hP
      exact g_iretW hx hb hrt hlocks hK hP (pic_D _ hD) hS dX2_carry_23 (by unfold sC_carry; (try dsimp only [cN, cC, cM_]); rw [rg_y (by omega) (by omega) (by omega), rg_n hs_8])
    | true =>
      obtain ⟨u, hu1, hu2, e9⟩ := rB_some (by omega) (by omega) hs_8
      subst e9
      have hu9 : u < 4 := by omega
      have qu1 := (hWF.2.1 u hu9).1
      have qu2 := pow4 qu1.2.1
      have qu3 : 0 < 2 ^ S (13 + 3 * u) 0 := Nat.pow_pos (by decide)
      have qu4 := sq4 qu2
      refine g_callV (0) (C := RX2) (T := TX2) (N := 7) (ci := 1) (As := [.int (nI (u))]) (rest := []) (c_X2_worldIn_y l hI hWt hMt hWF (k := u) (by omega)) (cwV 1 hts gX2_carry_X2_worldIn rfl rfl rfl (by decide +kernel) ⟨Nat.le_of_ble_eq_true rfl, Nat.le_of_ble_eq_true rfl⟩) hx hb hml hown hts hK hP  (by decide) rfl rfl rfl hl.1 rfl (Nat.le_of_ble_eq_true rfl) (Nat.zero_le _) (Nat.zero_le _) dX2_carry_8 ?_
      refine lv_astore (lv' := [(4, .ref (ad (13 + 3 * u))), (3, .ref (ad (13 + 3 * k))), (0, .ref (ad (0))), (1, .int (nI (k))), (2, .int (nI (u)))]) hx hb dX2_carry_11 hl (by decide) rfl (fun ls hl => ?_)
      refine lv_aload_n hx hb dX2_carry_13 rfl (lv_at hl 1 rfl) ?_
      refine lv_ifnull hx hb dX2_carry_14 ?_
      refine lv_aload hx hb dX2_carry_17 (lv_at hl 0 rfl) ?_
      refine lv_ifnonnull (tgt := 24) hx hb dX2_carry_19 (by decide) ?_
      refine lv_aload hx hb dX2_carry_24 (lv_at hl 0 rfl) ?_
      refine g_callV (13 + 3 * u) (C := RX1) (T := TX1) (N := 4) (ci := 0) (As := []) (rest := []) (c_X1_bits l hI (by omega) (gE_W hu9 (hWF.2.1 u hu9))) (cwV 0 hts gX2_carry_X1_bits rfl rfl rfl (by decide +kernel) ⟨Nat.le_of_ble_eq_true rfl, Nat.le_of_ble_eq_true rfl⟩) hx hb hml hown hts hK hP  (by omega) (gE_obj (isO_w hu9)) rfl rfl hl.1 rfl (Nat.le_of_ble_eq_true rfl) (Nat.zero_le _) (Nat.zero_le _) dX2_carry_26 ?_
      refine lv_istore (lv' := [(5, .int (nI (S (13 + 3 * u) 0))), (4, .ref (ad (13 + 3 * u))), (3, .ref (ad (13 + 3 * k))), (0, .ref (ad (0))), (1, .int (nI (k))), (2, .int (nI (u)))]) hx hb dX2_carry_29 hl (by decide) rfl (fun ls hl => ?_)
      refine lv_aload_n hx hb dX2_carry_31 rfl (lv_at hl 3 rfl) ?_
      refine lv_iload hx hb dX2_carry_32 (lv_at hl 0 rfl) ?_
      refine g_callV (0) (C := RX2) (T := TX2) (N := 7) (ci := 1) (As := [.int (nI (S (13 + 3 * u) 0))]) (rest := []) (c_X2_allMapsFit l hI hWt hMt hWF (N := S (13 + 3 * u) 0) (by omega)) (cwV 1 hts gX2_carry_X2_allMapsFit rfl rfl rfl (by decide +kernel) ⟨Nat.le_of_ble_eq_true rfl, Nat.le_of_ble_eq_true rfl⟩) hx hb hml hown hts hK hP  (by decide) rfl rfl rfl hl.1 rfl (Nat.le_of_ble_eq_true rfl) (Nat.zero_le _) (Nat.zero_le _) dX2_carry_34 ?_
      refine n_ifne_b (tgt := 43) hx hb dX2_carry_37 (by decide) (fun h_37 => ?_) (fun h_37 => ?_)
      · have hP : va_P D vwCl (pic 33 ad (gE cI cW cM ad (va_up S 9 (cf (S (13 + 3 * u) 0) (crS (S (13 + 3 * u) 0) (S (13 + 3 * u + 1)) (cM_ S)) (S 9) 0 0)))) s.heap := by rw [cf_00, va_up_same rfl]; exact hP
        refine n_iconst 0 hx hb dX2_carry_43 ?_
        refine lv_istore (lv' := [(6, .int (nI (0))), (5, .int (nI (S (13 + 3 * u) 0))), (4, .ref (ad (13 + 3 * u))), (3, .ref (ad (13 + 3 * k))), (0, .ref (ad (0))), (1, .int (nI (k))), (2, .int (nI (u)))]) hx hb dX2_carry_44 hl (by decide) rfl (fun ls hl => ?_)
        have L_46 : ∀ (r : Nat) (i : Nat), (i ≤ S (13 + 3 * u) 0) → (S (13 + 3 * u) 0 < i + r) → ∀ (H : Heap) (locs : List Loc), va_P D vwCl (pic 33 ad (gE cI cW cM ad (va_up S 9 (cf (S (13 + 3 * u) 0) (crS (S (13 + 3 * u) 0) (S (13 + 3 * u + 1)) (cM_ S)) (S 9) i 0)))) H → va_S A s.heap H locs → ∀ (ls : Array Slot), lv_has ls 10 [(0, .ref (ad (0))), (1, .int (nI (k))), (2, .int (nI (u))), (3, .ref (ad (13 + 3 * k))), (4, .ref (ad (13 + 3 * u))), (5, .int (nI (S (13 + 3 * u) 0))), (6, .int (nI (i)))] → W p l e ({ frames := 5, cells := 0, slots := 0, locals := 113 } : Room) s m args below meth c H locs 0 0 (MQ below (QW (some (.int (sC_carry (cN S) (cM_ S) ((nI k)) ((nI u))))) (PW D tys A 33 ad (gE cI cW cM ad (nC_carry S ((nI k)) ((nI u))))) A) args s 0 0 A) (F0 m 46 ls []) := by
          intro r
          induction r with
          | zero => intro i hi hr; intros; exact absurd hr (by omega)
          | succ r ih =>
            intro i hi hr H locs hP hS ls hl
            have ih_46 := ih
            refine lv_iload hx hb dX2_carry_46 (lv_at hl 6 rfl) ?_
            refine lv_iload hx hb dX2_carry_48 (lv_at hl 5 rfl) ?_
            refine n_ge (tgt := 139) hx hb dX2_carry_50 (by decide) (by omega) (by omega) (fun h_50 => ?_) (fun h_50 => ?_)
            · rw [show i = S (13 + 3 * u) 0 by omega] at hP
              refine lv_aload_n hx hb dX2_carry_139 rfl (lv_at hl 3 rfl) ?_
              refine lv_iload hx hb dX2_carry_140 (lv_at hl 5 rfl) ?_
              refine lv_aload_n hx hb dX2_carry_142 rfl (lv_at hl 0 rfl) ?_
              refine g_get (0) 3 (C := RX2) (T := TX2) (N := 7) (ci := 1) (ref := "CubeWorlds") hx hb hts (by decide +kernel) hown hK hP (by decide) rfl rfl (by decide) (by decide +kernel) rfl rfl dX2_carry_143 ?_
              refine g_callVW (13 + 3 * k) (C := RX1) (T := TX1) (N := 4) (ci := 0) (As := [.int (nI (S (13 + 3 * u) 0)), .ref (ad (9))]) (rest := []) (c_X1_take l hI (by omega) (gE_WS (S' := va_up S 9 (cf (S (13 + 3 * u) 0) (crS (S (13 + 3 * u) 0) (S (13 + 3 * u + 1)) (cM_ S)) (S 9) (S (13 + 3 * u) 0) 0)) hk9 (hWF.2.1 k hk9) (by repeat rw [va_up_o (by omega)]) (by repeat rw [va_up_o (by omega)]) (by repeat rw [va_up_o (by omega)])) (K := S (13 + 3 * u) 0) (cx := 9) (e0 := cf (S (13 + 3 * u) 0) (crS (S (13 + 3 * u) 0) (S (13 + 3 * u + 1)) (cM_ S)) (S 9) (S (13 + 3 * u) 0) 0) (by omega) (by decide) (by omega) (gIX 9 16 rfl (by decide) (va_up_at _ _ _))) (cwV 2 hts gX2_carry_X1_take rfl rfl rfl (by decide +kernel) ⟨Nat.le_of_ble_eq_true rfl, Nat.le_of_ble_eq_true rfl⟩) hx hb hml hown hts hK hP (pic_D _ hD) hS  (by omega) (gE_obj (isO_w hk9)) rfl rfl hl.1 rfl (Nat.le_of_ble_eq_true rfl) (Nat.zero_le _) (Nat.zero_le _) dX2_carry_146 (fun H locs hP hS => ?_)
              refine n_iconst 1 hx hb dX2_carry_149 ?_
              have hP : va_P D vwCl (pic 33 ad (gE cI cW cM ad (nC_carry S ((nI k)) ((nI u))))) H := by rw [show nC_carry S ((nI k)) ((nI u)) = newW S k (S (13 + 3 * u) 0) (crS (S (13 + 3 * u) 0) (S (13 + 3 * u + 1)) (cM_ S)) from by unfold nC_carry; (try dsimp only [cN, cC, cM_]); rw [rg_y (by omega) (by omega) (by omega), rg_y (by omega) (by omega) (by omega), if_pos h_37]]; unfold newW; rw [← gE_take (isO_w hk9) (ln_c hk9) (ln_t hk9), va_up_o (show 13 + 3 * k + 1 ≠ 9 by omega), va_up_o (show 13 + 3 * k + 2 ≠ 9 by omega)]; exact hP
              exact g_iretW hx hb hrt hlocks hK hP (pic_D _ hD) hS dX2_carry_150 (by unfold sC_carry; (try dsimp only [cN, cC, cM_]); rw [rg_y (by omega) (by omega) (by omega), rg_y (by omega) (by omega) (by omega), if_pos h_37])
            · have s1 := shl1_lt (k := i) (n := 4) (by omega)
              refine lv_aload_n hx hb dX2_carry_53 rfl (lv_at hl 0 rfl) ?_
              refine g_get (0) 1 (C := RX2) (T := TX2) (N := 7) (ci := 1) (ref := "CubeWorlds") hx hb hts (by decide +kernel) hown hK hP (by decide) rfl rfl (by decide) (by decide +kernel) rfl rfl dX2_carry_54 ?_
              refine n_iconst 0 hx hb dX2_carry_57 ?_
              refine g_aaldA (2) (0) hx hb hK hP (by decide) rfl hMt (by decide) (by decide) rfl dX2_carry_58 ?_
              refine lv_iload hx hb dX2_carry_59 (lv_at hl 5 rfl) ?_
              refine n_iconst 1 hx hb dX2_carry_61 ?_
              refine lv_iload hx hb dX2_carry_62 (lv_at hl 6 rfl) ?_
              refine n_ishl hx hb dX2_carry_64 (by omega) ?_
              refine g_callS (As := [.ref (ad (3 + 0)), .int (nI (S (13 + 3 * u) 0)), .int (nI (1 <<< i))]) (rest := []) (c_X2_sourceOf l hI (rI := 3 + 0) (f := S (3 + 0)) (by omega) (gIS (S := S) (S' := va_up S 9 (cf (S (13 + 3 * u) 0) (crS (S (13 + 3 * u) 0) (S (13 + 3 * u + 1)) (cM_ S)) (S 9) i 0)) _ 4 (ln_m (by omega)) (by decide) (by repeat rw [va_up_o (by omega)])) (nn := S (13 + 3 * u) 0) (V := 1 <<< i) (by omega) (fun i hi => hWF.2.2 0 (by decide) i hi) (by omega)) (va_cwS 3 hts gX2_carry_X2_sourceOf rfl rfl rfl (by decide +kernel) ⟨Nat.le_of_ble_eq_true rfl, Nat.le_of_ble_eq_true rfl⟩) hx hb hml hown hts hK hP  rfl hl.1 rfl (Nat.le_of_ble_eq_true rfl) (Nat.zero_le _) (Nat.zero_le _) dX2_carry_65 ?_
              refine lv_istore (lv' := [(7, .int (nI (src (S (3 + 0)) (S (13 + 3 * u) 0) (1 <<< i)))), (0, .ref (ad (0))), (1, .int (nI (k))), (2, .int (nI (u))), (3, .ref (ad (13 + 3 * k))), (4, .ref (ad (13 + 3 * u))), (5, .int (nI (S (13 + 3 * u) 0))), (6, .int (nI (i)))]) hx hb dX2_carry_68 hl (by decide) rfl (fun ls hl => ?_)
              refine n_iconst 0 hx hb dX2_carry_70 ?_
              refine lv_istore (lv' := [(8, .int (nI (0))), (7, .int (nI (src (S (3 + 0)) (S (13 + 3 * u) 0) (1 <<< i)))), (0, .ref (ad (0))), (1, .int (nI (k))), (2, .int (nI (u))), (3, .ref (ad (13 + 3 * k))), (4, .ref (ad (13 + 3 * u))), (5, .int (nI (S (13 + 3 * u) 0))), (6, .int (nI (i)))]) hx hb dX2_carry_71 hl (by decide) rfl (fun ls hl => ?_)
              have L_73 : ∀ (r : Nat) (j : Nat), (j ≤ S (13 + 3 * u) 0) → (S (13 + 3 * u) 0 < j + r) → ∀ (H : Heap) (locs : List Loc), va_P D vwCl (pic 33 ad (gE cI cW cM ad (va_up S 9 (cf (S (13 + 3 * u) 0) (crS (S (13 + 3 * u) 0) (S (13 + 3 * u + 1)) (cM_ S)) (S 9) i j)))) H → va_S A s.heap H locs → ∀ (ls : Array Slot), lv_has ls 10 [(0, .ref (ad (0))), (1, .int (nI (k))), (2, .int (nI (u))), (3, .ref (ad (13 + 3 * k))), (4, .ref (ad (13 + 3 * u))), (5, .int (nI (S (13 + 3 * u) 0))), (6, .int (nI (i))), (7, .int (nI (src (S (3 + 0)) (S (13 + 3 * u) 0) (1 <<< i)))), (8, .int (nI (j)))] → W p l e ({ frames := 5, cells := 0, slots := 0, locals := 113 } : Room) s m args below meth c H locs 0 0 (MQ below (QW (some (.int (sC_carry (cN S) (cM_ S) ((nI k)) ((nI u))))) (PW D tys A 33 ad (gE cI cW cM ad (nC_carry S ((nI k)) ((nI u))))) A) args s 0 0 A) (F0 m 73 ls []) := by
                intro r
                induction r with
                | zero => intro j hj hr2; intros; exact absurd hr2 (by omega)
                | succ r ih =>
                  intro j hj hr2 H locs hP hS ls hl
                  have ih_73 := ih
                  refine lv_iload hx hb dX2_carry_73 (lv_at hl 8 rfl) ?_
                  refine lv_iload hx hb dX2_carry_75 (lv_at hl 5 rfl) ?_
                  refine n_ge (tgt := 133) hx hb dX2_carry_77 (by decide) (by omega) (by omega) (fun h_77 => ?_) (fun h_77 => ?_)
                  · rw [show j = S (13 + 3 * u) 0 by omega, cf_row] at hP
                    refine n_iinc 6 1 (lv' := [(6, .int (nI (i + 1))), (0, .ref (ad (0))), (1, .int (nI (k))), (2, .int (nI (u))), (3, .ref (ad (13 + 3 * k))), (4, .ref (ad (13 + 3 * u))), (5, .int (nI (S (13 + 3 * u) 0))), (7, .int (nI (src (S (3 + 0)) (S (13 + 3 * u) 0) (1 <<< i)))), (8, .int (nI (j)))]) hx hb dX2_carry_133 hl rfl (by decide) rfl (fun ls hl => ?_)
                    refine n_goto 46 hx hb dX2_carry_136 (by decide) ?_
                    exact ih_46 (i + 1) (by omega) (by omega) _ _ hP hS _ (lv_sub hl [1, 2, 3, 4, 5, 6, 0] rfl)
                  · have s2 := shl1_lt (k := j) (n := 4) (by omega)
                    refine lv_aload_n hx hb dX2_carry_80 rfl (lv_at hl 0 rfl) ?_
                    refine g_get (0) 1 (C := RX2) (T := TX2) (N := 7) (ci := 1) (ref := "CubeWorlds") hx hb hts (by decide +kernel) hown hK hP (by decide) rfl rfl (by decide) (by decide +kernel) rfl rfl dX2_carry_81 ?_
                    refine n_iconst 1 hx hb dX2_carry_84 ?_
                    refine g_aaldA (2) (1) hx hb hK hP (by decide) rfl hMt (by decide) (by decide) rfl dX2_carry_85 ?_
                    refine lv_iload hx hb dX2_carry_86 (lv_at hl 5 rfl) ?_
                    refine n_iconst 1 hx hb dX2_carry_88 ?_
                    refine lv_iload hx hb dX2_carry_89 (lv_at hl 8 rfl) ?_
                    refine n_ishl hx hb dX2_carry_91 (by omega) ?_
                    refine g_callS (As := [.ref (ad (3 + 1)), .int (nI (S (13 + 3 * u) 0)), .int (nI (1 <<< j))]) (rest := []) (c_X2_sourceOf l hI (rI := 3 + 1) (f := S (3 + 1)) (by omega) (gIS (S := S) (S' := va_up S 9 (cf (S (13 + 3 * u) 0) (crS (S (13 + 3 * u) 0) (S (13 + 3 * u + 1)) (cM_ S)) (S 9) i j)) _ 4 (ln_m (by omega)) (by decide) (by repeat rw [va_up_o (by omega)])) (nn := S (13 + 3 * u) 0) (V := 1 <<< j) (by omega) (fun i hi => hWF.2.2 1 (by decide) i hi) (by omega)) (va_cwS 3 hts gX2_carry_X2_sourceOf rfl rfl rfl (by decide +kernel) ⟨Nat.le_of_ble_eq_true rfl, Nat.le_of_ble_eq_true rfl⟩) hx hb hml hown hts hK hP  rfl hl.1 rfl (Nat.le_of_ble_eq_true rfl) (Nat.zero_le _) (Nat.zero_le _) dX2_carry_92 ?_
                    refine lv_istore (lv' := [(9, .int (nI (src (S (3 + 1)) (S (13 + 3 * u) 0) (1 <<< j)))), (0, .ref (ad (0))), (1, .int (nI (k))), (2, .int (nI (u))), (3, .ref (ad (13 + 3 * k))), (4, .ref (ad (13 + 3 * u))), (5, .int (nI (S (13 + 3 * u) 0))), (6, .int (nI (i))), (7, .int (nI (src (S (3 + 0)) (S (13 + 3 * u) 0) (1 <<< i)))), (8, .int (nI (j)))]) hx hb dX2_carry_95 hl (by decide) rfl (fun ls hl => ?_)
                    refine lv_aload_n hx hb dX2_carry_97 rfl (lv_at hl 1 rfl) ?_
                    refine g_get (0) 3 (C := RX2) (T := TX2) (N := 7) (ci := 1) (ref := "CubeWorlds") hx hb hts (by decide +kernel) hown hK hP (by decide) rfl rfl (by decide) (by decide +kernel) rfl rfl dX2_carry_98 ?_
                    refine lv_iload hx hb dX2_carry_101 (lv_at hl 7 rfl) ?_
                    refine lv_iload hx hb dX2_carry_103 (lv_at hl 9 rfl) ?_
                    refine g_callS (As := [.int (nI (i)), .int (nI (j))]) (rest := [.ref (ad (9))]) (c_X2_cellIndex l hI (by omega) (gE_WS (S' := va_up S 9 (cf (S (13 + 3 * u) 0) (crS (S (13 + 3 * u) 0) (S (13 + 3 * u + 1)) (cM_ S)) (S 9) i j)) hk9 (hWF.2.1 k hk9) (by repeat rw [va_up_o (by omega)]) (by repeat rw [va_up_o (by omega)]) (by repeat rw [va_up_o (by omega)])) (I := i) (J := j) (by omega) (by omega)) (va_cwS 2 hts gX2_carry_X2_cellIndex rfl rfl rfl (by decide +kernel) ⟨Nat.le_of_ble_eq_true rfl, Nat.le_of_ble_eq_true rfl⟩) hx hb hml hown hts hK hP  rfl hl.1 rfl (Nat.le_of_ble_eq_true rfl) (Nat.zero_le _) (Nat.zero_le _) dX2_carry_105 ?_
                    refine lv_aload_n hx hb dX2_carry_108 rfl (lv_at hl 1 rfl) ?_
                    refine g_get (0) 1 (C := RX2) (T := TX2) (N := 7) (ci := 1) (ref := "CubeWorlds") hx hb hts (by decide +kernel) hown hK hP (by decide) rfl rfl (by decide) (by decide +kernel) rfl rfl dX2_carry_109 ?_
                    refine n_iconst 2 hx hb dX2_carry_112 ?_
                    refine g_aaldA (2) (2) hx hb hK hP (by decide) rfl hMt (by decide) (by decide) rfl dX2_carry_113 ?_
                    refine lv_aload hx hb dX2_carry_114 (lv_at hl 5 rfl) ?_
                    refine lv_iload hx hb dX2_carry_116 (lv_at hl 8 rfl) ?_
                    refine lv_iload hx hb dX2_carry_118 (lv_at hl 0 rfl) ?_
                    refine g_callV (13 + 3 * u) (C := RX1) (T := TX1) (N := 4) (ci := 0) (As := [.int (nI (src (S (3 + 0)) (S (13 + 3 * u) 0) (1 <<< i))), .int (nI (src (S (3 + 1)) (S (13 + 3 * u) 0) (1 <<< j)))]) (rest := [.ref (ad (3 + 2)), .int (nI (4 * i + j)), .ref (ad (9))]) (c_X1_times l hI (by omega) (gE_WS (S' := va_up S 9 (cf (S (13 + 3 * u) 0) (crS (S (13 + 3 * u) 0) (S (13 + 3 * u + 1)) (cM_ S)) (S 9) i j)) hu9 (hWF.2.1 u hu9) (by repeat rw [va_up_o (by omega)]) (by repeat rw [va_up_o (by omega)]) (by repeat rw [va_up_o (by omega)])) (X := src (S (3 + 0)) (S (13 + 3 * u) 0) (1 <<< i)) (Y := src (S (3 + 1)) (S (13 + 3 * u) 0) (1 <<< j)) (hWF.2.1 u hu9).2.2 (hWF.2.1 u hu9).1.2.1 src_lt src_lt) (cwV 2 hts gX2_carry_X1_times rfl rfl rfl (by decide +kernel) ⟨Nat.le_of_ble_eq_true rfl, Nat.le_of_ble_eq_true rfl⟩) hx hb hml hown hts hK hP  (by omega) (gE_obj (isO_w hu9)) rfl rfl hl.1 rfl (Nat.le_of_ble_eq_true rfl) (Nat.zero_le _) (Nat.zero_le _) dX2_carry_120 ?_
                    have t1 := tm_lt (hWF.2.1 u hu9).2.1 (src (S (3 + 0)) (S (13 + 3 * u) 0) (1 <<< i)) (src (S (3 + 1)) (S (13 + 3 * u) 0) (1 <<< j))
                    refine g_callS (As := [.ref (ad (3 + 2)), .int (nI (tm (S (13 + 3 * u) 0) (S (13 + 3 * u + 1)) (src (S (3 + 0)) (S (13 + 3 * u) 0) (1 <<< i)) (src (S (3 + 1)) (S (13 + 3 * u) 0) (1 <<< j))))]) (rest := [.int (nI (4 * i + j)), .ref (ad (9))]) (c_X2_sumOf l hI (rI := 3 + 2) (f := S (3 + 2)) (by omega) (gIS (S := S) (S' := va_up S 9 (cf (S (13 + 3 * u) 0) (crS (S (13 + 3 * u) 0) (S (13 + 3 * u + 1)) (cM_ S)) (S 9) i j)) _ 4 (ln_m (by omega)) (by decide) (by repeat rw [va_up_o (by omega)])) (X := tm (S (13 + 3 * u) 0) (S (13 + 3 * u + 1)) (src (S (3 + 0)) (S (13 + 3 * u) 0) (1 <<< i)) (src (S (3 + 1)) (S (13 + 3 * u) 0) (1 <<< j))) (by omega)) (va_cwS 2 hts gX2_carry_X2_sumOf rfl rfl rfl (by decide +kernel) ⟨Nat.le_of_ble_eq_true rfl, Nat.le_of_ble_eq_true rfl⟩) hx hb hml hown hts hK hP  rfl hl.1 rfl (Nat.le_of_ble_eq_true rfl) (Nat.zero_le _) (Nat.zero_le _) dX2_carry_123 ?_
                    refine n_eq (show nI (im (S (3 + 2)) (tm (S (13 + 3 * u) 0) (S (13 + 3 * u + 1)) (src (S (3 + 0)) (S (13 + 3 * u) 0) (1 <<< i)) (src (S (3 + 1)) (S (13 + 3 * u) 0) (1 <<< j)))) = nI (crS (S (13 + 3 * u) 0) (S (13 + 3 * u + 1)) (cM_ S) i j) from rfl) ?_
                    refine g_iast (9) (4 * i + j) (crS (S (13 + 3 * u) 0) (S (13 + 3 * u + 1)) (cM_ S) i j) hx hb hK hP (pic_D _ hD) hS (by decide) (gIX (S' := va_up S 9 (cf (S (13 + 3 * u) 0) (crS (S (13 + 3 * u) 0) (S (13 + 3 * u + 1)) (cM_ S)) (S 9) i j)) 9 16 rfl (by decide) (by exact va_up_at _ _ _)) hI (by omega) (by decide) dX2_carry_126 (fun H locs hP hS => ?_)
                    rw [gE_upL 9 16 rfl (by decide), va_up_up, cf_put (by omega) (by omega)] at hP
                    refine n_iinc 9 1 (lv' := [(8, .int (nI (j + 1))), (9, .int (nI (src (S (3 + 1)) (S (13 + 3 * u) 0) (1 <<< j)))), (0, .ref (ad (0))), (1, .int (nI (k))), (2, .int (nI (u))), (3, .ref (ad (13 + 3 * k))), (4, .ref (ad (13 + 3 * u))), (5, .int (nI (S (13 + 3 * u) 0))), (6, .int (nI (i))), (7, .int (nI (src (S (3 + 0)) (S (13 + 3 * u) 0) (1 <<< i))))]) hx hb dX2_carry_127 hl rfl (by decide) rfl (fun ls hl => ?_)
                    refine n_goto 73 hx hb dX2_carry_130 (by decide) ?_
                    exact ih_73 (j + 1) (by omega) (by omega) _ _ hP hS _ (lv_sub hl [2, 3, 4, 5, 6, 7, 8, 9, 0] rfl)
              exact L_73 (S (13 + 3 * u) 0 + 1) (0) (Nat.zero_le _) (by omega) _ _ hP hS _ (lv_sub hl [2, 3, 4, 5, 6, 7, 8, 1, 0] rfl)
        exact L_46 (S (13 + 3 * u) 0 + 1) (0) (Nat.zero_le _) (by omega) _ _ hP hS _ (lv_sub hl [4, 5, 6, 3, 2, 1, 0] rfl)
      · refine lv_bipush (v := (-3)) hx hb dX2_carry_40 (by decide) ?_
        have hP : va_P D vwCl (pic 33 ad (gE cI cW cM ad (nC_carry S ((nI k)) ((nI u))))) s.heap := by rw [show nC_carry S ((nI k)) ((nI u)) = S from by unfold nC_carry; (try dsimp only [cN, cC, cM_]); rw [rg_y (by omega) (by omega) (by omega), rg_y (by omega) (by omega) (by omega), if_neg (by rw [h_37]; decide)]]; exact hP
        exact g_iretW hx hb hrt hlocks hK hP (pic_D _ hD) hS dX2_carry_42 (by unfold sC_carry; (try dsimp only [cN, cC, cM_]); rw [rg_y (by omega) (by omega) (by omega), rg_y (by omega) (by omega) (by omega), if_neg (by rw [h_37]; decide)])
