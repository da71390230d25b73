/-! what the calls of CubeWorlds that write leave -/
/-- the places i, j below n of a cube's row are filled, up to row x, place y -/
def cf (n : Nat) (v : Nat → Nat → Nat) (e : Nat → Nat) (x y q : Nat) : Nat := if (q / 4 < x ∧ q % 4 < n) ∨ (q / 4 = x ∧ q % 4 < y) then v (q / 4) (q % 4) else e q
theorem cf_00 (n : Nat) (v : Nat → Nat → Nat) (e : Nat → Nat) : cf n v e 0 0 = e := by
  funext q
  unfold cf
  rw [if_neg (by omega)]
theorem cf_put {n : Nat} {v : Nat → Nat → Nat} {e : Nat → Nat} {i j : Nat} (hj : j < n) (hn : n ≤ 4) : va_up (cf n v e i j) (4 * i + j) (v i j) = cf n v e i (j + 1) := by
  funext q
  unfold va_up cf
  by_cases h : q = 4 * i + j
  · have h1 : q / 4 = i := by omega
    have h2 : q % 4 = j := by omega
    rw [if_pos h, h1, h2, if_pos (by omega)]
  · rw [if_neg h]
    by_cases h2 : (q / 4 < i ∧ q % 4 < n) ∨ (q / 4 = i ∧ q % 4 < j)
    · rw [if_pos h2, if_pos (by omega)]
    · rw [if_neg h2, if_neg (by omega)]
theorem cf_row {n : Nat} {v : Nat → Nat → Nat} {e : Nat → Nat} {i : Nat} : cf n v e i n = cf n v e (i + 1) 0 := by
  funext q
  unfold cf
  by_cases h : (q / 4 < i ∧ q % 4 < n) ∨ (q / 4 = i ∧ q % 4 < n)
  · rw [if_pos h, if_pos (by omega)]
  · rw [if_neg h, if_neg (by omega)]
theorem cf_at {n : Nat} {v : Nat → Nat → Nat} {e : Nat → Nat} {i j : Nat} (hi : i < n) (hj : j < n) (hn : n ≤ 4) : cf n v e n 0 (4 * i + j) = v i j := by
  unfold cf
  have h1 : (4 * i + j) / 4 = i := by omega
  have h2 : (4 * i + j) % 4 = j := by omega
  rw [h1, h2, if_pos (by omega)]
def takeS (S : Nat → Nat → Nat) (b K : Nat) (e : Nat → Nat) : Nat → Nat → Nat :=
  va_up (va_up (va_up S b (obS K (2 ^ K))) (b + 1) (cpy e (S (b + 1)) 16)) (b + 2) (pf K (cpy e (S (b + 1)) 16) (S (b + 2)) (2 ^ K) 0)
/-- slot k gets the world of K whose products of bits are v -/
def newW (S : Nat → Nat → Nat) (k K : Nat) (v : Nat → Nat → Nat) : Nat → Nat → Nat :=
  takeS (va_up S 9 (cf K v (S 9) K 0)) (13 + 3 * k) K (cf K v (S 9) K 0)
def putS (S : Nat → Nat → Nat) (k I J V : Nat) : Nat → Nat → Nat :=
  va_up (va_up S (13 + 3 * k + 1) (va_up (S (13 + 3 * k + 1)) (4 * I + J) V)) (13 + 3 * k + 2) (pf (S (13 + 3 * k) 0) (va_up (S (13 + 3 * k + 1)) (4 * I + J) V) (S (13 + 3 * k + 2)) (2 ^ S (13 + 3 * k) 0) 0)
section GF
variable {cI cW cM : ClassId} {ad : Nat → Nat} {S S' : Nat → Nat → Nat}
theorem gE_upL (i L : Nat) (h : ln i = L) (h0 : L ≠ 0) (f : Nat → Nat) : va_up (gE cI cW cM ad S) i (.inl (cI, L, .inl (nF f))) = gE cI cW cM ad (va_up S i f) := by
  subst h
  exact gE_up h0 f
theorem gIS (i L : Nat) (h : ln i = L) (h0 : L ≠ 0) (hS : S' i = S i) : gE cI cW cM ad S' i = .inl (cI, L, .inl (nF (S i))) := by
  rw [← hS]
  exact gI i L h h0
theorem gE_WS {k : Nat} (h : k < 4) (hw : wf S (13 + 3 * k)) (h0 : S' (13 + 3 * k) = S (13 + 3 * k)) (h1 : S' (13 + 3 * k + 1) = S (13 + 3 * k + 1)) (h2 : S' (13 + 3 * k + 2) = S (13 + 3 * k + 2)) : isW cI ad (gE cI cW cM ad S') (13 + 3 * k) (S (13 + 3 * k) 0) (S (13 + 3 * k + 1)) (S (13 + 3 * k + 2)) :=
  ⟨by rw [gE_obj (isO_w h), h0, hw.1.2.2], gIS _ 16 (ln_c h) (by decide) h1, gIS _ 256 (ln_t h) (by decide) h2⟩
theorem gE_take {b K : Nat} {e : Nat → Nat} (hb : isO b = true) (h1 : ln (b + 1) = 16) (h2 : ln (b + 2) = 256) : va_up (va_up (va_up (gE cI cW cM ad S) b (.inr (0, [.int (nI K), .int (nI (2 ^ K)), .ref (ad (b + 1)), .ref (ad (b + 2))]))) (b + 1) (.inl (cI, 16, .inl (nF (cpy e (S (b + 1)) 16))))) (b + 2) (.inl (cI, 256, .inl (nF (pf K (cpy e (S (b + 1)) 16) (S (b + 2)) (2 ^ K) 0)))) = gE cI cW cM ad (takeS S b K e) := by
  rw [gE_ob hb, gE_upL _ 16 h1 (by decide), gE_upL _ 256 h2 (by decide)]
  rfl
theorem gE_put {k I J V : Nat} (h : k < 4) : va_up (va_up (gE cI cW cM ad S) (13 + 3 * k + 1) (.inl (cI, 16, .inl (nF (va_up (S (13 + 3 * k + 1)) (4 * I + J) V))))) (13 + 3 * k + 2) (.inl (cI, 256, .inl (nF (pf (S (13 + 3 * k) 0) (va_up (S (13 + 3 * k + 1)) (4 * I + J) V) (S (13 + 3 * k + 2)) (2 ^ S (13 + 3 * k) 0) 0)))) = gE cI cW cM ad (putS S k I J V) := by
  rw [gE_upL _ 16 (ln_c h) (by decide), gE_upL _ 256 (ln_t h) (by decide)]
  rfl
end GF
theorem up9 (S : Nat → Nat → Nat) (i : Nat) (f g : Nat → Nat) : va_up (va_up S i f) i (va_up S i g i) = va_up S i g := by rw [va_up_up, va_up_at]
abbrev cU (S : Nat → Nat → Nat) (k q : Nat) : Nat := S (13 + 3 * k + 1) q
def sC_world (a x : Int32) : Int32 := rg 0 3 a (-1) fun _ => rg 1 4 x (-2) fun N => nI (2 ^ N)
def nC_world (S : Nat → Nat → Nat) (a x : Int32) : Nat → Nat → Nat := rg 0 3 a S fun k => rg 1 4 x S fun N => newW S k N (fun _ _ => 0)
def sC_put (n : Nat → Nat) (c : Nat → Nat → Nat) (a x y v : Int32) : Int32 := rg 0 3 a (-1) fun k => rg 0 (2 ^ n k - 1) v (-1) fun V => rg 0 (n k - 1) x (-2) fun I => rg 0 (n k - 1) y (-2) fun J => nI (c k (4 * I + J))
def nC_put (S : Nat → Nat → Nat) (a x y v : Int32) : Nat → Nat → Nat := rg 0 3 a S fun k => rg 0 (2 ^ cN S k - 1) v S fun V => rg 0 (cN S k - 1) x S fun I => rg 0 (cN S k - 1) y S fun J => putS S k I J V
def sC_turn (a b w : Int32) : Int32 := rg 0 3 a (-1) fun _ => rg 0 3 b (-1) fun _ => rg 0 5 w (-2) fun _ => 1
def nC_turn (S : Nat → Nat → Nat) (a b w : Int32) : Nat → Nat → Nat := rg 0 3 a S fun k => rg 0 3 b S fun j => rg 0 5 w S fun T => newW S k (cN S j) (tcS (cN S j) (cC S j) T)
def sC_carry (n : Nat → Nat) (M : Nat → Nat → Nat) (a b : Int32) : Int32 := rg 0 3 a (-1) fun _ => rg 0 3 b (-1) fun j => if amf M (n j) then 1 else -3
def crS (n : Nat) (c : Nat → Nat) (M : Nat → Nat → Nat) (i j : Nat) : Nat := im (M 2) (tm n c (src (M 0) n (1 <<< i)) (src (M 1) n (1 <<< j)))
def nC_carry (S : Nat → Nat → Nat) (a b : Int32) : Nat → Nat → Nat := rg 0 3 a S fun k => rg 0 3 b S fun j => if amf (cM_ S) (cN S j) then newW S k (cN S j) (crS (cN S j) (cC S j) (cM_ S)) else S
def sC_map (M : Nat → Nat → Nat) (a x v : Int32) : Int32 := rg 0 2 a (-1) fun m => rg 0 3 x (-2) fun I => rg 0 15 v (-2) fun _ => nI (M m I)
def nC_map (S : Nat → Nat → Nat) (a x v : Int32) : Nat → Nat → Nat := rg 0 2 a S fun m => rg 0 3 x S fun I => rg 0 15 v S fun V => va_up S (3 + m) (va_up (S (3 + m)) I V)
theorem src_lt {f : Nat → Nat} {n v : Nat} : src f n v < 2 ^ n := by
  unfold src
  cases e : fl (fun x => im f x == v) 0 (2 ^ n) with
  | none => exact Nat.pow_pos (by decide)
  | some k => have := (fl_some e).2.1; show k < 2 ^ n; omega
theorem gIX {cI cW cM : ClassId} {ad : Nat → Nat} {S' : Nat → Nat → Nat} {f : Nat → Nat} (i L : Nat) (h : ln i = L) (h0 : L ≠ 0) (hS : S' i = f) : gE cI cW cM ad S' i = .inl (cI, L, .inl (nF f)) := by
  rw [← hS]
  exact gI i L h h0
theorem isW.up12 {cI : ClassId} {ad : Nat → Nat} {E : Nat → va_E} {b K : Nat} {c t : Nat → Nat} : isW cI ad (va_up (va_up (va_up E b (.inr (0, [.int (nI K), .int (nI (2 ^ K)), .ref (ad (b + 1)), .ref (ad (b + 2))]))) (b + 1) (.inl (cI, 16, .inl (nF c)))) (b + 2) (.inl (cI, 256, .inl (nF t)))) b K c t :=
  ⟨by rw [va_up_o (by omega), va_up_o (by omega), va_up_at], by rw [va_up_o (by omega), va_up_at], va_up_at _ _ _⟩

set_option maxHeartbeats 4000000 in
set_option maxRecDepth 100000 in
theorem c_X2_put (l : Launch) {D : va_G} {tys : List (ClassId × FieldType)} {A : Nat → Prop} {ad : Nat → Nat} {cI cW cM : ClassId} {tI tW tM : Nat} {S : Nat → Nat → Nat} (hI : tys[tI]? = some (cI, .int)) (hWt : tys[tW]? = some (cW, .object "CubeWorlds$World")) (hMt : tys[tM]? = some (cM, .array .int)) (hWF : WF S) {a x y v : Int32} : Met l yX2_put wsX2_put ({ frames := 5, cells := 0, slots := 0, locals := 113 } : Room) (va_Pc [.ref (ad (0)), .int (a), .int (x), .int (y), .int (v)] (PW D tys A 33 ad (gE cI cW cM ad S))) (QW (some (.int (sC_put (cN S) (cC S) a x y v))) (PW D tys A 33 ad (gE cI cW cM ad (nC_put S a x y v))) A) 0 0 A := by
  refine g_writes (cc := cX2_put) (maxL := 7) (ret := (some .int)) (by decide) rfl (Nat.le_of_ble_eq_true rfl) ?_
  intro p e s m args below meth c hx hb hrt hts hown hlocks hml hP hK hD hS ls hl
  show W p l e ({ frames := 5, cells := 0, slots := 0, locals := 113 } : Room) s m args below meth c s.heap [] 0 0 _ _
  have hl : lv_has ls 7 [(0, .ref (ad (0))), (1, .int (a)), (2, .int (x)), (3, .int (y)), (4, .int (v))] := hl
  refine lv_aload_n hx hb dX2_put_0 rfl (lv_at hl 0 rfl) ?_
  refine lv_iload_n hx hb dX2_put_1 rfl (lv_at hl 1 rfl) ?_
  cases hs_2 : rB 0 3 a with
  | false =>
    refine g_callV (0) (C := RX2) (T := TX2) (N := 7) (ci := 1) (As := [.int (a)]) (rest := []) (c_X2_worldIn_n l hI hWt hMt hWF hs_2) (cwV 1 hts gX2_put_X2_worldIn rfl rfl rfl (by decide +kernel) ⟨Nat.le_of_ble_eq_true rfl, Nat.le_of_ble_eq_true rfl⟩) hx hb hml hown hts hK hP  (by decide) rfl rfl rfl hl.1 rfl (Nat.le_of_ble_eq_true rfl) (Nat.zero_le _) (Nat.zero_le _) dX2_put_2 ?_
    refine lv_astoreN (lv' := [(5, .null), (0, .ref (ad (0))), (1, .int (a)), (2, .int (x)), (3, .int (y)), (4, .int (v))]) hx hb dX2_put_5 hl (by decide) rfl (fun ls hl => ?_)
    refine lv_aloadN hx hb dX2_put_7 (lv_at hl 0 rfl) ?_
    refine lv_ifnullN (tgt := 22) hx hb dX2_put_9 (by decide) ?_
    refine lv_iconst (v := (-1)) hx hb dX2_put_22 (by decide) ?_
    have hP : va_P D vwCl (pic 33 ad (gE cI cW cM ad (nC_put S a x y v))) s.heap := by rw [show nC_put S a x y v = S from by unfold nC_put; (try dsimp only [cN, cC, cM_]); rw [rg_n hs_2]]; exact hP
    exact g_iretW hx hb hrt hlocks hK hP (pic_D _ hD) hS dX2_put_23 (by unfold sC_put; (try dsimp only [cN, cC, cM_]); rw [rg_n hs_2])
  | true =>
    obtain ⟨k, hk1, hk2, e9⟩ := rB_some (by omega) (by omega) hs_2
    subst e9
    have hk9 : k < 4 := by omega
    have qk1 := (hWF.2.1 k hk9).1
    have qk2 := pow4 qk1.2.1
    have qk3 : 0 < 2 ^ S (13 + 3 * k) 0 := Nat.pow_pos (by decide)
    have qk4 := sq4 qk2
    refine g_callV (0) (C := RX2) (T := TX2) (N := 7) (ci := 1) (As := [.int (nI (k))]) (rest := []) (c_X2_worldIn_y l hI hWt hMt hWF (k := k) (by omega)) (cwV 1 hts gX2_put_X2_worldIn rfl rfl rfl (by decide +kernel) ⟨Nat.le_of_ble_eq_true rfl, Nat.le_of_ble_eq_true rfl⟩) hx hb hml hown hts hK hP  (by decide) rfl rfl rfl hl.1 rfl (Nat.le_of_ble_eq_true rfl) (Nat.zero_le _) (Nat.zero_le _) dX2_put_2 ?_
    refine lv_astore (lv' := [(5, .ref (ad (13 + 3 * k))), (0, .ref (ad (0))), (1, .int (nI (k))), (2, .int (x)), (3, .int (y)), (4, .int (v))]) hx hb dX2_put_5 hl (by decide) rfl (fun ls hl => ?_)
    refine lv_aload hx hb dX2_put_7 (lv_at hl 0 rfl) ?_
    refine lv_ifnull hx hb dX2_put_9 ?_
    refine lv_aload hx hb dX2_put_12 (lv_at hl 0 rfl) ?_
    refine lv_iload hx hb dX2_put_14 (lv_at hl 5 rfl) ?_
    refine g_callV (13 + 3 * k) (C := RX1) (T := TX1) (N := 4) (ci := 0) (As := [.int (v)]) (rest := []) (c_X1_has l hI (by omega) (gE_W hk9 (hWF.2.1 k hk9)) (x := v) (hWF.2.1 k hk9).1.2.1 (hWF.2.1 k hk9).1.1) (cwV 1 hts gX2_put_X1_has rfl rfl rfl (by decide +kernel) ⟨Nat.le_of_ble_eq_true rfl, Nat.le_of_ble_eq_true rfl⟩) hx hb hml hown hts hK hP  (by omega) (gE_obj (isO_w hk9)) rfl rfl hl.1 rfl (Nat.le_of_ble_eq_true rfl) (Nat.zero_le _) (Nat.zero_le _) dX2_put_16 ?_
    refine n_ifne_b (tgt := 24) hx hb dX2_put_19 (by decide) (fun h_19 => ?_) (fun h_19 => ?_)
    · obtain ⟨V, hV1, hV2, e9⟩ := rB_some (by omega) (by omega) h_19
      subst e9
      refine lv_aload hx hb dX2_put_24 (lv_at hl 0 rfl) ?_
      refine lv_iload_n hx hb dX2_put_26 rfl (lv_at hl 3 rfl) ?_
      refine g_callV (13 + 3 * k) (C := RX1) (T := TX1) (N := 4) (ci := 0) (As := [.int (x)]) (rest := []) (c_X1_hasBit l hI (by omega) (gE_W hk9 (hWF.2.1 k hk9)) (x := x) (hWF.2.1 k hk9).1.2.1 (hWF.2.1 k hk9).1.1) (cwV 1 hts gX2_put_X1_hasBit rfl rfl rfl (by decide +kernel) ⟨Nat.le_of_ble_eq_true rfl, Nat.le_of_ble_eq_true rfl⟩) hx hb hml hown hts hK hP  (by omega) (gE_obj (isO_w hk9)) rfl rfl hl.1 rfl (Nat.le_of_ble_eq_true rfl) (Nat.zero_le _) (Nat.zero_le _) dX2_put_27 ?_
      refine n_ifeq_b (tgt := 42) hx hb dX2_put_30 (by decide) (fun h_30 => ?_) (fun h_30 => ?_)
      · refine lv_bipush (v := (-2)) hx hb dX2_put_42 (by decide) ?_
        have hP : va_P D vwCl (pic 33 ad (gE cI cW cM ad (nC_put S ((nI k)) x y ((nI V))))) s.heap := by rw [show nC_put S ((nI k)) x y ((nI V)) = S from by unfold nC_put; (try dsimp only [cN, cC, cM_]); rw [rg_y (by omega) (by omega) (by omega), rg_y (by omega) (by omega) (by omega), rg_n h_30]]; exact hP
        exact g_iretW hx hb hrt hlocks hK hP (pic_D _ hD) hS dX2_put_44 (by unfold sC_put; (try dsimp only [cN, cC, cM_]); rw [rg_y (by omega) (by omega) (by omega), rg_y (by omega) (by omega) (by omega), rg_n h_30])
      · obtain ⟨I, hI1, hI2, e9⟩ := rB_some (by omega) (by omega) h_30
        subst e9
        refine lv_aload hx hb dX2_put_33 (lv_at hl 0 rfl) ?_
        refine lv_iload_n hx hb dX2_put_35 rfl (lv_at hl 4 rfl) ?_
        refine g_callV (13 + 3 * k) (C := RX1) (T := TX1) (N := 4) (ci := 0) (As := [.int (y)]) (rest := []) (c_X1_hasBit l hI (by omega) (gE_W hk9 (hWF.2.1 k hk9)) (x := y) (hWF.2.1 k hk9).1.2.1 (hWF.2.1 k hk9).1.1) (cwV 1 hts gX2_put_X1_hasBit rfl rfl rfl (by decide +kernel) ⟨Nat.le_of_ble_eq_true rfl, Nat.le_of_ble_eq_true rfl⟩) hx hb hml hown hts hK hP  (by omega) (gE_obj (isO_w hk9)) rfl rfl hl.1 rfl (Nat.le_of_ble_eq_true rfl) (Nat.zero_le _) (Nat.zero_le _) dX2_put_36 ?_
        refine n_ifne_b (tgt := 45) hx hb dX2_put_39 (by decide) (fun h_39 => ?_) (fun h_39 => ?_)
        · obtain ⟨J, hJ1, hJ2, e9⟩ := rB_some (by omega) (by omega) h_39
          subst e9
          refine lv_aload hx hb dX2_put_45 (lv_at hl 0 rfl) ?_
          refine lv_iload_n hx hb dX2_put_47 rfl (lv_at hl 3 rfl) ?_
          refine lv_iload_n hx hb dX2_put_48 rfl (lv_at hl 4 rfl) ?_
          refine g_callV (13 + 3 * k) (C := RX1) (T := TX1) (N := 4) (ci := 0) (As := [.int (nI (I)), .int (nI (J))]) (rest := []) (c_X1_cell l hI (by omega) (gE_W hk9 (hWF.2.1 k hk9)) (I := I) (J := J) (by omega) (by omega)) (cwV 2 hts gX2_put_X1_cell rfl rfl rfl (by decide +kernel) ⟨Nat.le_of_ble_eq_true rfl, Nat.le_of_ble_eq_true rfl⟩) hx hb hml hown hts hK hP  (by omega) (gE_obj (isO_w hk9)) rfl rfl hl.1 rfl (Nat.le_of_ble_eq_true rfl) (Nat.zero_le _) (Nat.zero_le _) dX2_put_49 ?_
          refine lv_istore (lv' := [(6, .int (nI ((S (13 + 3 * k + 1)) (4 * I + J)))), (5, .ref (ad (13 + 3 * k))), (0, .ref (ad (0))), (1, .int (nI (k))), (2, .int (nI (I))), (3, .int (nI (J))), (4, .int (nI (V)))]) hx hb dX2_put_52 hl (by decide) rfl (fun ls hl => ?_)
          refine lv_aload hx hb dX2_put_54 (lv_at hl 1 rfl) ?_
          refine lv_iload_n hx hb dX2_put_56 rfl (lv_at hl 4 rfl) ?_
          refine lv_iload_n hx hb dX2_put_57 rfl (lv_at hl 5 rfl) ?_
          refine lv_iload hx hb dX2_put_58 (lv_at hl 6 rfl) ?_
          refine g_callVW (13 + 3 * k) (C := RX1) (T := TX1) (N := 4) (ci := 0) (As := [.int (nI (I)), .int (nI (J)), .int (nI (V))]) (rest := []) (c_X1_changeCell l hI (by omega) (gE_W hk9 (hWF.2.1 k hk9)) (I := I) (J := J) (V := V) (hWF.2.1 k hk9).1.2.1 (by omega) (by omega)) (cwV 3 hts gX2_put_X1_changeCell rfl rfl rfl (by decide +kernel) ⟨Nat.le_of_ble_eq_true rfl, Nat.le_of_ble_eq_true rfl⟩) hx hb hml hown hts hK hP (pic_D _ hD) hS  (by omega) (gE_obj (isO_w hk9)) rfl rfl hl.1 rfl (Nat.le_of_ble_eq_true rfl) (Nat.zero_le _) (Nat.zero_le _) dX2_put_60 (fun H locs hP hS => ?_)
          refine lv_iload hx hb dX2_put_63 (lv_at hl 0 rfl) ?_
          have hP : va_P D vwCl (pic 33 ad (gE cI cW cM ad (nC_put S ((nI k)) ((nI I)) ((nI J)) ((nI V))))) H := by rw [show nC_put S ((nI k)) ((nI I)) ((nI J)) ((nI V)) = putS S k I J V from by unfold nC_put; (try dsimp only [cN, cC, cM_]); rw [rg_y (by omega) (by omega) (by omega), rg_y (by omega) (by omega) (by omega), rg_y (by omega) (by omega) (by omega), rg_y (by omega) (by omega) (by omega)]]; rw [← gE_put hk9]; exact hP
          exact g_iretW hx hb hrt hlocks hK hP (pic_D _ hD) hS dX2_put_65 (by unfold sC_put; (try dsimp only [cN, cC, cM_]); rw [rg_y (by omega) (by omega) (by omega), rg_y (by omega) (by omega) (by omega), rg_y (by omega) (by omega) (by omega), rg_y (by omega) (by omega) (by omega)])
        · refine lv_bipush (v := (-2)) hx hb dX2_put_42 (by decide) ?_
          have hP : va_P D vwCl (pic 33 ad (gE cI cW cM ad (nC_put S ((nI k)) ((nI I)) y ((nI V))))) s.heap := by rw [show nC_put S ((nI k)) ((nI I)) y ((nI V)) = S from by unfold nC_put; (try dsimp only [cN, cC, cM_]); rw [rg_y (by omega) (by omega) (by omega), rg_y (by omega) (by omega) (by omega), rg_y (by omega) (by omega) (by omega), rg_n h_39]]; exact hP
          exact g_iretW hx hb hrt hlocks hK hP (pic_D _ hD) hS dX2_put_44 (by unfold sC_put; (try dsimp only [cN, cC, cM_]); rw [rg_y (by omega) (by omega) (by omega), rg_y (by omega) (by omega) (by omega), rg_y (by omega) (by omega) (by omega), rg_n h_39])
    · refine lv_iconst (v := (-1)) hx hb dX2_put_22 (by decide) ?_
      have hP : va_P D vwCl (pic 33 ad (gE cI cW cM ad (nC_put S ((nI k)) x y v))) s.heap := by rw [show nC_put S ((nI k)) x y v = S from by unfold nC_put; (try dsimp only [cN, cC, cM_]); rw [rg_y (by omega) (by omega) (by omega), rg_n h_19]]; exact hP
      exact g_iretW hx hb hrt hlocks hK hP (pic_D _ hD) hS dX2_put_23 (by unfold sC_put; (try dsimp only [cN, cC, cM_]); rw [rg_y (by omega) (by omega) (by omega), rg_n h_19])
set_option maxHeartbeats 4000000 in
set_option maxRecDepth 100000 in
theorem c_X2_map (l : Launch) {D : va_G} {tys : List (ClassId × FieldType)} {A : Nat → Prop} {ad : Nat → Nat} {cI cW cM : ClassId} {tI tW tM : Nat} {S : Nat → Nat → Nat} (hI : tys[tI]? = some (cI, .int)) (hWt : tys[tW]? = some (cW, .object "CubeWorlds$World")) (hMt : tys[tM]? = some (cM, .array .int)) (hWF : WF S) {a x v : Int32} : Met l yX2_map wsX2_map ({ frames := 1, cells := 0, slots := 0, locals := 21 } : Room) (va_Pc [.ref (ad (0)), .int (a), .int (x), .int (v)] (PW D tys A 33 ad (gE cI cW cM ad S))) (QW (some (.int (sC_map (cM_ S) a x v))) (PW D tys A 33 ad (gE cI cW cM ad (nC_map S a x v))) A) 0 0 A := by
  refine g_writes (cc := cX2_map) (maxL := 6) (ret := (some .int)) (by decide) rfl (Nat.le_of_ble_eq_true rfl) ?_
  intro p e s m args below meth c hx hb hrt hts hown hlocks hml hP hK hD hS ls hl
  show W p l e ({ frames := 1, cells := 0, slots := 0, locals := 21 } : Room) s m args below meth c s.heap [] 0 0 _ _
  have hl : lv_has ls 6 [(0, .ref (ad (0))), (1, .int (a)), (2, .int (x)), (3, .int (v))] := hl
  refine lv_aload_n hx hb dX2_map_0 rfl (lv_at hl 0 rfl) ?_
  refine lv_iload_n hx hb dX2_map_1 rfl (lv_at hl 1 rfl) ?_
  cases hs_2 : rB 0 2 a with
  | false =>
    refine g_callV (0) (C := RX2) (T := TX2) (N := 7) (ci := 1) (As := [.int (a)]) (rest := []) (c_X2_mapAt_n l hI hWt hMt hWF hs_2) (cwV 1 hts gX2_map_X2_mapAt rfl rfl rfl (by decide +kernel) ⟨Nat.le_of_ble_eq_true rfl, Nat.le_of_ble_eq_true rfl⟩) hx hb hml hown hts hK hP  (by decide) rfl rfl rfl hl.1 rfl (Nat.le_of_ble_eq_true rfl) (Nat.zero_le _) (Nat.zero_le _) dX2_map_2 ?_
    refine lv_astoreN (lv' := [(4, .null), (0, .ref (ad (0))), (1, .int (a)), (2, .int (x)), (3, .int (v))]) hx hb dX2_map_5 hl (by decide) rfl (fun ls hl => ?_)
    refine lv_aloadN hx hb dX2_map_7 (lv_at hl 0 rfl) ?_
    refine lv_ifnonnullN hx hb dX2_map_9 ?_
    refine lv_iconst (v := (-1)) hx hb dX2_map_12 (by decide) ?_
    have hP : va_P D vwCl (pic 33 ad (gE cI cW cM ad (nC_map S a x v))) s.heap := by rw [show nC_map S a x v = S from by unfold nC_map; (try dsimp only [cN, cC, cM_]); rw [rg_n hs_2]]; exact hP
    exact g_iretW hx hb hrt hlocks hK hP (pic_D _ hD) hS dX2_map_13 (by unfold sC_map; (try dsimp only [cN, cC, cM_]); rw [rg_n hs_2])
  | true =>
    obtain ⟨m, hm1, hm2, e9⟩ := rB_some (by omega) (by omega) hs_2
    subst e9
    have hm9 : m < 3 := by omega
    refine g_callV (0) (C := RX2) (T := TX2) (N := 7) (ci := 1) (As := [.int (nI (m))]) (rest := []) (c_X2_mapAt_y l hI hWt hMt hWF (k := m) (by omega)) (cwV 1 hts gX2_map_X2_mapAt rfl rfl rfl (by decide +kernel) ⟨Nat.le_of_ble_eq_true rfl, Nat.le_of_ble_eq_true rfl⟩) hx hb hml hown hts hK hP  (by decide) rfl rfl rfl hl.1 rfl (Nat.le_of_ble_eq_true rfl) (Nat.zero_le _) (Nat.zero_le _) dX2_map_2 ?_
    refine lv_astore (lv' := [(4, .ref (ad (3 + m))), (0, .ref (ad (0))), (1, .int (nI (m))), (2, .int (x)), (3, .int (v))]) hx hb dX2_map_5 hl (by decide) rfl (fun ls hl => ?_)
    refine lv_aload hx hb dX2_map_7 (lv_at hl 0 rfl) ?_
    refine lv_ifnonnull (tgt := 14) hx hb dX2_map_9 (by decide) ?_
    cases hs_14 : rB 0 3 x with
    | false =>
      refine lv_iload_n hx hb dX2_map_14 rfl (lv_at hl 3 rfl) ?_
      refine lv_if_lt (tgt := 32) hx hb dX2_map_15 (by decide) (fun h_15 => ?_) (fun h_15 => ?_)
      · refine lv_bipush (v := (-2)) hx hb dX2_map_32 (by decide) ?_
        have hP : va_P D vwCl (pic 33 ad (gE cI cW cM ad (nC_map S ((nI m)) x v))) s.heap := by rw [show nC_map S ((nI m)) x v = S from by unfold nC_map; (try dsimp only [cN, cC, cM_]); rw [rg_y (by omega) (by omega) (by omega), rg_n hs_14]]; exact hP
        exact g_iretW hx hb hrt hlocks hK hP (pic_D _ hD) hS dX2_map_34 (by unfold sC_map; (try dsimp only [cN, cC, cM_]); rw [rg_y (by omega) (by omega) (by omega), rg_n hs_14])
      · refine lv_iload_n hx hb dX2_map_18 rfl (lv_at hl 3 rfl) ?_
        refine lv_aload hx hb dX2_map_19 (lv_at hl 0 rfl) ?_
        refine g_alen (3 + m) hx hb hK hP (by omega) (gI _ 4 (ln_m (by omega)) (by decide)) hI dX2_map_21 ?_
        refine lv_icmp_ge (tgt := 32) hx hb dX2_map_22 (by decide) (fun h_22 => ?_) (fun h_22 => ?_)
        · refine lv_bipush (v := (-2)) hx hb dX2_map_32 (by decide) ?_
          have hP : va_P D vwCl (pic 33 ad (gE cI cW cM ad (nC_map S ((nI m)) x v))) s.heap := by rw [show nC_map S ((nI m)) x v = S from by unfold nC_map; (try dsimp only [cN, cC, cM_]); rw [rg_y (by omega) (by omega) (by omega), rg_n hs_14]]; exact hP
          exact g_iretW hx hb hrt hlocks hK hP (pic_D _ hD) hS dX2_map_34 (by unfold sC_map; (try dsimp only [cN, cC, cM_]); rw [rg_y (by omega) (by omega) (by omega), rg_n hs_14])
        · exact absurd (show rB 0 3 x = true from decide_eq_true ⟨k2_le h_15, k4_le h_22⟩) (by rw [hs_14]; decide)
    | true =>
      obtain ⟨I, hI1, hI2, e9⟩ := rB_some (by omega) (by omega) hs_14
      subst e9
      refine lv_iload_n hx hb dX2_map_14 rfl (lv_at hl 3 rfl) ?_
      refine n_z_lt (tgt := 32) hx hb dX2_map_15 (by decide) (by omega) ?_
      refine lv_iload_n hx hb dX2_map_18 rfl (lv_at hl 3 rfl) ?_
      refine lv_aload hx hb dX2_map_19 (lv_at hl 0 rfl) ?_
      refine g_alen (3 + m) hx hb hK hP (by omega) (gI _ 4 (ln_m (by omega)) (by decide)) hI dX2_map_21 ?_
      refine n_ge (tgt := 32) hx hb dX2_map_22 (by decide) (by omega) (by omega) (fun h_22 => ?_) (fun h_22 => ?_)
      · exact absurd h_22 (by omega)
      · refine lv_iload_n hx hb dX2_map_25 rfl (lv_at hl 4 rfl) ?_
        refine g_callS (As := [.int (v)]) (rest := []) (c_X2_isMapNumber l hI (x := v)) (va_cwS 1 hts gX2_map_X2_isMapNumber rfl rfl rfl (by decide +kernel) ⟨Nat.le_of_ble_eq_true rfl, Nat.le_of_ble_eq_true rfl⟩) hx hb hml hown hts hK hP  rfl hl.1 rfl (Nat.le_of_ble_eq_true rfl) (Nat.zero_le _) (Nat.zero_le _) dX2_map_26 ?_
        refine n_ifne_b (tgt := 35) hx hb dX2_map_29 (by decide) (fun h_29 => ?_) (fun h_29 => ?_)
        · obtain ⟨V, hV1, hV2, e9⟩ := rB_some (by omega) (by omega) h_29
          subst e9
          refine lv_aload hx hb dX2_map_35 (lv_at hl 0 rfl) ?_
          refine lv_iload_n hx hb dX2_map_37 rfl (lv_at hl 3 rfl) ?_
          refine g_iald (3 + m) (I) (t0 := _) hx hb hK hP (by omega) (gI _ 4 (ln_m (by omega)) (by decide)) hI (by omega) (by decide) dX2_map_38 ?_
          refine lv_istore (lv' := [(5, .int (nI ((S (3 + m)) (I)))), (4, .ref (ad (3 + m))), (0, .ref (ad (0))), (1, .int (nI (m))), (2, .int (nI (I))), (3, .int (nI (V)))]) hx hb dX2_map_39 hl (by decide) rfl (fun ls hl => ?_)
          refine lv_aload hx hb dX2_map_41 (lv_at hl 1 rfl) ?_
          refine lv_iload_n hx hb dX2_map_43 rfl (lv_at hl 4 rfl) ?_
          refine lv_iload_n hx hb dX2_map_44 rfl (lv_at hl 5 rfl) ?_
          refine g_iast (3 + m) (I) (V) hx hb hK hP (pic_D _ hD) hS (by omega) (gI _ 4 (ln_m (by omega)) (by decide)) hI (by omega) (by decide) dX2_map_45 (fun H locs hP hS => ?_)
          rw [gE_upL _ 4 (ln_m (by omega)) (by decide)] at hP
          refine lv_iload hx hb dX2_map_46 (lv_at hl 0 rfl) ?_
          have hP : va_P D vwCl (pic 33 ad (gE cI cW cM ad (nC_map S ((nI m)) ((nI I)) ((nI V))))) H := by rw [show nC_map S ((nI m)) ((nI I)) ((nI V)) = va_up S (3 + m) (va_up (S (3 + m)) I V) from by unfold nC_map; (try dsimp only [cN, cC, cM_]); rw [rg_y (by omega) (by omega) (by omega), rg_y (by omega) (by omega) (by omega), rg_y (by omega) (by omega) (by omega)]]; exact hP
          exact g_iretW hx hb hrt hlocks hK hP (pic_D _ hD) hS dX2_map_48 (by unfold sC_map; (try dsimp only [cN, cC, cM_]); rw [rg_y (by omega) (by omega) (by omega), rg_y (by omega) (by omega) (by omega), rg_y (by omega) (by omega) (by omega)])
        · refine lv_bipush (v := (-2)) hx hb dX2_map_32 (by decide) ?_
          have hP : va_P D vwCl (pic 33 ad (gE cI cW cM ad (nC_map S ((nI m)) ((nI I)) v))) s.heap := by rw [show nC_map S ((nI m)) ((nI I)) v = S from by unfold nC_map; (try dsimp only [cN, cC, cM_]); rw [rg_y (by omega) (by omega) (by omega), rg_y (by omega) (by omega) (by omega), rg_n h_29]]; exact hP
          exact g_iretW hx hb hrt hlocks hK hP (pic_D _ hD) hS dX2_map_34 (by unfold sC_map; (try dsimp only [cN, cC, cM_]); rw [rg_y (by omega) (by omega) (by omega), rg_y (by omega) (by omega) (by omega), rg_n h_29])
set_option maxHeartbeats 4000000 in
set_option maxRecDepth 100000 in
theorem c_X2_world (l : Launch) {D : va_G} {tys : List (ClassId × FieldType)} {A : Nat → Prop} {ad : Nat → Nat} {cI cW cM : ClassId} {tI tW tM : Nat} {S : Nat → Nat → Nat} (hI : tys[tI]? = some (cI, .int)) (hWt : tys[tW]? = some (cW, .object "CubeWorlds$World")) (hMt : tys[tM]? = some (cM, .array .int)) (hWF : WF S) {a x : Int32} : Met l yX2_world wsX2_world ({ frames := 5, cells := 0, slots := 0, locals := 113 } : Room) (va_Pc [.ref (ad (0)), .int (a), .int (x)] (PW D tys A 33 ad (gE cI cW cM ad S))) (QW (some (.int (sC_world a x))) (PW D tys A 33 ad (gE cI cW cM ad (nC_world S a x))) A) 0 0 A := by
  refine g_writes (cc := cX2_world) (maxL := 6) (ret := (some .int)) (by decide) rfl (Nat.le_of_ble_eq_true rfl) ?_
  intro p e s m args below meth c hx hb hrt hts hown hlocks hml hP hK hD hS ls hl
  show W p l e ({ frames := 5, cells := 0, slots := 0, locals := 113 } : Room) s m args below meth c s.heap [] 0 0 _ _
  have hl : lv_has ls 6 [(0, .ref (ad (0))), (1, .int (a)), (2, .int (x))] := hl
  refine lv_aload_n hx hb dX2_world_0 rfl (lv_at hl 0 rfl) ?_
  refine lv_iload_n hx hb dX2_world_1 rfl (lv_at hl 1 rfl) ?_
  cases hs_2 : rB 0 3 a with
  | false =>
    refine g_callV (0) (C := RX2) (T := TX2) (N := 7) (ci := 1) (As := [.int (a)]) (rest := []) (c_X2_worldIn_n l hI hWt hMt hWF hs_2) (cwV 1 hts gX2_world_X2_worldIn rfl rfl rfl (by decide +kernel) ⟨Nat.le_of_ble_eq_true rfl, Nat.le_of_ble_eq_true rfl⟩) hx hb hml hown hts hK hP  (by decide) rfl rfl rfl hl.1 rfl (Nat.le_of_ble_eq_true rfl) (Nat.zero_le _) (Nat.zero_le _) dX2_world_2 ?_
    refine lv_astore_nN (lv' := [(3, .null), (0, .ref (ad (0))), (1, .int (a)), (2, .int (x))]) hx hb dX2_world_5 rfl hl (by decide) rfl (fun ls hl => ?_)
    refine lv_aload_nN hx hb dX2_world_6 rfl (lv_at hl 0 rfl) ?_
    refine lv_ifnonnullN hx hb dX2_world_7 ?_
    refine lv_iconst (v := (-1)) hx hb dX2_world_10 (by decide) ?_
    have hP : va_P D vwCl (pic 33 ad (gE cI cW cM ad (nC_world S a x))) s.heap := by rw [show nC_world S a x = S from by unfold nC_world; (try dsimp only [cN, cC, cM_]); rw [rg_n hs_2]]; exact hP
    exact g_iretW hx hb hrt hlocks hK hP (pic_D _ hD) hS dX2_world_11 (by unfold sC_world; (try dsimp only [cN, cC, cM_]); rw [rg_n hs_2])
  | true =>
    obtain ⟨k, hk1, hk2, e9⟩ := rB_some (by omega) (by omega) hs_2
    subst e9
    have hk9 : k < 4 := by omega
    have qk1 := (hWF.2.1 k hk9).1
    have qk2 := pow4 qk1.2.1
    have qk3 : 0 < 2 ^ S (13 + 3 * k) 0 := Nat.pow_pos (by decide)
    have qk4 := sq4 qk2
    refine g_callV (0) (C := RX2) (T := TX2) (N := 7) (ci := 1) (As := [.int (nI (k))]) (rest := []) (c_X2_worldIn_y l hI hWt hMt hWF (k := k) (by omega)) (cwV 1 hts gX2_world_X2_worldIn rfl rfl rfl (by decide +kernel) ⟨Nat.le_of_ble_eq_true rfl, Nat.le_of_ble_eq_true rfl⟩) hx hb hml hown hts hK hP  (by decide) rfl rfl rfl hl.1 rfl (Nat.le_of_ble_eq_true rfl) (Nat.zero_le _) (Nat.zero_le _) dX2_world_2 ?_
    refine lv_astore_n (lv' := [(3, .ref (ad (13 + 3 * k))), (0, .ref (ad (0))), (1, .int (nI (k))), (2, .int (x))]) hx hb dX2_world_5 rfl hl (by decide) rfl (fun ls hl => ?_)
    refine lv_aload_n hx hb dX2_world_6 rfl (lv_at hl 0 rfl) ?_
    refine lv_ifnonnull (tgt := 12) hx hb dX2_world_7 (by decide) ?_
    refine lv_iload_n hx hb dX2_world_12 rfl (lv_at hl 3 rfl) ?_
    refine g_callS (As := [.int (x)]) (rest := []) (c_X2_isSomeN l hI (x := x)) (va_cwS 1 hts gX2_world_X2_isSomeN rfl rfl rfl (by decide +kernel) ⟨Nat.le_of_ble_eq_true rfl, Nat.le_of_ble_eq_true rfl⟩) hx hb hml hown hts hK hP  rfl hl.1 rfl (Nat.le_of_ble_eq_true rfl) (Nat.zero_le _) (Nat.zero_le _) dX2_world_13 ?_
    refine n_ifne_b (tgt := 22) hx hb dX2_world_16 (by decide) (fun h_16 => ?_) (fun h_16 => ?_)
    · obtain ⟨N, hN1, hN2, e9⟩ := rB_some (by omega) (by omega) h_16
      subst e9
      have hP : va_P D vwCl (pic 33 ad (gE cI cW cM ad (va_up S 9 (cf (N) (fun _ _ => 0) (S 9) 0 0)))) s.heap := by rw [cf_00, va_up_same rfl]; exact hP
      refine n_iconst 0 hx hb dX2_world_22 ?_
      refine lv_istore (lv' := [(4, .int (nI (0))), (3, .ref (ad (13 + 3 * k))), (0, .ref (ad (0))), (1, .int (nI (k))), (2, .int (nI (N)))]) hx hb dX2_world_23 hl (by decide) rfl (fun ls hl => ?_)
      have L_25 : ∀ (r : Nat) (i : Nat), (i ≤ N) → (N < i + r) → ∀ (H : Heap) (locs : List Loc), va_P D vwCl (pic 33 ad (gE cI cW cM ad (va_up S 9 (cf (N) (fun _ _ => 0) (S 9) i 0)))) H → va_S A s.heap H locs → ∀ (ls : Array Slot), lv_has ls 6 [(0, .ref (ad (0))), (1, .int (nI (k))), (2, .int (nI (N))), (3, .ref (ad (13 + 3 * k))), (4, .int (nI (i)))] → W p l e ({ frames := 5, cells := 0, slots := 0, locals := 113 } : Room) s m args below meth c H locs 0 0 (MQ below (QW (some (.int (sC_world ((nI k)) ((nI N))))) (PW D tys A 33 ad (gE cI cW cM ad (nC_world S ((nI k)) ((nI N))))) A) args s 0 0 A) (F0 m 25 ls []) := by
        intro r
        induction r with
        | zero => intro i hi hr; intros; exact absurd hr (by omega)
        | succ r ih =>
          intro i hi hr H locs hP hS ls hl
          have ih_25 := ih
          refine lv_iload hx hb dX2_world_25 (lv_at hl 4 rfl) ?_
          refine lv_iload_n hx hb dX2_world_27 rfl (lv_at hl 2 rfl) ?_
          refine n_ge (tgt := 65) hx hb dX2_world_28 (by decide) (by omega) (by omega) (fun h_28 => ?_) (fun h_28 => ?_)
          · rw [show i = N by omega] at hP
            refine lv_aload_n hx hb dX2_world_65 rfl (lv_at hl 3 rfl) ?_
            refine lv_iload_n hx hb dX2_world_66 rfl (lv_at hl 2 rfl) ?_
            refine lv_aload_n hx hb dX2_world_67 rfl (lv_at hl 0 rfl) ?_
            refine g_get (0) 3 (C := RX2) (T := TX2) (N := 7) (ci := 1) (ref := "CubeWorlds") hx hb hts (by decide +kernel) hown hK hP (by decide) rfl rfl (by decide) (by decide +kernel) rfl rfl dX2_world_68 ?_
            refine g_callVW (13 + 3 * k) (C := RX1) (T := TX1) (N := 4) (ci := 0) (As := [.int (nI (N)), .ref (ad (9))]) (rest := []) (c_X1_take l hI (by omega) (gE_WS (S' := va_up S 9 (cf (N) (fun _ _ => 0) (S 9) N 0)) hk9 (hWF.2.1 k hk9) (by repeat rw [va_up_o (by omega)]) (by repeat rw [va_up_o (by omega)]) (by repeat rw [va_up_o (by omega)])) (K := N) (cx := 9) (e0 := cf (N) (fun _ _ => 0) (S 9) (N) 0) (by omega) (by decide) (by omega) (gIX 9 16 rfl (by decide) (va_up_at _ _ _))) (cwV 2 hts gX2_world_X1_take rfl rfl rfl (by decide +kernel) ⟨Nat.le_of_ble_eq_true rfl, Nat.le_of_ble_eq_true rfl⟩) hx hb hml hown hts hK hP (pic_D _ hD) hS  (by omega) (gE_obj (isO_w hk9)) rfl rfl hl.1 rfl (Nat.le_of_ble_eq_true rfl) (Nat.zero_le _) (Nat.zero_le _) dX2_world_71 (fun H locs hP hS => ?_)
            refine lv_aload_n hx hb dX2_world_74 rfl (lv_at hl 3 rfl) ?_
            refine g_callV (13 + 3 * k) (C := RX1) (T := TX1) (N := 4) (ci := 0) (As := []) (rest := []) (c_X1_size l hI (by omega) isW.up12) (cwV 0 hts gX2_world_X1_size rfl rfl rfl (by decide +kernel) ⟨Nat.le_of_ble_eq_true rfl, Nat.le_of_ble_eq_true rfl⟩) hx hb hml hown hts hK hP  (by omega) isW.up12.1 rfl rfl hl.1 rfl (Nat.le_of_ble_eq_true rfl) (Nat.zero_le _) (Nat.zero_le _) dX2_world_75 ?_
            have hP : va_P D vwCl (pic 33 ad (gE cI cW cM ad (nC_world S ((nI k)) ((nI N))))) H := by rw [show nC_world S ((nI k)) ((nI N)) = newW S k (N) (fun _ _ => 0) from by unfold nC_world; (try dsimp only [cN, cC, cM_]); rw [rg_y (by omega) (by omega) (by omega), rg_y (by omega) (by omega) (by omega)]]; unfold newW; rw [← gE_take (isO_w hk9) (ln_c hk9) (ln_t hk9), va_up_o (show 13 + 3 * k + 1 ≠ 9 by omega), va_up_o (show 13 + 3 * k + 2 ≠ 9 by omega)]; exact hP
            exact g_iretW hx hb hrt hlocks hK hP (pic_D _ hD) hS dX2_world_78 (by unfold sC_world; (try dsimp only [cN, cC, cM_]); rw [rg_y (by omega) (by omega) (by omega), rg_y (by omega) (by omega) (by omega)])
          · refine n_iconst 0 hx hb dX2_world_31 ?_
            refine lv_istore (lv' := [(5, .int (nI (0))), (0, .ref (ad (0))), (1, .int (nI (k))), (2, .int (nI (N))), (3, .ref (ad (13 + 3 * k))), (4, .int (nI (i)))]) hx hb dX2_world_32 hl (by decide) rfl (fun ls hl => ?_)
            have L_34 : ∀ (r : Nat) (j : Nat), (j ≤ N) → (N < j + r) → ∀ (H : Heap) (locs : List Loc), va_P D vwCl (pic 33 ad (gE cI cW cM ad (va_up S 9 (cf (N) (fun _ _ => 0) (S 9) i j)))) H → va_S A s.heap H locs → ∀ (ls : Array Slot), lv_has ls 6 [(0, .ref (ad (0))), (1, .int (nI (k))), (2, .int (nI (N))), (3, .ref (ad (13 + 3 * k))), (4, .int (nI (i))), (5, .int (nI (j)))] → W p l e ({ frames := 5, cells := 0, slots := 0, locals := 113 } : Room) s m args below meth c H locs 0 0 (MQ below (QW (some (.int (sC_world ((nI k)) ((nI N))))) (PW D tys A 33 ad (gE cI cW cM ad (nC_world S ((nI k)) ((nI N))))) A) args s 0 0 A) (F0 m 34 ls []) := by
              intro r
              induction r with
              | zero => intro j hj hr2; intros; exact absurd hr2 (by omega)
              | succ r ih =>
                intro j hj hr2 H locs hP hS ls hl
                have ih_34 := ih
                refine lv_iload hx hb dX2_world_34 (lv_at hl 5 rfl) ?_
                refine lv_iload_n hx hb dX2_world_36 rfl (lv_at hl 2 rfl) ?_
                refine n_ge (tgt := 59) hx hb dX2_world_37 (by decide) (by omega) (by omega) (fun h_37 => ?_) (fun h_37 => ?_)
                · rw [show j = N by omega, cf_row] at hP
                  refine n_iinc 4 1 (lv' := [(4, .int (nI (i + 1))), (0, .ref (ad (0))), (1, .int (nI (k))), (2, .int (nI (N))), (3, .ref (ad (13 + 3 * k))), (5, .int (nI (j)))]) hx hb dX2_world_59 hl rfl (by decide) rfl (fun ls hl => ?_)
                  refine n_goto 25 hx hb dX2_world_62 (by decide) ?_
                  exact ih_25 (i + 1) (by omega) (by omega) _ _ hP hS _ (lv_sub hl [1, 2, 3, 4, 0] rfl)
                · refine lv_aload_n hx hb dX2_world_40 rfl (lv_at hl 0 rfl) ?_
                  refine g_get (0) 3 (C := RX2) (T := TX2) (N := 7) (ci := 1) (ref := "CubeWorlds") hx hb hts (by decide +kernel) hown hK hP (by decide) rfl rfl (by decide) (by decide +kernel) rfl rfl dX2_world_41 ?_
                  refine lv_iload hx hb dX2_world_44 (lv_at hl 4 rfl) ?_
                  refine lv_iload hx hb dX2_world_46 (lv_at hl 5 rfl) ?_
                  refine g_callS (As := [.int (nI (i)), .int (nI (j))]) (rest := [.ref (ad (9))]) (c_X2_cellIndex l hI (by omega) (gE_WS (S' := va_up S 9 (cf (N) (fun _ _ => 0) (S 9) i j)) hk9 (hWF.2.1 k hk9) (by repeat rw [va_up_o (by omega)]) (by repeat rw [va_up_o (by omega)]) (by repeat rw [va_up_o (by omega)])) (I := i) (J := j) (by omega) (by omega)) (va_cwS 2 hts gX2_world_X2_cellIndex rfl rfl rfl (by decide +kernel) ⟨Nat.le_of_ble_eq_true rfl, Nat.le_of_ble_eq_true rfl⟩) hx hb hml hown hts hK hP  rfl hl.1 rfl (Nat.le_of_ble_eq_true rfl) (Nat.zero_le _) (Nat.zero_le _) dX2_world_48 ?_
                  refine n_iconst 0 hx hb dX2_world_51 ?_
                  refine g_iast (9) (4 * i + j) (0) hx hb hK hP (pic_D _ hD) hS (by decide) (gIX (S' := va_up S 9 (cf (N) (fun _ _ => 0) (S 9) i j)) 9 16 rfl (by decide) (by exact va_up_at _ _ _)) hI (by omega) (by decide) dX2_world_52 (fun H locs hP hS => ?_)
                  rw [gE_upL 9 16 rfl (by decide), va_up_up, cf_put (by omega) (by omega)] at hP
                  refine n_iinc 5 1 (lv' := [(5, .int (nI (j + 1))), (0, .ref (ad (0))), (1, .int (nI (k))), (2, .int (nI (N))), (3, .ref (ad (13 + 3 * k))), (4, .int (nI (i)))]) hx hb dX2_world_53 hl rfl (by decide) rfl (fun ls hl => ?_)
                  refine n_goto 34 hx hb dX2_world_56 (by decide) ?_
                  exact ih_34 (j + 1) (by omega) (by omega) _ _ hP hS _ (lv_sub hl [1, 2, 3, 4, 5, 0] rfl)
            exact L_34 (N + 1) (0) (Nat.zero_le _) (by omega) _ _ hP hS _ (lv_sub hl [1, 2, 3, 4, 5, 0] rfl)
      exact L_25 (N + 1) (0) (Nat.zero_le _) (by omega) _ _ hP hS _ (lv_sub hl [2, 3, 4, 1, 0] rfl)
    · refine lv_bipush (v := (-2)) hx hb dX2_world_19 (by decide) ?_
      have hP : va_P D vwCl (pic 33 ad (gE cI cW cM ad (nC_world S ((nI k)) x))) s.heap := by rw [show nC_world S ((nI k)) x = S from by unfold nC_world; (try dsimp only [cN, cC, cM_]); rw [rg_y (by omega) (by omega) (by omega), rg_n h_16]]; exact hP
      exact g_iretW hx hb hrt hlocks hK hP (pic_D _ hD) hS dX2_world_21 (by unfold sC_world; (try dsimp only [cN, cC, cM_]); rw [rg_y (by omega) (by omega) (by omega), rg_n h_16])
