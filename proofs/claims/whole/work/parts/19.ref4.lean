/-! CubeWorldsModel: alike, carry, cubes, field -/
theorem ja_out2 {p q : Nat → Bool} {is2 F is1 : Bool} {x z N : Nat} (h : is2 = (true && al p z)) (hz : N ≤ z ∧ z ≤ N ∨ (is2 = false ∧ z ≤ N)) (hq : q x = al p N) (h1 : is1 = (F && al q x)) (ht : is1 = true) : is2 = (F && al q (x + 1)) := by
  rw [Bool.true_and] at h
  rw [h1, Bool.and_eq_true] at ht
  rw [al_s, ht.1, ht.2, hq, Bool.true_and, Bool.true_and]
  rcases hz with hz | hz
  · rw [show N = z by omega]; exact h
  · rw [hz.1] at h ⊢
    exact (al_pre hz.2 h.symm).symm
theorem al_pre2 {F : Bool} {q : Nat → Bool} {x N : Nat} (h : false = (F && al q x)) (hx : x ≤ N) : (F && al q N) = false := by
  cases hF : F with
  | false => rfl
  | true =>
    rw [hF, Bool.true_and] at h
    rw [Bool.true_and]
    exact al_pre hx h.symm
theorem amf_y {M : Nat → Nat → Nat} {n : Nat} (h0 : fitB (M 0) n = true) (h1 : fitB (M 1) n = true) (h2 : fitB (M 2) n = true) : amf M n = true := by rw [amf_and, h0, h1, h2]; rfl
theorem amf_0 {M : Nat → Nat → Nat} {n : Nat} (h0 : fitB (M 0) n = false) : ¬ amf M n = true := by rw [amf_and, h0, Bool.false_and]; decide
theorem amf_1 {M : Nat → Nat → Nat} {n : Nat} (h0 : fitB (M 1) n = false) : ¬ amf M n = true := by rw [amf_and, h0, Bool.false_and, Bool.and_false]; decide
theorem amf_2 {M : Nat → Nat → Nat} {n : Nat} (h0 : fitB (M 2) n = false) : ¬ amf M n = true := by rw [amf_and, h0, Bool.and_false, Bool.and_false]; decide
/-- of the row 4's cube the first K cells, in the order of codes, are filled -/
def fR (N : Nat) (v : Nat → Nat → Nat) (f : Nat → Nat) (K q : Nat) : Nat := if 64 ≤ q ∧ q < 80 ∧ (q - 64) % 4 < N ∧ N * ((q - 64) / 4) + (q - 64) % 4 < K then v ((q - 64) / 4) ((q - 64) % 4) else f q
theorem fR_0 (N : Nat) (v : Nat → Nat → Nat) (f : Nat → Nat) : fR N v f 0 = f := by
  funext q
  unfold fR
  rw [if_neg (by omega)]
theorem fR_put {N K : Nat} {v : Nat → Nat → Nat} {f : Nat → Nat} (h1 : 1 ≤ N) (h2 : N ≤ 2) (hK : K < N * N) : va_up (fR N v f K) (64 + 4 * (K / N) + K % N) (v (K / N) (K % N)) = fR N v f (K + 1) := by
  funext q
  unfold va_up fR
  rcases (show N = 1 ∨ N = 2 by omega) with e | e
  · subst e
    by_cases h : q = 64 + 4 * (K / 1) + K % 1
    · have a1 : (q - 64) / 4 = K / 1 := by rw [h]; omega
      have a2 : (q - 64) % 4 = K % 1 := by rw [h]; omega
      rw [if_pos h, a1, a2, if_pos (by omega)]
    · rw [if_neg h]
      by_cases h2 : 64 ≤ q ∧ q < 80 ∧ (q - 64) % 4 < 1 ∧ 1 * ((q - 64) / 4) + (q - 64) % 4 < K
      · rw [if_pos h2, if_pos (by omega)]
      · rw [if_neg h2, if_neg (by omega)]
  · subst e
    by_cases h : q = 64 + 4 * (K / 2) + K % 2
    · have a1 : (q - 64) / 4 = K / 2 := by rw [h]; omega
      have a2 : (q - 64) % 4 = K % 2 := by rw [h]; omega
      rw [if_pos h, a1, a2, if_pos (by omega)]
    · rw [if_neg h]
      by_cases h2 : 64 ≤ q ∧ q < 80 ∧ (q - 64) % 4 < 2 ∧ 2 * ((q - 64) / 4) + (q - 64) % 4 < K
      · rw [if_pos h2, if_pos (by omega)]
      · rw [if_neg h2, if_neg (by omega)]
theorem fR_at {N : Nat} {v : Nat → Nat → Nat} {f : Nat → Nat} {i j : Nat} (h2 : N ≤ 2) (hi : i < N) (hj : j < N) : fR N v f (N * N) (64 + (4 * i + j)) = v i j := by
  unfold fR
  have a1 : (64 + (4 * i + j) - 64) / 4 = i := by omega
  have a2 : (64 + (4 * i + j) - 64) % 4 = j := by omega
  rw [a1, a2, if_pos]
  rcases (show N = 1 ∨ N = 2 by omega) with e | e <;> subst e <;> omega
theorem rcV_k {C N K : Nat} : rcV C N (K / N) (K % N) = (C >>> (N * K)) &&& (2 ^ N - 1) := by
  unfold rcV
  rw [Nat.div_add_mod]
/-- what the codes below c leave -/
def cbR (S : Nat → Nat → Nat) (N : Nat) : Nat → Nat → Nat
  | 0 => clrS S 4 N 27
  | c + 1 => fR N (rcV c N) (cbR S N c) (N * N)
def cbSt (S : Nat → Nat → Nat) (N : Nat) (f : Nat → Nat) : Nat → Nat → Nat := va_up (clrS S 4 N) 27 f
theorem cbR_c {S : Nat → Nat → Nat} {N C : Nat} {f : Nat → Nat} (h2 : N ≤ 2) : ∀ i, i < N → ∀ j, j < N → rC (cbSt S N (fR N (rcV C N) f (N * N))) 4 (4 * i + j) = rcC N C (4 * i + j) := fun i hi j hj => by
  show fR N (rcV C N) f (N * N) (64 + (4 * i + j) % 16) = _
  rw [Nat.mod_eq_of_lt (by omega), fR_at h2 hi hj]
  unfold rcC
  congr 1 <;> omega
theorem cbR_4 {S : Nat → Nat → Nat} {N : Nat} {f : Nat → Nat} : cbSt S N f 26 4 = N := by
  show va_up (S 26) 4 N 4 = _
  rw [va_up_at]
theorem cbR_CB {S : Nat → Nat → Nat} {N C : Nat} {f : Nat → Nat} (h2 : N ≤ 2) : CB N (rC (cbSt S N (fR N (rcV C N) f (N * N))) 4) := fun i hi j hj => by
  rw [cbR_c h2 i hi j hj]
  exact rcV_lt _ _ _ _
def nR_cubes (S : Nat → Nat → Nat) (x : Int32) : Nat → Nat → Nat := rg 1 2 x S fun N => cbSt S N (cbR S N (2 ^ (N * N * N)))
/-- the reduction, m powers taken off -/
def rdR (N v : Nat) : Nat → Nat
  | 0 => v
  | m + 1 => if (rdR N v m >>> (6 - m)) &&& 1 = 1 then (rdR N v m ^^^ (1 <<< (6 - m))) ^^^ (3 <<< (6 - m - N)) else rdR N v m
theorem rdR_y {N v m : Nat} (h : (rdR N v m >>> (6 - m)) &&& 1 = 1) : rdR N v (m + 1) = (rdR N v m ^^^ (1 <<< (6 - m))) ^^^ (3 <<< (6 - m - N)) := if_pos h
theorem rdR_n {N v m : Nat} (h : ¬ (rdR N v m >>> (6 - m)) &&& 1 = 1) : rdR N v (m + 1) = rdR N v m := if_neg h
def fdV (N i j : Nat) : Nat := rdR N (1 <<< (i + j)) (7 - N)
theorem rdR_lt : ∀ N, N < 5 → 1 ≤ N → ∀ p, p < 7 → ∀ m, m < 8 - N → rdR N (1 <<< p) m < 128 := by decide +kernel
theorem fdV_lt : ∀ N, N < 5 → 1 ≤ N → ∀ i, i < N → ∀ j, j < N → fdV N i j < 2 ^ N := by decide +kernel
def fldR (S : Nat → Nat → Nat) (k N : Nat) : Nat → Nat → Nat := va_up (clrS S k N) 27 (cfR (16 * k) N (fdV N) (clrS S k N 27) N 0)
def nR_field (S : Nat → Nat → Nat) (a x : Int32) : Nat → Nat → Nat := rg 0 3 a S fun k => rg 1 4 x S fun N => fldR S k N
theorem nc9 {N K : Nat} (h1 : 1 ≤ N) (h : N ≤ 2) (hK : K < N * N) : K < 4 ∧ N * K < 8 ∧ K / N < 4 ∧ K % N < 4 ∧ 64 + 4 * (K / N) + K % N < 80 := by
  rcases (show N = 1 ∨ N = 2 by omega) with e | e <;> subst e <;> omega
theorem nc10 {N : Nat} (h1 : 1 ≤ N) (h : N ≤ 2) : N * N ≤ 4 ∧ 2 ^ (N * N * N) ≤ 256 ∧ 2 ^ N ≤ 4 ∧ 0 < 2 ^ N ∧ N * N * N ≤ 8 := by
  rcases (show N = 1 ∨ N = 2 by omega) with e | e <;> subst e <;> decide

set_option maxHeartbeats 4000000 in
set_option maxRecDepth 100000 in
theorem c_X3_alike (l : Launch) {D : va_G} {tys : List (ClassId × FieldType)} {ad : Nat → Nat} {cI cW cM : ClassId} {tI : Nat} {S : Nat → Nat → Nat} (hI : tys[tI]? = some (cI, .int)) (hRF : RF S) {a b0 : Int32} : Met l yX3_alike wsX3_alike ({ frames := 2, cells := 0, slots := 0, locals := 48 } : Room) (va_Pc [.ref (ad (25)), .int (a), .int (b0)] (PB D tys 33 ad (gE cI cW cM ad S))) (k2_QcV (.int (sC_alike (rN_ S) (rC S) (rM S) a b0))) 0 0 (fun _ => False) := by
  refine g_pure (cc := cX3_alike) (maxL := 6) (ret := (some .int)) (by decide) rfl (Nat.le_of_ble_eq_true rfl) ?_
  intro p e s m args below meth c hx hb hrt hts hown hlocks hml hP hK ls hl
  show W p l e ({ frames := 2, cells := 0, slots := 0, locals := 48 } : Room) s m args below meth c s.heap [] 0 0 _ _
  have hl : lv_has ls 6 [(0, .ref (ad (25))), (1, .int (a)), (2, .int (b0))] := hl
  refine lv_iload_n hx hb dX3_alike_0 rfl (lv_at hl 1 rfl) ?_
  refine g_callS (As := [.int (a)]) (rest := []) (c_X3_isSlot l hI (v := a)) (va_cwS 1 hts gX3_alike_X3_isSlot rfl rfl rfl (by decide +kernel) ⟨Nat.le_of_ble_eq_true rfl, Nat.le_of_ble_eq_true rfl⟩) hx hb hml hown hts hK hP  rfl hl.1 rfl (Nat.le_of_ble_eq_true rfl) (Nat.zero_le _) (Nat.zero_le _) dX3_alike_1 ?_
  refine n_ifeq_b (tgt := 14) hx hb dX3_alike_4 (by decide) (fun h_4 => ?_) (fun h_4 => ?_)
  · refine lv_iconst (v := (-1)) hx hb dX3_alike_14 (by decide) ?_
    exact g_iret hx hb hrt hlocks dX3_alike_15 (by unfold sC_alike; (try dsimp only [rN_]); rw [rg_n h_4])
  · obtain ⟨k, hk1, hk2, e9⟩ := rB_some (by omega) (by omega) h_4
    subst e9
    have hk5 : k < 5 := by omega
    have qk1 := (hRF.1 k (by omega)).1
    have h4k := qk1.2
    have hcbk := (hRF.1 k (by omega)).2
    have qk2 := pow4 h4k
    have qk3 : 0 < 2 ^ S 26 k := Nat.pow_pos (by decide)
    have qk4 := sq4 qk2
    refine lv_iload_n hx hb dX3_alike_7 rfl (lv_at hl 2 rfl) ?_
    refine g_callS (As := [.int (b0)]) (rest := []) (c_X3_isSlot l hI (v := b0)) (va_cwS 1 hts gX3_alike_X3_isSlot rfl rfl rfl (by decide +kernel) ⟨Nat.le_of_ble_eq_true rfl, Nat.le_of_ble_eq_true rfl⟩) hx hb hml hown hts hK hP  rfl hl.1 rfl (Nat.le_of_ble_eq_true rfl) (Nat.zero_le _) (Nat.zero_le _) dX3_alike_8 ?_
    refine n_ifne_b (tgt := 16) hx hb dX3_alike_11 (by decide) (fun h_11 => ?_) (fun h_11 => ?_)
    · obtain ⟨u, hu1, hu2, e9⟩ := rB_some (by omega) (by omega) h_11
      subst e9
      have hu5 : u < 5 := by omega
      have qu1 := (hRF.1 u (by omega)).1
      have h4u := qu1.2
      have hcbu := (hRF.1 u (by omega)).2
      have qu2 := pow4 h4u
      have qu3 : 0 < 2 ^ S 26 u := Nat.pow_pos (by decide)
      have qu4 := sq4 qu2
      refine lv_aload_n hx hb dX3_alike_16 rfl (lv_at hl 0 rfl) ?_
      refine g_get (25) 0 (C := RX3) (T := TX3) (N := 7) (ci := 2) (ref := "CubeWorldsModel") hx hb hts (by decide +kernel) hown hK hP (by decide) rfl rfl (by decide) (by decide +kernel) rfl rfl dX3_alike_17 ?_
      refine lv_iload_n hx hb dX3_alike_20 rfl (lv_at hl 1 rfl) ?_
      refine g_iald (26) (k) (t0 := _) hx hb hK hP (by decide) (gI (S := S) 26 5 rfl (by decide)) hI (by omega) (by decide) dX3_alike_21 ?_
      refine lv_aload_n hx hb dX3_alike_22 rfl (lv_at hl 0 rfl) ?_
      refine g_get (25) 0 (C := RX3) (T := TX3) (N := 7) (ci := 2) (ref := "CubeWorldsModel") hx hb hts (by decide +kernel) hown hK hP (by decide) rfl rfl (by decide) (by decide +kernel) rfl rfl dX3_alike_23 ?_
      refine lv_iload_n hx hb dX3_alike_26 rfl (lv_at hl 2 rfl) ?_
      refine g_iald (26) (u) (t0 := _) hx hb hK hP (by decide) (gI (S := S) 26 5 rfl (by decide)) hI (by omega) (by decide) dX3_alike_27 ?_
      refine n_ceq (tgt := 34) hx hb dX3_alike_28 (by decide) (by omega) (by omega) (fun h_28 => ?_) (fun h_28 => ?_)
      · refine lv_aload_n hx hb dX3_alike_34 rfl (lv_at hl 0 rfl) ?_
        refine n_iconst 0 hx hb dX3_alike_35 ?_
        refine lv_aload_n hx hb dX3_alike_36 rfl (lv_at hl 0 rfl) ?_
        refine g_get (25) 0 (C := RX3) (T := TX3) (N := 7) (ci := 2) (ref := "CubeWorldsModel") hx hb hts (by decide +kernel) hown hK hP (by decide) rfl rfl (by decide) (by decide +kernel) rfl rfl dX3_alike_37 ?_
        refine lv_iload_n hx hb dX3_alike_40 rfl (lv_at hl 1 rfl) ?_
        refine g_iald (26) (k) (t0 := _) hx hb hK hP (by decide) (gI (S := S) 26 5 rfl (by decide)) hI (by omega) (by decide) dX3_alike_41 ?_
        refine g_callV (25) (C := RX3) (T := TX3) (N := 7) (ci := 2) (As := [.int (nI (0)), .int (nI ((S 26) (k)))]) (rest := []) (c_X3_isFit l hI (g := 0) (by omega) (N := (S 26) (k)) (by omega) (fun i hi => hRF.2 0 (by omega) i hi)) (cwV 2 hts gX3_alike_X3_isFit rfl rfl rfl (by decide +kernel) ⟨Nat.le_of_ble_eq_true rfl, Nat.le_of_ble_eq_true rfl⟩) hx hb hml hown hts hK hP  (by decide) rfl rfl rfl hl.1 rfl (Nat.le_of_ble_eq_true rfl) (Nat.zero_le _) (Nat.zero_le _) dX3_alike_42 ?_
        refine n_ifeq_b (tgt := 80) hx hb dX3_alike_45 (by decide) (fun h_45 => ?_) (fun h_45 => ?_)
        · refine n_iconst 0 hx hb dX3_alike_80 ?_
          refine n_eq (show nI 0 = bI false from rfl) ?_
          refine lv_istore_n (lv' := [(3, .int (bI (false))), (0, .ref (ad (25))), (1, .int (nI (k))), (2, .int (nI (u)))]) hx hb dX3_alike_81 rfl hl (by decide) rfl (fun ls hl => ?_)
          refine n_iconst 0 hx hb dX3_alike_82 ?_
          refine lv_istore (lv' := [(4, .int (nI (0))), (3, .int (bI (false))), (0, .ref (ad (25))), (1, .int (nI (k))), (2, .int (nI (u)))]) hx hb dX3_alike_83 hl (by decide) rfl (fun ls hl => ?_)
          have L_85 : ∀ (r : Nat) (is1 : Bool) (x0 : Nat), (x0 ≤ 2 ^ S 26 k) → (2 ^ S 26 k < x0 + r) → (is1 = (amf (rM S) (S 26 k) && al (fun x => al (fun y => (tm (S 26 k) (rC S u) (im (rM S 0) x) (im (rM S 1) y) == im (rM S 2) (tm (S 26 k) (rC S k) x y))) (2 ^ S 26 k)) x0)) → ∀ (ls : Array Slot), lv_has ls 6 [(0, .ref (ad (25))), (1, .int (nI (k))), (2, .int (nI (u))), (3, .int (bI (is1))), (4, .int (nI (x0)))] → W p l e ({ frames := 2, cells := 0, slots := 0, locals := 48 } : Room) s m args below meth c s.heap [] 0 0 (MQ below (k2_QcV (.int (sC_alike (rN_ S) (rC S) (rM S) ((nI k)) ((nI u))))) args s 0 0 (fun _ => False)) (F0 m 85 ls []) := by
            intro r
            induction r with
            | zero => intro is1 x0 hx0 hr ha; intros; exact absurd hr (by omega)
            | succ r ih =>
              intro is1 x0 hx0 hr ha ls hl
              have ih_85 := ih
              refine lv_iload hx hb dX3_alike_85 (lv_at hl 4 rfl) ?_
              refine lv_aload_n hx hb dX3_alike_87 rfl (lv_at hl 0 rfl) ?_
              refine lv_iload_n hx hb dX3_alike_88 rfl (lv_at hl 1 rfl) ?_
              refine g_callV (25) (C := RX3) (T := TX3) (N := 7) (ci := 2) (As := [.int (nI (k))]) (rest := [.int (nI (x0))]) (c_X3_numbers l hI (k := k) hk5 h4k) (cwV 1 hts gX3_alike_X3_numbers rfl rfl rfl (by decide +kernel) ⟨Nat.le_of_ble_eq_true rfl, Nat.le_of_ble_eq_true rfl⟩) hx hb hml hown hts hK hP  (by decide) rfl rfl rfl hl.1 rfl (Nat.le_of_ble_eq_true rfl) (Nat.zero_le _) (Nat.zero_le _) dX3_alike_89 ?_
              refine n_ge (tgt := 170) hx hb dX3_alike_92 (by decide) (by omega) (by omega) (fun h_92 => ?_) (fun h_92 => ?_)
              · have hf9 : is1 = (amf (rM S) (S 26 k) && mcR (S 26 k) (rC S k) (rC S u) (rM S)) := by rw [ha, show x0 = 2 ^ S 26 k by omega]; rfl
                refine lv_iload_n hx hb dX3_alike_170 rfl (lv_at hl 3 rfl) ?_
                refine n_ifeq_b (tgt := 178) hx hb dX3_alike_171 (by decide) (fun h_171 => ?_) (fun h_171 => ?_)
                · refine n_iconst 0 hx hb dX3_alike_178 ?_
                  exact g_iret hx hb hrt hlocks dX3_alike_179 (by unfold sC_alike; (try dsimp only [rN_]); rw [rg_y (by omega) (by omega) (by omega), rg_y (by omega) (by omega) (by omega), if_pos h_28, ← mc_eq, ← hf9, h_171]; rfl)
                · refine n_iconst 1 hx hb dX3_alike_174 ?_
                  refine n_goto 179 hx hb dX3_alike_175 (by decide) ?_
                  exact g_iret hx hb hrt hlocks dX3_alike_179 (by unfold sC_alike; (try dsimp only [rN_]); rw [rg_y (by omega) (by omega) (by omega), rg_y (by omega) (by omega) (by omega), if_pos h_28, ← mc_eq, ← hf9, h_171]; rfl)
              · refine lv_iload_n hx hb dX3_alike_95 rfl (lv_at hl 3 rfl) ?_
                refine n_ifeq_b (tgt := 170) hx hb dX3_alike_96 (by decide) (fun h_96 => ?_) (fun h_96 => ?_)
                · have hf9 : is1 = (amf (rM S) (S 26 k) && mcR (S 26 k) (rC S k) (rC S u) (rM S)) := by rw [h_96] at ha ⊢; exact (al_pre2 ha (by omega)).symm
                  refine lv_iload_n hx hb dX3_alike_170 rfl (lv_at hl 3 rfl) ?_
                  refine n_ifeq_b (tgt := 178) hx hb dX3_alike_171 (by decide) (fun h_171 => ?_) (fun h_171 => ?_)
                  · refine n_iconst 0 hx hb dX3_alike_178 ?_
                    exact g_iret hx hb hrt hlocks dX3_alike_179 (by unfold sC_alike; (try dsimp only [rN_]); rw [rg_y (by omega) (by omega) (by omega), rg_y (by omega) (by omega) (by omega), if_pos h_28, ← mc_eq, ← hf9, h_171]; rfl)
                  · refine n_iconst 1 hx hb dX3_alike_174 ?_
                    refine n_goto 179 hx hb dX3_alike_175 (by decide) ?_
                    exact g_iret hx hb hrt hlocks dX3_alike_179 (by unfold sC_alike; (try dsimp only [rN_]); rw [rg_y (by omega) (by omega) (by omega), rg_y (by omega) (by omega) (by omega), if_pos h_28, ← mc_eq, ← hf9, h_171]; rfl)
                · refine n_iconst 0 hx hb dX3_alike_99 ?_
                  refine lv_istore (lv' := [(5, .int (nI (0))), (0, .ref (ad (25))), (1, .int (nI (k))), (2, .int (nI (u))), (3, .int (bI (is1))), (4, .int (nI (x0)))]) hx hb dX3_alike_100 hl (by decide) rfl (fun ls hl => ?_)
                  have L_102 : ∀ (r : Nat) (is2 : Bool) (y : Nat), (y ≤ 2 ^ S 26 k) → (2 ^ S 26 k < y + r) → (is2 = (true && al (fun y => (tm (S 26 k) (rC S u) (im (rM S 0) x0) (im (rM S 1) y) == im (rM S 2) (tm (S 26 k) (rC S k) x0 y))) y)) → ∀ (ls : Array Slot), lv_has ls 6 [(0, .ref (ad (25))), (1, .int (nI (k))), (2, .int (nI (u))), (3, .int (bI (is2))), (4, .int (nI (x0))), (5, .int (nI (y)))] → W p l e ({ frames := 2, cells := 0, slots := 0, locals := 48 } : Room) s m args below meth c s.heap [] 0 0 (MQ below (k2_QcV (.int (sC_alike (rN_ S) (rC S) (rM S) ((nI k)) ((nI u))))) args s 0 0 (fun _ => False)) (F0 m 102 ls []) := by
                    intro r
                    induction r with
                    | zero => intro is2 y hy hr2 ha2; intros; exact absurd hr2 (by omega)
                    | succ r ih =>
                      intro is2 y hy hr2 ha2 ls hl
                      have ih_102 := ih
                      refine lv_iload hx hb dX3_alike_102 (lv_at hl 5 rfl) ?_
                      refine lv_aload_n hx hb dX3_alike_104 rfl (lv_at hl 0 rfl) ?_
                      refine lv_iload_n hx hb dX3_alike_105 rfl (lv_at hl 1 rfl) ?_
                      refine g_callV (25) (C := RX3) (T := TX3) (N := 7) (ci := 2) (As := [.int (nI (k))]) (rest := [.int (nI (y))]) (c_X3_numbers l hI (k := k) hk5 h4k) (cwV 1 hts gX3_alike_X3_numbers rfl rfl rfl (by decide +kernel) ⟨Nat.le_of_ble_eq_true rfl, Nat.le_of_ble_eq_true rfl⟩) hx hb hml hown hts hK hP  (by decide) rfl rfl rfl hl.1 rfl (Nat.le_of_ble_eq_true rfl) (Nat.zero_le _) (Nat.zero_le _) dX3_alike_106 ?_
                      refine n_ge (tgt := 164) hx hb dX3_alike_109 (by decide) (by omega) (by omega) (fun h_109 => ?_) (fun h_109 => ?_)
                      · refine n_iinc 4 1 (lv' := [(4, .int (nI (x0 + 1))), (0, .ref (ad (25))), (1, .int (nI (k))), (2, .int (nI (u))), (3, .int (bI (is2))), (5, .int (nI (y)))]) hx hb dX3_alike_164 hl rfl (by decide) rfl (fun ls hl => ?_)
                        refine n_goto 85 hx hb dX3_alike_167 (by decide) ?_
                        exact ih_85 (is2) (x0 + 1) (by omega) (by omega) (ja_out2 (q := (fun x => al (fun y => (tm (S 26 k) (rC S u) (im (rM S 0) x) (im (rM S 1) y) == im (rM S 2) (tm (S 26 k) (rC S k) x y))) (2 ^ S 26 k))) ha2 (Or.inl ⟨by omega, by omega⟩) rfl ha h_96) _ (lv_sub hl [1, 2, 3, 4, 0] rfl)
                      · refine lv_iload_n hx hb dX3_alike_112 rfl (lv_at hl 3 rfl) ?_
                        refine n_ifeq_b (tgt := 164) hx hb dX3_alike_113 (by decide) (fun h_113 => ?_) (fun h_113 => ?_)
                        · refine n_iinc 4 1 (lv' := [(4, .int (nI (x0 + 1))), (0, .ref (ad (25))), (1, .int (nI (k))), (2, .int (nI (u))), (3, .int (bI (is2))), (5, .int (nI (y)))]) hx hb dX3_alike_164 hl rfl (by decide) rfl (fun ls hl => ?_)
                          refine n_goto 85 hx hb dX3_alike_167 (by decide) ?_
                          exact ih_85 (is2) (x0 + 1) (by omega) (by omega) (ja_out2 (q := (fun x => al (fun y => (tm (S 26 k) (rC S u) (im (rM S 0) x) (im (rM S 1) y) == im (rM S 2) (tm (S 26 k) (rC S k) x y))) (2 ^ S 26 k))) ha2 (Or.inr ⟨h_113, by omega⟩) rfl ha h_96) _ (lv_sub hl [1, 2, 3, 4, 0] rfl)
                        · have i0 := im16 (fun i hi => hRF.2 0 (by omega) i hi) x0
                          have i1 := im16 (fun i hi => hRF.2 1 (by omega) i hi) y
                          have t1 := tm_lt hcbk x0 y
                          have t2 := tm_lt hcbu (im (rM S 0) x0) (im (rM S 1) y)
                          rw [← h_28] at t2
                          have i2 := im16 (fun i hi => hRF.2 2 (by omega) i hi) (tm (S 26 k) (rC S k) x0 y)
                          refine lv_aload_n hx hb dX3_alike_116 rfl (lv_at hl 0 rfl) ?_
                          refine lv_iload_n hx hb dX3_alike_117 rfl (lv_at hl 2 rfl) ?_
                          refine lv_aload_n hx hb dX3_alike_118 rfl (lv_at hl 0 rfl) ?_
                          refine n_iconst 0 hx hb dX3_alike_119 ?_
                          refine lv_iload hx hb dX3_alike_120 (lv_at hl 4 rfl) ?_
                          refine g_callV (25) (C := RX3) (T := TX3) (N := 7) (ci := 2) (As := [.int (nI (0)), .int (nI (x0))]) (rest := [.int (nI (u)), .ref (ad (25))]) (c_X3_image l hI (g := 0) (by omega) (X := x0) (by omega)) (cwV 2 hts gX3_alike_X3_image rfl rfl rfl (by decide +kernel) ⟨Nat.le_of_ble_eq_true rfl, Nat.le_of_ble_eq_true rfl⟩) hx hb hml hown hts hK hP  (by decide) rfl rfl rfl hl.1 rfl (Nat.le_of_ble_eq_true rfl) (Nat.zero_le _) (Nat.zero_le _) dX3_alike_122 ?_
                          refine lv_aload_n hx hb dX3_alike_125 rfl (lv_at hl 0 rfl) ?_
                          refine n_iconst 1 hx hb dX3_alike_126 ?_
                          refine lv_iload hx hb dX3_alike_127 (lv_at hl 5 rfl) ?_
                          refine g_callV (25) (C := RX3) (T := TX3) (N := 7) (ci := 2) (As := [.int (nI (1)), .int (nI (y))]) (rest := [.int (nI (im (rM S 0) x0)), .int (nI (u)), .ref (ad (25))]) (c_X3_image l hI (g := 1) (by omega) (X := y) (by omega)) (cwV 2 hts gX3_alike_X3_image rfl rfl rfl (by decide +kernel) ⟨Nat.le_of_ble_eq_true rfl, Nat.le_of_ble_eq_true rfl⟩) hx hb hml hown hts hK hP  (by decide) rfl rfl rfl hl.1 rfl (Nat.le_of_ble_eq_true rfl) (Nat.zero_le _) (Nat.zero_le _) dX3_alike_129 ?_
                          refine g_callV (25) (C := RX3) (T := TX3) (N := 7) (ci := 2) (As := [.int (nI (u)), .int (nI (im (rM S 0) x0)), .int (nI (im (rM S 1) y))]) (rest := []) (c_X3_times l hI (k := u) hu5 h4u (X := im (rM S 0) x0) (Y := im (rM S 1) y) (by omega) (by omega)) (cwV 3 hts gX3_alike_X3_times rfl rfl rfl (by decide +kernel) ⟨Nat.le_of_ble_eq_true rfl, Nat.le_of_ble_eq_true rfl⟩) hx hb hml hown hts hK hP  (by decide) rfl rfl rfl hl.1 rfl (Nat.le_of_ble_eq_true rfl) (Nat.zero_le _) (Nat.zero_le _) dX3_alike_132 ?_
                          refine n_eq (show nI (tm (S 26 u) (rC S u) (im (rM S 0) x0) (im (rM S 1) y)) = nI (tm (S 26 k) (rC S u) (im (rM S 0) x0) (im (rM S 1) y)) from by rw [h_28]) ?_
                          refine lv_aload_n hx hb dX3_alike_135 rfl (lv_at hl 0 rfl) ?_
                          refine n_iconst 2 hx hb dX3_alike_136 ?_
                          refine lv_aload_n hx hb dX3_alike_137 rfl (lv_at hl 0 rfl) ?_
                          refine lv_iload_n hx hb dX3_alike_138 rfl (lv_at hl 1 rfl) ?_
                          refine lv_iload hx hb dX3_alike_139 (lv_at hl 4 rfl) ?_
                          refine lv_iload hx hb dX3_alike_141 (lv_at hl 5 rfl) ?_
                          refine g_callV (25) (C := RX3) (T := TX3) (N := 7) (ci := 2) (As := [.int (nI (k)), .int (nI (x0)), .int (nI (y))]) (rest := [.int (nI (2)), .ref (ad (25)), .int (nI (tm (S 26 k) (rC S u) (im (rM S 0) x0) (im (rM S 1) y)))]) (c_X3_times l hI (k := k) hk5 h4k (X := x0) (Y := y) (by omega) (by omega)) (cwV 3 hts gX3_alike_X3_times rfl rfl rfl (by decide +kernel) ⟨Nat.le_of_ble_eq_true rfl, Nat.le_of_ble_eq_true rfl⟩) hx hb hml hown hts hK hP  (by decide) rfl rfl rfl hl.1 rfl (Nat.le_of_ble_eq_true rfl) (Nat.zero_le _) (Nat.zero_le _) dX3_alike_143 ?_
                          refine g_callV (25) (C := RX3) (T := TX3) (N := 7) (ci := 2) (As := [.int (nI (2)), .int (nI (tm (S 26 k) (rC S k) x0 y))]) (rest := [.int (nI (tm (S 26 k) (rC S u) (im (rM S 0) x0) (im (rM S 1) y)))]) (c_X3_image l hI (g := 2) (by omega) (X := tm (S 26 k) (rC S k) x0 y) (by omega)) (cwV 2 hts gX3_alike_X3_image rfl rfl rfl (by decide +kernel) ⟨Nat.le_of_ble_eq_true rfl, Nat.le_of_ble_eq_true rfl⟩) hx hb hml hown hts hK hP  (by decide) rfl rfl rfl hl.1 rfl (Nat.le_of_ble_eq_true rfl) (Nat.zero_le _) (Nat.zero_le _) dX3_alike_146 ?_
                          refine n_cne (tgt := 156) hx hb dX3_alike_149 (by decide) (by omega) (by omega) (fun h_149 => ?_) (fun h_149 => ?_)
                          · refine n_iconst 0 hx hb dX3_alike_156 ?_
                            refine n_eq (show nI 0 = bI false from rfl) ?_
                            refine lv_istore_n (lv' := [(3, .int (bI (false))), (0, .ref (ad (25))), (1, .int (nI (k))), (2, .int (nI (u))), (4, .int (nI (x0))), (5, .int (nI (y)))]) hx hb dX3_alike_157 rfl hl (by decide) rfl (fun ls hl => ?_)
                            refine n_iinc 5 1 (lv' := [(5, .int (nI (y + 1))), (3, .int (bI (false))), (0, .ref (ad (25))), (1, .int (nI (k))), (2, .int (nI (u))), (4, .int (nI (x0)))]) hx hb dX3_alike_158 hl rfl (by decide) rfl (fun ls hl => ?_)
                            refine n_goto 102 hx hb dX3_alike_161 (by decide) ?_
                            exact ih_102 (false) (y + 1) (by omega) (by omega) (ja_in ha2 h_113 (bF h_149)) _ (lv_sub hl [2, 3, 4, 1, 5, 0] rfl)
                          · refine n_iconst 1 hx hb dX3_alike_152 ?_
                            refine n_goto 157 hx hb dX3_alike_153 (by decide) ?_
                            refine n_eq (show nI 1 = bI true from rfl) ?_
                            refine lv_istore_n (lv' := [(3, .int (bI (true))), (0, .ref (ad (25))), (1, .int (nI (k))), (2, .int (nI (u))), (4, .int (nI (x0))), (5, .int (nI (y)))]) hx hb dX3_alike_157 rfl hl (by decide) rfl (fun ls hl => ?_)
                            refine n_iinc 5 1 (lv' := [(5, .int (nI (y + 1))), (3, .int (bI (true))), (0, .ref (ad (25))), (1, .int (nI (k))), (2, .int (nI (u))), (4, .int (nI (x0)))]) hx hb dX3_alike_158 hl rfl (by decide) rfl (fun ls hl => ?_)
                            refine n_goto 102 hx hb dX3_alike_161 (by decide) ?_
                            exact ih_102 (true) (y + 1) (by omega) (by omega) (ja_in ha2 h_113 (bT h_149)) _ (lv_sub hl [2, 3, 4, 1, 5, 0] rfl)
                  exact L_102 (2 ^ S 26 k + 1) (is1) (0) (Nat.zero_le _) (by omega) (by rw [h_96]; rfl) _ (lv_sub hl [1, 2, 3, 4, 5, 0] rfl)
          exact L_85 (2 ^ S 26 k + 1) (false) (0) (Nat.zero_le _) (by omega) (by rw [amf_and, h_45]; rfl) _ (lv_sub hl [2, 3, 4, 1, 0] rfl)
        · refine lv_aload_n hx hb dX3_alike_48 rfl (lv_at hl 0 rfl) ?_
          refine n_iconst 1 hx hb dX3_alike_49 ?_
          refine lv_aload_n hx hb dX3_alike_50 rfl (lv_at hl 0 rfl) ?_
          refine g_get (25) 0 (C := RX3) (T := TX3) (N := 7) (ci := 2) (ref := "CubeWorldsModel") hx hb hts (by decide +kernel) hown hK hP (by decide) rfl rfl (by decide) (by decide +kernel) rfl rfl dX3_alike_51 ?_
          refine lv_iload_n hx hb dX3_alike_54 rfl (lv_at hl 1 rfl) ?_
          refine g_iald (26) (k) (t0 := _) hx hb hK hP (by decide) (gI (S := S) 26 5 rfl (by decide)) hI (by omega) (by decide) dX3_alike_55 ?_
          refine g_callV (25) (C := RX3) (T := TX3) (N := 7) (ci := 2) (As := [.int (nI (1)), .int (nI ((S 26) (k)))]) (rest := []) (c_X3_isFit l hI (g := 1) (by omega) (N := (S 26) (k)) (by omega) (fun i hi => hRF.2 1 (by omega) i hi)) (cwV 2 hts gX3_alike_X3_isFit rfl rfl rfl (by decide +kernel) ⟨Nat.le_of_ble_eq_true rfl, Nat.le_of_ble_eq_true rfl⟩) hx hb hml hown hts hK hP  (by decide) rfl rfl rfl hl.1 rfl (Nat.le_of_ble_eq_true rfl) (Nat.zero_le _) (Nat.zero_le _) dX3_alike_56 ?_
          refine n_ifeq_b (tgt := 80) hx hb dX3_alike_59 (by decide) (fun h_59 => ?_) (fun h_59 => ?_)
          · refine n_iconst 0 hx hb dX3_alike_80 ?_
            refine n_eq (show nI 0 = bI false from rfl) ?_
            refine lv_istore_n (lv' := [(3, .int (bI (false))), (0, .ref (ad (25))), (1, .int (nI (k))), (2, .int (nI (u)))]) hx hb dX3_alike_81 rfl hl (by decide) rfl (fun ls hl => ?_)
            refine n_iconst 0 hx hb dX3_alike_82 ?_
            refine lv_istore (lv' := [(4, .int (nI (0))), (3, .int (bI (false))), (0, .ref (ad (25))), (1, .int (nI (k))), (2, .int (nI (u)))]) hx hb dX3_alike_83 hl (by decide) rfl (fun ls hl => ?_)
            have L_85 : ∀ (r : Nat) (is1 : Bool) (x0 : Nat), (x0 ≤ 2 ^ S 26 k) → (2 ^ S 26 k < x0 + r) → (is1 = (amf (rM S) (S 26 k) && al (fun x => al (fun y => (tm (S 26 k) (rC S u) (im (rM S 0) x) (im (rM S 1) y) == im (rM S 2) (tm (S 26 k) (rC S k) x y))) (2 ^ S 26 k)) x0)) → ∀ (ls : Array Slot), lv_has ls 6 [(0, .ref (ad (25))), (1, .int (nI (k))), (2, .int (nI (u))), (3, .int (bI (is1))), (4, .int (nI (x0)))] → W p l e ({ frames := 2, cells := 0, slots := 0, locals := 48 } : Room) s m args below meth c s.heap [] 0 0 (MQ below (k2_QcV (.int (sC_alike (rN_ S) (rC S) (rM S) ((nI k)) ((nI u))))) args s 0 0 (fun _ => False)) (F0 m 85 ls []) := by
              intro r
              induction r with
              | zero => intro is1 x0 hx0 hr ha; intros; exact absurd hr (by omega)
              | succ r ih =>
                intro is1 x0 hx0 hr ha ls hl
                have ih_85 := ih
                refine lv_iload hx hb dX3_alike_85 (lv_at hl 4 rfl) ?_
                refine lv_aload_n hx hb dX3_alike_87 rfl (lv_at hl 0 rfl) ?_
                refine lv_iload_n hx hb dX3_alike_88 rfl (lv_at hl 1 rfl) ?_
                refine g_callV (25) (C := RX3) (T := TX3) (N := 7) (ci := 2) (As := [.int (nI (k))]) (rest := [.int (nI (x0))]) (c_X3_numbers l hI (k := k) hk5 h4k) (cwV 1 hts gX3_alike_X3_numbers rfl rfl rfl (by decide +kernel) ⟨Nat.le_of_ble_eq_true rfl, Nat.le_of_ble_eq_true rfl⟩) hx hb hml hown hts hK hP  (by decide) rfl rfl rfl hl.1 rfl (Nat.le_of_ble_eq_true rfl) (Nat.zero_le _) (Nat.zero_le _) dX3_alike_89 ?_
                refine n_ge (tgt := 170) hx hb dX3_alike_92 (by decide) (by omega) (by omega) (fun h_92 => ?_) (fun h_92 => ?_)
                · have hf9 : is1 = (amf (rM S) (S 26 k) && mcR (S 26 k) (rC S k) (rC S u) (rM S)) := by rw [ha, show x0 = 2 ^ S 26 k by omega]; rfl
                  refine lv_iload_n hx hb dX3_alike_170 rfl (lv_at hl 3 rfl) ?_
                  refine n_ifeq_b (tgt := 178) hx hb dX3_alike_171 (by decide) (fun h_171 => ?_) (fun h_171 => ?_)
                  · refine n_iconst 0 hx hb dX3_alike_178 ?_
                    exact g_iret hx hb hrt hlocks dX3_alike_179 (by unfold sC_alike; (try dsimp only [rN_]); rw [rg_y (by omega) (by omega) (by omega), rg_y (by omega) (by omega) (by omega), if_pos h_28, ← mc_eq, ← hf9, h_171]; rfl)
                  · refine n_iconst 1 hx hb dX3_alike_174 ?_
                    refine n_goto 179 hx hb dX3_alike_175 (by decide) ?_
                    exact g_iret hx hb hrt hlocks dX3_alike_179 (by unfold sC_alike; (try dsimp only [rN_]); rw [rg_y (by omega) (by omega) (by omega), rg_y (by omega) (by omega) (by omega), if_pos h_28, ← mc_eq, ← hf9, h_171]; rfl)
                · refine lv_iload_n hx hb dX3_alike_95 rfl (lv_at hl 3 rfl) ?_
                  refine n_ifeq_b (tgt := 170) hx hb dX3_alike_96 (by decide) (fun h_96 => ?_) (fun h_96 => ?_)
                  · have hf9 : is1 = (amf (rM S) (S 26 k) && mcR (S 26 k) (rC S k) (rC S u) (rM S)) := by rw [h_96] at ha ⊢; exact (al_pre2 ha (by omega)).symm
                    refine lv_iload_n hx hb dX3_alike_170 rfl (lv_at hl 3 rfl) ?_
                    refine n_ifeq_b (tgt := 178) hx hb dX3_alike_171 (by decide) (fun h_171 => ?_) (fun h_171 => ?_)
                    · refine n_iconst 0 hx hb dX3_alike_178 ?_
                      exact g_iret hx hb hrt hlocks dX3_alike_179 (by unfold sC_alike; (try dsimp only [rN_]); rw [rg_y (by omega) (by omega) (by omega), rg_y (by omega) (by omega) (by omega), if_pos h_28, ← mc_eq, ← hf9, h_171]; rfl)
                    · refine n_iconst 1 hx hb dX3_alike_174 ?_
                      refine n_goto 179 hx hb dX3_alike_175 (by decide) ?_
                      exact g_iret hx hb hrt hlocks dX3_alike_179 (by unfold sC_alike; (try dsimp only [rN_]); rw [rg_y (by omega) (by omega) (by omega), rg_y (by omega) (by omega) (by omega), if_pos h_28, ← mc_eq, ← hf9, h_171]; rfl)
                  · refine n_iconst 0 hx hb dX3_alike_99 ?_
                    refine lv_istore (lv' := [(5, .int (nI (0))), (0, .ref (ad (25))), (1, .int (nI (k))), (2, .int (nI (u))), (3, .int (bI (is1))), (4, .int (nI (x0)))]) hx hb dX3_alike_100 hl (by decide) rfl (fun ls hl => ?_)
                    have L_102 : ∀ (r : Nat) (is2 : Bool) (y : Nat), (y ≤ 2 ^ S 26 k) → (2 ^ S 26 k < y + r) → (is2 = (true && al (fun y => (tm (S 26 k) (rC S u) (im (rM S 0) x0) (im (rM S 1) y) == im (rM S 2) (tm (S 26 k) (rC S k) x0 y))) y)) → ∀ (ls : Array Slot), lv_has ls 6 [(0, .ref (ad (25))), (1, .int (nI (k))), (2, .int (nI (u))), (3, .int (bI (is2))), (4, .int (nI (x0))), (5, .int (nI (y)))] → W p l e ({ frames := 2, cells := 0, slots := 0, locals := 48 } : Room) s m args below meth c s.heap [] 0 0 (MQ below (k2_QcV (.int (sC_alike (rN_ S) (rC S) (rM S) ((nI k)) ((nI u))))) args s 0 0 (fun _ => False)) (F0 m 102 ls []) := by
                      intro r
                      induction r with
                      | zero => intro is2 y hy hr2 ha2; intros; exact absurd hr2 (by omega)
                      | succ r ih =>
                        intro is2 y hy hr2 ha2 ls hl
                        have ih_102 := ih
                        refine lv_iload hx hb dX3_alike_102 (lv_at hl 5 rfl) ?_
                        refine lv_aload_n hx hb dX3_alike_104 rfl (lv_at hl 0 rfl) ?_
                        refine lv_iload_n hx hb dX3_alike_105 rfl (lv_at hl 1 rfl) ?_
                        refine g_callV (25) (C := RX3) (T := TX3) (N := 7) (ci := 2) (As := [.int (nI (k))]) (rest := [.int (nI (y))]) (c_X3_numbers l hI (k := k) hk5 h4k) (cwV 1 hts gX3_alike_X3_numbers rfl rfl rfl (by decide +kernel) ⟨Nat.le_of_ble_eq_true rfl, Nat.le_of_ble_eq_true rfl⟩) hx hb hml hown hts hK hP  (by decide) rfl rfl rfl hl.1 rfl (Nat.le_of_ble_eq_true rfl) (Nat.zero_le _) (Nat.zero_le _) dX3_alike_106 ?_
                        refine n_ge (tgt := 164) hx hb dX3_alike_109 (by decide) (by omega) (by omega) (fun h_109 => ?_) (fun h_109 => ?_)
                        · refine n_iinc 4 1 (lv' := [(4, .int (nI (x0 + 1))), (0, .ref (ad (25))), (1, .int (nI (k))), (2, .int (nI (u))), (3, .int (bI (is2))), (5, .int (nI (y)))]) hx hb dX3_alike_164 hl rfl (by decide) rfl (fun ls hl => ?_)
                          refine n_goto 85 hx hb dX3_alike_167 (by decide) ?_
                          exact ih_85 (is2) (x0 + 1) (by omega) (by omega) (ja_out2 (q := (fun x => al (fun y => (tm (S 26 k) (rC S u) (im (rM S 0) x) (im (rM S 1) y) == im (rM S 2) (tm (S 26 k) (rC S k) x y))) (2 ^ S 26 k))) ha2 (Or.inl ⟨by omega, by omega⟩) rfl ha h_96) _ (lv_sub hl [1, 2, 3, 4, 0] rfl)
                        · refine lv_iload_n hx hb dX3_alike_112 rfl (lv_at hl 3 rfl) ?_
                          refine n_ifeq_b (tgt := 164) hx hb dX3_alike_113 (by decide) (fun h_113 => ?_) (fun h_113 => ?_)
                          · refine n_iinc 4 1 (lv' := [(4, .int (nI (x0 + 1))), (0, .ref (ad (25))), (1, .int (nI (k))), (2, .int (nI (u))), (3, .int (bI (is2))), (5, .int (nI (y)))]) hx hb dX3_alike_164 hl rfl (by decide) rfl (fun ls hl => ?_)
                            refine n_goto 85 hx hb dX3_alike_167 (by decide) ?_
                            exact ih_85 (is2) (x0 + 1) (by omega) (by omega) (ja_out2 (q := (fun x => al (fun y => (tm (S 26 k) (rC S u) (im (rM S 0) x) (im (rM S 1) y) == im (rM S 2) (tm (S 26 k) (rC S k) x y))) (2 ^ S 26 k))) ha2 (Or.inr ⟨h_113, by omega⟩) rfl ha h_96) _ (lv_sub hl [1, 2, 3, 4, 0] rfl)
                          · have i0 := im16 (fun i hi => hRF.2 0 (by omega) i hi) x0
                            have i1 := im16 (fun i hi => hRF.2 1 (by omega) i hi) y
                            have t1 := tm_lt hcbk x0 y
                            have t2 := tm_lt hcbu (im (rM S 0) x0) (im (rM S 1) y)
                            rw [← h_28] at t2
                            have i2 := im16 (fun i hi => hRF.2 2 (by omega) i hi) (tm (S 26 k) (rC S k) x0 y)
                            refine lv_aload_n hx hb dX3_alike_116 rfl (lv_at hl 0 rfl) ?_
                            refine lv_iload_n hx hb dX3_alike_117 rfl (lv_at hl 2 rfl) ?_
                            refine lv_aload_n hx hb dX3_alike_118 rfl (lv_at hl 0 rfl) ?_
                            refine n_iconst 0 hx hb dX3_alike_119 ?_
                            refine lv_iload hx hb dX3_alike_120 (lv_at hl 4 rfl) ?_
                            refine g_callV (25) (C := RX3) (T := TX3) (N := 7) (ci := 2) (As := [.int (nI (0)), .int (nI (x0))]) (rest := [.int (nI (u)), .ref (ad (25))]) (c_X3_image l hI (g := 0) (by omega) (X := x0) (by omega)) (cwV 2 hts gX3_alike_X3_image rfl rfl rfl (by decide +kernel) ⟨Nat.le_of_ble_eq_true rfl, Nat.le_of_ble_eq_true rfl⟩) hx hb hml hown hts hK hP  (by decide) rfl rfl rfl hl.1 rfl (Nat.le_of_ble_eq_true rfl) (Nat.zero_le _) (Nat.zero_le _) dX3_alike_122 ?_
                            refine lv_aload_n hx hb dX3_alike_125 rfl (lv_at hl 0 rfl) ?_
                            refine n_iconst 1 hx hb dX3_alike_126 ?_
                            refine lv_iload hx hb dX3_alike_127 (lv_at hl 5 rfl) ?_
                            refine g_callV (25) (C := RX3) (T := TX3) (N := 7) (ci := 2) (As := [.int (nI (1)), .int (nI (y))]) (rest := [.int (nI (im (rM S 0) x0)), .int (nI (u)), .ref (ad (25))]) (c_X3_image l hI (g := 1) (by omega) (X := y) (by omega)) (cwV 2 hts gX3_alike_X3_image rfl rfl rfl (by decide +kernel) ⟨Nat.le_of_ble_eq_true rfl, Nat.le_of_ble_eq_true rfl⟩) hx hb hml hown hts hK hP  (by decide) rfl rfl rfl hl.1 rfl (Nat.le_of_ble_eq_true rfl) (Nat.zero_le _) (Nat.zero_le _) dX3_alike_129 ?_
                            refine g_callV (25) (C := RX3) (T := TX3) (N := 7) (ci := 2) (As := [.int (nI (u)), .int (nI (im (rM S 0) x0)), .int (nI (im (rM S 1) y))]) (rest := []) (c_X3_times l hI (k := u) hu5 h4u (X := im (rM S 0) x0) (Y := im (rM S 1) y) (by omega) (by omega)) (cwV 3 hts gX3_alike_X3_times rfl rfl rfl (by decide +kernel) ⟨Nat.le_of_ble_eq_true rfl, Nat.le_of_ble_eq_true rfl⟩) hx hb hml hown hts hK hP  (by decide) rfl rfl rfl hl.1 rfl (Nat.le_of_ble_eq_true rfl) (Nat.zero_le _) (Nat.zero_le _) dX3_alike_132 ?_
                            refine n_eq (show nI (tm (S 26 u) (rC S u) (im (rM S 0) x0) (im (rM S 1) y)) = nI (tm (S 26 k) (rC S u) (im (rM S 0) x0) (im (rM S 1) y)) from by rw [h_28]) ?_
                            refine lv_aload_n hx hb dX3_alike_135 rfl (lv_at hl 0 rfl) ?_
                            refine n_iconst 2 hx hb dX3_alike_136 ?_
                            refine lv_aload_n hx hb dX3_alike_137 rfl (lv_at hl 0 rfl) ?_
                            refine lv_iload_n hx hb dX3_alike_138 rfl (lv_at hl 1 rfl) ?_
                            refine lv_iload hx hb dX3_alike_139 (lv_at hl 4 rfl) ?_
                            refine lv_iload hx hb dX3_alike_141 (lv_at hl 5 rfl) ?_
                            refine g_callV (25) (C := RX3) (T := TX3) (N := 7) (ci := 2) (As := [.int (nI (k)), .int (nI (x0)), .int (nI (y))]) (rest := [.int (nI (2)), .ref (ad (25)), .int (nI (tm (S 26 k) (rC S u) (im (rM S 0) x0) (im (rM S 1) y)))]) (c_X3_times l hI (k := k) hk5 h4k (X := x0) (Y := y) (by omega) (by omega)) (cwV 3 hts gX3_alike_X3_times rfl rfl rfl (by decide +kernel) ⟨Nat.le_of_ble_eq_true rfl, Nat.le_of_ble_eq_true rfl⟩) hx hb hml hown hts hK hP  (by decide) rfl rfl rfl hl.1 rfl (Nat.le_of_ble_eq_true rfl) (Nat.zero_le _) (Nat.zero_le _) dX3_alike_143 ?_
                            refine g_callV (25) (C := RX3) (T := TX3) (N := 7) (ci := 2) (As := [.int (nI (2)), .int (nI (tm (S 26 k) (rC S k) x0 y))]) (rest := [.int (nI (tm (S 26 k) (rC S u) (im (rM S 0) x0) (im (rM S 1) y)))]) (c_X3_image l hI (g := 2) (by omega) (X := tm (S 26 k) (rC S k) x0 y) (by omega)) (cwV 2 hts gX3_alike_X3_image rfl rfl rfl (by decide +kernel) ⟨Nat.le_of_ble_eq_true rfl, Nat.le_of_ble_eq_true rfl⟩) hx hb hml hown hts hK hP  (by decide) rfl rfl rfl hl.1 rfl (Nat.le_of_ble_eq_true rfl) (Nat.zero_le _) (Nat.zero_le _) dX3_alike_146 ?_
                            refine n_cne (tgt := 156) hx hb dX3_alike_149 (by decide) (by omega) (by omega) (fun h_149 => ?_) (fun h_149 => ?_)
                            · refine n_iconst 0 hx hb dX3_alike_156 ?_
                              refine n_eq (show nI 0 = bI false from rfl) ?_
                              refine lv_istore_n (lv' := [(3, .int (bI (false))), (0, .ref (ad (25))), (1, .int (nI (k))), (2, .int (nI (u))), (4, .int (nI (x0))), (5, .int (nI (y)))]) hx hb dX3_alike_157 rfl hl (by decide) rfl (fun ls hl => ?_)
                              refine n_iinc 5 1 (lv' := [(5, .int (nI (y + 1))), (3, .int (bI (false))), (0, .ref (ad (25))), (1, .int (nI (k))), (2, .int (nI (u))), (4, .int (nI (x0)))]) hx hb dX3_alike_158 hl rfl (by decide) rfl (fun ls hl => ?_)
                              refine n_goto 102 hx hb dX3_alike_161 (by decide) ?_
                              exact ih_102 (false) (y + 1) (by omega) (by omega) (ja_in ha2 h_113 (bF h_149)) _ (lv_sub hl [2, 3, 4, 1, 5, 0] rfl)
                            · refine n_iconst 1 hx hb dX3_alike_152 ?_
                              refine n_goto 157 hx hb dX3_alike_153 (by decide) ?_
                              refine n_eq (show nI 1 = bI true from rfl) ?_
                              refine lv_istore_n (lv' := [(3, .int (bI (true))), (0, .ref (ad (25))), (1, .int (nI (k))), (2, .int (nI (u))), (4, .int (nI (x0))), (5, .int (nI (y)))]) hx hb dX3_alike_157 rfl hl (by decide) rfl (fun ls hl => ?_)
                              refine n_iinc 5 1 (lv' := [(5, .int (nI (y + 1))), (3, .int (bI (true))), (0, .ref (ad (25))), (1, .int (nI (k))), (2, .int (nI (u))), (4, .int (nI (x0)))]) hx hb dX3_alike_158 hl rfl (by decide) rfl (fun ls hl => ?_)
                              refine n_goto 102 hx hb dX3_alike_161 (by decide) ?_
                              exact ih_102 (true) (y + 1) (by omega) (by omega) (ja_in ha2 h_113 (bT h_149)) _ (lv_sub hl [2, 3, 4, 1, 5, 0] rfl)
                    exact L_102 (2 ^ S 26 k + 1) (is1) (0) (Nat.zero_le _) (by omega) (by rw [h_96]; rfl) _ (lv_sub hl [1, 2, 3, 4, 5, 0] rfl)
            exact L_85 (2 ^ S 26 k + 1) (false) (0) (Nat.zero_le _) (by omega) (by rw [amf_and, h_45, h_59]; rfl) _ (lv_sub hl [2, 3, 4, 1, 0] rfl)
          · refine lv_aload_n hx hb dX3_alike_62 rfl (lv_at hl 0 rfl) ?_
            refine n_iconst 2 hx hb dX3_alike_63 ?_
            refine lv_aload_n hx hb dX3_alike_64 rfl (lv_at hl 0 rfl) ?_
            refine g_get (25) 0 (C := RX3) (T := TX3) (N := 7) (ci := 2) (ref := "CubeWorldsModel") hx hb hts (by decide +kernel) hown hK hP (by decide) rfl rfl (by decide) (by decide +kernel) rfl rfl dX3_alike_65 ?_
            refine lv_iload_n hx hb dX3_alike_68 rfl (lv_at hl 1 rfl) ?_
            refine g_iald (26) (k) (t0 := _) hx hb hK hP (by decide) (gI (S := S) 26 5 rfl (by decide)) hI (by omega) (by decide) dX3_alike_69 ?_
            refine g_callV (25) (C := RX3) (T := TX3) (N := 7) (ci := 2) (As := [.int (nI (2)), .int (nI ((S 26) (k)))]) (rest := []) (c_X3_isFit l hI (g := 2) (by omega) (N := (S 26) (k)) (by omega) (fun i hi => hRF.2 2 (by omega) i hi)) (cwV 2 hts gX3_alike_X3_isFit rfl rfl rfl (by decide +kernel) ⟨Nat.le_of_ble_eq_true rfl, Nat.le_of_ble_eq_true rfl⟩) hx hb hml hown hts hK hP  (by decide) rfl rfl rfl hl.1 rfl (Nat.le_of_ble_eq_true rfl) (Nat.zero_le _) (Nat.zero_le _) dX3_alike_70 ?_
            refine n_ifeq_b (tgt := 80) hx hb dX3_alike_73 (by decide) (fun h_73 => ?_) (fun h_73 => ?_)
            · refine n_iconst 0 hx hb dX3_alike_80 ?_
              refine n_eq (show nI 0 = bI false from rfl) ?_
              refine lv_istore_n (lv' := [(3, .int (bI (false))), (0, .ref (ad (25))), (1, .int (nI (k))), (2, .int (nI (u)))]) hx hb dX3_alike_81 rfl hl (by decide) rfl (fun ls hl => ?_)
              refine n_iconst 0 hx hb dX3_alike_82 ?_
              refine lv_istore (lv' := [(4, .int (nI (0))), (3, .int (bI (false))), (0, .ref (ad (25))), (1, .int (nI (k))), (2, .int (nI (u)))]) hx hb dX3_alike_83 hl (by decide) rfl (fun ls hl => ?_)
              have L_85 : ∀ (r : Nat) (is1 : Bool) (x0 : Nat), (x0 ≤ 2 ^ S 26 k) → (2 ^ S 26 k < x0 + r) → (is1 = (amf (rM S) (S 26 k) && al (fun x => al (fun y => (tm (S 26 k) (rC S u) (im (rM S 0) x) (im (rM S 1) y) == im (rM S 2) (tm (S 26 k) (rC S k) x y))) (2 ^ S 26 k)) x0)) → ∀ (ls : Array Slot), lv_has ls 6 [(0, .ref (ad (25))), (1, .int (nI (k))), (2, .int (nI (u))), (3, .int (bI (is1))), (4, .int (nI (x0)))] → W p l e ({ frames := 2, cells := 0, slots := 0, locals := 48 } : Room) s m args below meth c s.heap [] 0 0 (MQ below (k2_QcV (.int (sC_alike (rN_ S) (rC S) (rM S) ((nI k)) ((nI u))))) args s 0 0 (fun _ => False)) (F0 m 85 ls []) := by
                intro r
                induction r with
                | zero => intro is1 x0 hx0 hr ha; intros; exact absurd hr (by omega)
                | succ r ih =>
                  intro is1 x0 hx0 hr ha ls hl
                  have ih_85 := ih
                  refine lv_iload hx hb dX3_alike_85 (lv_at hl 4 rfl) ?_
                  refine lv_aload_n hx hb dX3_alike_87 rfl (lv_at hl 0 rfl) ?_
                  refine lv_iload_n hx hb dX3_alike_88 rfl (lv_at hl 1 rfl) ?_
                  refine g_callV (25) (C := RX3) (T := TX3) (N := 7) (ci := 2) (As := [.int (nI (k))]) (rest := [.int (nI (x0))]) (c_X3_numbers l hI (k := k) hk5 h4k) (cwV 1 hts gX3_alike_X3_numbers rfl rfl rfl (by decide +kernel) ⟨Nat.le_of_ble_eq_true rfl, Nat.le_of_ble_eq_true rfl⟩) hx hb hml hown hts hK hP  (by decide) rfl rfl rfl hl.1 rfl (Nat.le_of_ble_eq_true rfl) (Nat.zero_le _) (Nat.zero_le _) dX3_alike_89 ?_
                  refine n_ge (tgt := 170) hx hb dX3_alike_92 (by decide) (by omega) (by omega) (fun h_92 => ?_) (fun h_92 => ?_)
                  · have hf9 : is1 = (amf (rM S) (S 26 k) && mcR (S 26 k) (rC S k) (rC S u) (rM S)) := by rw [ha, show x0 = 2 ^ S 26 k by omega]; rfl
                    refine lv_iload_n hx hb dX3_alike_170 rfl (lv_at hl 3 rfl) ?_
                    refine n_ifeq_b (tgt := 178) hx hb dX3_alike_171 (by decide) (fun h_171 => ?_) (fun h_171 => ?_)
                    · refine n_iconst 0 hx hb dX3_alike_178 ?_
                      exact g_iret hx hb hrt hlocks dX3_alike_179 (by unfold sC_alike; (try dsimp only [rN_]); rw [rg_y (by omega) (by omega) (by omega), rg_y (by omega) (by omega) (by omega), if_pos h_28, ← mc_eq, ← hf9, h_171]; rfl)
                    · refine n_iconst 1 hx hb dX3_alike_174 ?_
                      refine n_goto 179 hx hb dX3_alike_175 (by decide) ?_
                      exact g_iret hx hb hrt hlocks dX3_alike_179 (by unfold sC_alike; (try dsimp only [rN_]); rw [rg_y (by omega) (by omega) (by omega), rg_y (by omega) (by omega) (by omega), if_pos h_28, ← mc_eq, ← hf9, h_171]; rfl)
                  · refine lv_iload_n hx hb dX3_alike_95 rfl (lv_at hl 3 rfl) ?_
                    refine n_ifeq_b (tgt := 170) hx hb dX3_alike_96 (by decide) (fun h_96 => ?_) (fun h_96 => ?_)
                    · have hf9 : is1 = (amf (rM S) (S 26 k) && mcR (S 26 k) (rC S k) (rC S u) (rM S)) := by rw [h_96] at ha ⊢; exact (al_pre2 ha (by omega)).symm
                      refine lv_iload_n hx hb dX3_alike_170 rfl (lv_at hl 3 rfl) ?_
                      refine n_ifeq_b (tgt := 178) hx hb dX3_alike_171 (by decide) (fun h_171 => ?_) (fun h_171 => ?_)
                      · refine n_iconst 0 hx hb dX3_alike_178 ?_
                        exact g_iret hx hb hrt hlocks dX3_alike_179 (by unfold sC_alike; (try dsimp only [rN_]); rw [rg_y (by omega) (by omega) (by omega), rg_y (by omega) (by omega) (by omega), if_pos h_28, ← mc_eq, ← hf9, h_171]; rfl)
                      · refine n_iconst 1 hx hb dX3_alike_174 ?_
                        refine n_goto 179 hx hb dX3_alike_175 (by decide) ?_
                        exact g_iret hx hb hrt hlocks dX3_alike_179 (by unfold sC_alike; (try dsimp only [rN_]); rw [rg_y (by omega) (by omega) (by omega), rg_y (by omega) (by omega) (by omega), if_pos h_28, ← mc_eq, ← hf9, h_171]; rfl)
                    · refine n_iconst 0 hx hb dX3_alike_99 ?_
                      refine lv_istore (lv' := [(5, .int (nI (0))), (0, .ref (ad (25))), (1, .int (nI (k))), (2, .int (nI (u))), (3, .int (bI (is1))), (4, .int (nI (x0)))]) hx hb dX3_alike_100 hl (by decide) rfl (fun ls hl => ?_)
                      have L_102 : ∀ (r : Nat) (is2 : Bool) (y : Nat), (y ≤ 2 ^ S 26 k) → (2 ^ S 26 k < y + r) → (is2 = (true && al (fun y => (tm (S 26 k) (rC S u) (im (rM S 0) x0) (im (rM S 1) y) == im (rM S 2) (tm (S 26 k) (rC S k) x0 y))) y)) → ∀ (ls : Array Slot), lv_has ls 6 [(0, .ref (ad (25))), (1, .int (nI (k))), (2, .int (nI (u))), (3, .int (bI (is2))), (4, .int (nI (x0))), (5, .int (nI (y)))] → W p l e ({ frames := 2, cells := 0, slots := 0, locals := 48 } : Room) s m args below meth c s.heap [] 0 0 (MQ below (k2_QcV (.int (sC_alike (rN_ S) (rC S) (rM S) ((nI k)) ((nI u))))) args s 0 0 (fun _ => False)) (F0 m 102 ls []) := by
                        intro r
                        induction r with
                        | zero => intro is2 y hy hr2 ha2; intros; exact absurd hr2 (by omega)
                        | succ r ih =>
                          intro is2 y hy hr2 ha2 ls hl
                          have ih_102 := ih
                          refine lv_iload hx hb dX3_alike_102 (lv_at hl 5 rfl) ?_
                          refine lv_aload_n hx hb dX3_alike_104 rfl (lv_at hl 0 rfl) ?_
                          refine lv_iload_n hx hb dX3_alike_105 rfl (lv_at hl 1 rfl) ?_
                          refine g_callV (25) (C := RX3) (T := TX3) (N := 7) (ci := 2) (As := [.int (nI (k))]) (rest := [.int (nI (y))]) (c_X3_numbers l hI (k := k) hk5 h4k) (cwV 1 hts gX3_alike_X3_numbers rfl rfl rfl (by decide +kernel) ⟨Nat.le_of_ble_eq_true rfl, Nat.le_of_ble_eq_true rfl⟩) hx hb hml hown hts hK hP  (by decide) rfl rfl rfl hl.1 rfl (Nat.le_of_ble_eq_true rfl) (Nat.zero_le _) (Nat.zero_le _) dX3_alike_106 ?_
                          refine n_ge (tgt := 164) hx hb dX3_alike_109 (by decide) (by omega) (by omega) (fun h_109 => ?_) (fun h_109 => ?_)
                          · refine n_iinc 4 1 (lv' := [(4, .int (nI (x0 + 1))), (0, .ref (ad (25))), (1, .int (nI (k))), (2, .int (nI (u))), (3, .int (bI (is2))), (5, .int (nI (y)))]) hx hb dX3_alike_164 hl rfl (by decide) rfl (fun ls hl => ?_)
                            refine n_goto 85 hx hb dX3_alike_167 (by decide) ?_
                            exact ih_85 (is2) (x0 + 1) (by omega) (by omega) (ja_out2 (q := (fun x => al (fun y => (tm (S 26 k) (rC S u) (im (rM S 0) x) (im (rM S 1) y) == im (rM S 2) (tm (S 26 k) (rC S k) x y))) (2 ^ S 26 k))) ha2 (Or.inl ⟨by omega, by omega⟩) rfl ha h_96) _ (lv_sub hl [1, 2, 3, 4, 0] rfl)
                          · refine lv_iload_n hx hb dX3_alike_112 rfl (lv_at hl 3 rfl) ?_
                            refine n_ifeq_b (tgt := 164) hx hb dX3_alike_113 (by decide) (fun h_113 => ?_) (fun h_113 => ?_)
                            · refine n_iinc 4 1 (lv' := [(4, .int (nI (x0 + 1))), (0, .ref (ad (25))), (1, .int (nI (k))), (2, .int (nI (u))), (3, .int (bI (is2))), (5, .int (nI (y)))]) hx hb dX3_alike_164 hl rfl (by decide) rfl (fun ls hl => ?_)
                              refine n_goto 85 hx hb dX3_alike_167 (by decide) ?_
                              exact ih_85 (is2) (x0 + 1) (by omega) (by omega) (ja_out2 (q := (fun x => al (fun y => (tm (S 26 k) (rC S u) (im (rM S 0) x) (im (rM S 1) y) == im (rM S 2) (tm (S 26 k) (rC S k) x y))) (2 ^ S 26 k))) ha2 (Or.inr ⟨h_113, by omega⟩) rfl ha h_96) _ (lv_sub hl [1, 2, 3, 4, 0] rfl)
                            · have i0 := im16 (fun i hi => hRF.2 0 (by omega) i hi) x0
                              have i1 := im16 (fun i hi => hRF.2 1 (by omega) i hi) y
                              have t1 := tm_lt hcbk x0 y
                              have t2 := tm_lt hcbu (im (rM S 0) x0) (im (rM S 1) y)
                              rw [← h_28] at t2
                              have i2 := im16 (fun i hi => hRF.2 2 (by omega) i hi) (tm (S 26 k) (rC S k) x0 y)
                              refine lv_aload_n hx hb dX3_alike_116 rfl (lv_at hl 0 rfl) ?_
                              refine lv_iload_n hx hb dX3_alike_117 rfl (lv_at hl 2 rfl) ?_
                              refine lv_aload_n hx hb dX3_alike_118 rfl (lv_at hl 0 rfl) ?_
                              refine n_iconst 0 hx hb dX3_alike_119 ?_
                              refine lv_iload hx hb dX3_alike_120 (lv_at hl 4 rfl) ?_
                              refine g_callV (25) (C := RX3) (T := TX3) (N := 7) (ci := 2) (As := [.int (nI (0)), .int (nI (x0))]) (rest := [.int (nI (u)), .ref (ad (25))]) (c_X3_image l hI (g := 0) (by omega) (X := x0) (by omega)) (cwV 2 hts gX3_alike_X3_image rfl rfl rfl (by decide +kernel) ⟨Nat.le_of_ble_eq_true rfl, Nat.le_of_ble_eq_true rfl⟩) hx hb hml hown hts hK hP  (by decide) rfl rfl rfl hl.1 rfl (Nat.le_of_ble_eq_true rfl) (Nat.zero_le _) (Nat.zero_le _) dX3_alike_122 ?_
                              refine lv_aload_n hx hb dX3_alike_125 rfl (lv_at hl 0 rfl) ?_
                              refine n_iconst 1 hx hb dX3_alike_126 ?_
                              refine lv_iload hx hb dX3_alike_127 (lv_at hl 5 rfl) ?_
                              refine g_callV (25) (C := RX3) (T := TX3) (N := 7) (ci := 2) (As := [.int (nI (1)), .int (nI (y))]) (rest := [.int (nI (im (rM S 0) x0)), .int (nI (u)), .ref (ad (25))]) (c_X3_image l hI (g := 1) (by omega) (X := y) (by omega)) (cwV 2 hts gX3_alike_X3_image rfl rfl rfl (by decide +kernel) ⟨Nat.le_of_ble_eq_true rfl, Nat.le_of_ble_eq_true rfl⟩) hx hb hml hown hts hK hP  (by decide) rfl rfl rfl hl.1 rfl (Nat.le_of_ble_eq_true rfl) (Nat.zero_le _) (Nat.zero_le _) dX3_alike_129 ?_
                              refine g_callV (25) (C := RX3) (T := TX3) (N := 7) (ci := 2) (As := [.int (nI (u)), .int (nI (im (rM S 0) x0)), .int (nI (im (rM S 1) y))]) (rest := []) (c_X3_times l hI (k := u) hu5 h4u (X := im (rM S 0) x0) (Y := im (rM S 1) y) (by omega) (by omega)) (cwV 3 hts gX3_alike_X3_times rfl rfl rfl (by decide +kernel) ⟨Nat.le_of_ble_eq_true rfl, Nat.le_of_ble_eq_true rfl⟩) hx hb hml hown hts hK hP  (by decide) rfl rfl rfl hl.1 rfl (Nat.le_of_ble_eq_true rfl) (Nat.zero_le _) (Nat.zero_le _) dX3_alike_132 ?_
                              refine n_eq (show nI (tm (S 26 u) (rC S u) (im (rM S 0) x0) (im (rM S 1) y)) = nI (tm (S 26 k) (rC S u) (im (rM S 0) x0) (im (rM S 1) y)) from by rw [h_28]) ?_
                              refine lv_aload_n hx hb dX3_alike_135 rfl (lv_at hl 0 rfl) ?_
                              refine n_iconst 2 hx hb dX3_alike_136 ?_
                              refine lv_aload_n hx hb dX3_alike_137 rfl (lv_at hl 0 rfl) ?_
                              refine lv_iload_n hx hb dX3_alike_138 rfl (lv_at hl 1 rfl) ?_
                              refine lv_iload hx hb dX3_alike_139 (lv_at hl 4 rfl) ?_
                              refine lv_iload hx hb dX3_alike_141 (lv_at hl 5 rfl) ?_
                              refine g_callV (25) (C := RX3) (T := TX3) (N := 7) (ci := 2) (As := [.int (nI (k)), .int (nI (x0)), .int (nI (y))]) (rest := [.int (nI (2)), .ref (ad (25)), .int (nI (tm (S 26 k) (rC S u) (im (rM S 0) x0) (im (rM S 1) y)))]) (c_X3_times l hI (k := k) hk5 h4k (X := x0) (Y := y) (by omega) (by omega)) (cwV 3 hts gX3_alike_X3_times rfl rfl rfl (by decide +kernel) ⟨Nat.le_of_ble_eq_true rfl, Nat.le_of_ble_eq_true rfl⟩) hx hb hml hown hts hK hP  (by decide) rfl rfl rfl hl.1 rfl (Nat.le_of_ble_eq_true rfl) (Nat.zero_le _) (Nat.zero_le _) dX3_alike_143 ?_
                              refine g_callV (25) (C := RX3) (T := TX3) (N := 7) (ci := 2) (As := [.int (nI (2)), .int (nI (tm (S 26 k) (rC S k) x0 y))]) (rest := [.int (nI (tm (S 26 k) (rC S u) (im (rM S 0) x0) (im (rM S 1) y)))]) (c_X3_image l hI (g := 2) (by omega) (X := tm (S 26 k) (rC S k) x0 y) (by omega)) (cwV 2 hts gX3_alike_X3_image rfl rfl rfl (by decide +kernel) ⟨Nat.le_of_ble_eq_true rfl, Nat.le_of_ble_eq_true rfl⟩) hx hb hml hown hts hK hP  (by decide) rfl rfl rfl hl.1 rfl (Nat.le_of_ble_eq_true rfl) (Nat.zero_le _) (Nat.zero_le _) dX3_alike_146 ?_
                              refine n_cne (tgt := 156) hx hb dX3_alike_149 (by decide) (by omega) (by omega) (fun h_149 => ?_) (fun h_149 => ?_)
                              · refine n_iconst 0 hx hb dX3_alike_156 ?_
                                refine n_eq (show nI 0 = bI false from rfl) ?_
                                refine lv_istore_n (lv' := [(3, .int (bI (false))), (0, .ref (ad (25))), (1, .int (nI (k))), (2, .int (nI (u))), (4, .int (nI (x0))), (5, .int (nI (y)))]) hx hb dX3_alike_157 rfl hl (by decide) rfl (fun ls hl => ?_)
                                refine n_iinc 5 1 (lv' := [(5, .int (nI (y + 1))), (3, .int (bI (false))), (0, .ref (ad (25))), (1, .int (nI (k))), (2, .int (nI (u))), (4, .int (nI (x0)))]) hx hb dX3_alike_158 hl rfl (by decide) rfl (fun ls hl => ?_)
                                refine n_goto 102 hx hb dX3_alike_161 (by decide) ?_
                                exact ih_102 (false) (y + 1) (by omega) (by omega) (ja_in ha2 h_113 (bF h_149)) _ (lv_sub hl [2, 3, 4, 1, 5, 0] rfl)
                              · refine n_iconst 1 hx hb dX3_alike_152 ?_
                                refine n_goto 157 hx hb dX3_alike_153 (by decide) ?_
                                refine n_eq (show nI 1 = bI true from rfl) ?_
                                refine lv_istore_n (lv' := [(3, .int (bI (true))), (0, .ref (ad (25))), (1, .int (nI (k))), (2, .int (nI (u))), (4, .int (nI (x0))), (5, .int (nI (y)))]) hx hb dX3_alike_157 rfl hl (by decide) rfl (fun ls hl => ?_)
                                refine n_iinc 5 1 (lv' := [(5, .int (nI (y + 1))), (3, .int (bI (true))), (0, .ref (ad (25))), (1, .int (nI (k))), (2, .int (nI (u))), (4, .int (nI (x0)))]) hx hb dX3_alike_158 hl rfl (by decide) rfl (fun ls hl => ?_)
                                refine n_goto 102 hx hb dX3_alike_161 (by decide) ?_
                                exact ih_102 (true) (y + 1) (by omega) (by omega) (ja_in ha2 h_113 (bT h_149)) _ (lv_sub hl [2, 3, 4, 1, 5, 0] rfl)
                      exact L_102 (2 ^ S 26 k + 1) (is1) (0) (Nat.zero_le _) (by omega) (by rw [h_96]; rfl) _ (lv_sub hl [1, 2, 3, 4, 5, 0] rfl)
              exact L_85 (2 ^ S 26 k + 1) (false) (0) (Nat.zero_le _) (by omega) (by rw [amf_and, h_45, h_59, h_73]; rfl) _ (lv_sub hl [2, 3, 4, 1, 0] rfl)
            · refine n_iconst 1 hx hb dX3_alike_76 ?_
              refine n_goto 81 hx hb dX3_alike_77 (by decide) ?_
              refine n_eq (show nI 1 = bI true from rfl) ?_
              refine lv_istore_n (lv' := [(3, .int (bI (true))), (0, .ref (ad (25))), (1, .int (nI (k))), (2, .int (nI (u)))]) hx hb dX3_alike_81 rfl hl (by decide) rfl (fun ls hl => ?_)
              refine n_iconst 0 hx hb dX3_alike_82 ?_
              refine lv_istore (lv' := [(4, .int (nI (0))), (3, .int (bI (true))), (0, .ref (ad (25))), (1, .int (nI (k))), (2, .int (nI (u)))]) hx hb dX3_alike_83 hl (by decide) rfl (fun ls hl => ?_)
              have L_85 : ∀ (r : Nat) (is1 : Bool) (x0 : Nat), (x0 ≤ 2 ^ S 26 k) → (2 ^ S 26 k < x0 + r) → (is1 = (amf (rM S) (S 26 k) && al (fun x => al (fun y => (tm (S 26 k) (rC S u) (im (rM S 0) x) (im (rM S 1) y) == im (rM S 2) (tm (S 26 k) (rC S k) x y))) (2 ^ S 26 k)) x0)) → ∀ (ls : Array Slot), lv_has ls 6 [(0, .ref (ad (25))), (1, .int (nI (k))), (2, .int (nI (u))), (3, .int (bI (is1))), (4, .int (nI (x0)))] → W p l e ({ frames := 2, cells := 0, slots := 0, locals := 48 } : Room) s m args below meth c s.heap [] 0 0 (MQ below (k2_QcV (.int (sC_alike (rN_ S) (rC S) (rM S) ((nI k)) ((nI u))))) args s 0 0 (fun _ => False)) (F0 m 85 ls []) := by
                intro r
                induction r with
                | zero => intro is1 x0 hx0 hr ha; intros; exact absurd hr (by omega)
                | succ r ih =>
                  intro is1 x0 hx0 hr ha ls hl
                  have ih_85 := ih
                  refine lv_iload hx hb dX3_alike_85 (lv_at hl 4 rfl) ?_
                  refine lv_aload_n hx hb dX3_alike_87 rfl (lv_at hl 0 rfl) ?_
                  refine lv_iload_n hx hb dX3_alike_88 rfl (lv_at hl 1 rfl) ?_
                  refine g_callV (25) (C := RX3) (T := TX3) (N := 7) (ci := 2) (As := [.int (nI (k))]) (rest := [.int (nI (x0))]) (c_X3_numbers l hI (k := k) hk5 h4k) (cwV 1 hts gX3_alike_X3_numbers rfl rfl rfl (by decide +kernel) ⟨Nat.le_of_ble_eq_true rfl, Nat.le_of_ble_eq_true rfl⟩) hx hb hml hown hts hK hP  (by decide) rfl rfl rfl hl.1 rfl (Nat.le_of_ble_eq_true rfl) (Nat.zero_le _) (Nat.zero_le _) dX3_alike_89 ?_
                  refine n_ge (tgt := 170) hx hb dX3_alike_92 (by decide) (by omega) (by omega) (fun h_92 => ?_) (fun h_92 => ?_)
                  · have hf9 : is1 = (amf (rM S) (S 26 k) && mcR (S 26 k) (rC S k) (rC S u) (rM S)) := by rw [ha, show x0 = 2 ^ S 26 k by omega]; rfl
                    refine lv_iload_n hx hb dX3_alike_170 rfl (lv_at hl 3 rfl) ?_
                    refine n_ifeq_b (tgt := 178) hx hb dX3_alike_171 (by decide) (fun h_171 => ?_) (fun h_171 => ?_)
                    · refine n_iconst 0 hx hb dX3_alike_178 ?_
                      exact g_iret hx hb hrt hlocks dX3_alike_179 (by unfold sC_alike; (try dsimp only [rN_]); rw [rg_y (by omega) (by omega) (by omega), rg_y (by omega) (by omega) (by omega), if_pos h_28, ← mc_eq, ← hf9, h_171]; rfl)
                    · refine n_iconst 1 hx hb dX3_alike_174 ?_
                      refine n_goto 179 hx hb dX3_alike_175 (by decide) ?_
                      exact g_iret hx hb hrt hlocks dX3_alike_179 (by unfold sC_alike; (try dsimp only [rN_]); rw [rg_y (by omega) (by omega) (by omega), rg_y (by omega) (by omega) (by omega), if_pos h_28, ← mc_eq, ← hf9, h_171]; rfl)
                  · refine lv_iload_n hx hb dX3_alike_95 rfl (lv_at hl 3 rfl) ?_
                    refine n_ifeq_b (tgt := 170) hx hb dX3_alike_96 (by decide) (fun h_96 => ?_) (fun h_96 => ?_)
                    · have hf9 : is1 = (amf (rM S) (S 26 k) && mcR (S 26 k) (rC S k) (rC S u) (rM S)) := by rw [h_96] at ha ⊢; exact (al_pre2 ha (by omega)).symm
                      refine lv_iload_n hx hb dX3_alike_170 rfl (lv_at hl 3 rfl) ?_
                      refine n_ifeq_b (tgt := 178) hx hb dX3_alike_171 (by decide) (fun h_171 => ?_) (fun h_171 => ?_)
                      · refine n_iconst 0 hx hb dX3_alike_178 ?_
                        exact g_iret hx hb hrt hlocks dX3_alike_179 (by unfold sC_alike; (try dsimp only [rN_]); rw [rg_y (by omega) (by omega) (by omega), rg_y (by omega) (by omega) (by omega), if_pos h_28, ← mc_eq, ← hf9, h_171]; rfl)
                      · refine n_iconst 1 hx hb dX3_alike_174 ?_
                        refine n_goto 179 hx hb dX3_alike_175 (by decide) ?_
                        exact g_iret hx hb hrt hlocks dX3_alike_179 (by unfold sC_alike; (try dsimp only [rN_]); rw [rg_y (by omega) (by omega) (by omega), rg_y (by omega) (by omega) (by omega), if_pos h_28, ← mc_eq, ← hf9, h_171]; rfl)
                    · refine n_iconst 0 hx hb dX3_alike_99 ?_
                      refine lv_istore (lv' := [(5, .int (nI (0))), (0, .ref (ad (25))), (1, .int (nI (k))), (2, .int (nI (u))), (3, .int (bI (is1))), (4, .int (nI (x0)))]) hx hb dX3_alike_100 hl (by decide) rfl (fun ls hl => ?_)
                      have L_102 : ∀ (r : Nat) (is2 : Bool) (y : Nat), (y ≤ 2 ^ S 26 k) → (2 ^ S 26 k < y + r) → (is2 = (true && al (fun y => (tm (S 26 k) (rC S u) (im (rM S 0) x0) (im (rM S 1) y) == im (rM S 2) (tm (S 26 k) (rC S k) x0 y))) y)) → ∀ (ls : Array Slot), lv_has ls 6 [(0, .ref (ad (25))), (1, .int (nI (k))), (2, .int (nI (u))), (3, .int (bI (is2))), (4, .int (nI (x0))), (5, .int (nI (y)))] → W p l e ({ frames := 2, cells := 0, slots := 0, locals := 48 } : Room) s m args below meth c s.heap [] 0 0 (MQ below (k2_QcV (.int (sC_alike (rN_ S) (rC S) (rM S) ((nI k)) ((nI u))))) args s 0 0 (fun _ => False)) (F0 m 102 ls []) := by
                        intro r
                        induction r with
                        | zero => intro is2 y hy hr2 ha2; intros; exact absurd hr2 (by omega)
                        | succ r ih =>
                          intro is2 y hy hr2 ha2 ls hl
                          have ih_102 := ih
                          refine lv_iload hx hb dX3_alike_102 (lv_at hl 5 rfl) ?_
                          refine lv_aload_n hx hb dX3_alike_104 rfl (lv_at hl 0 rfl) ?_
                          refine lv_iload_n hx hb dX3_alike_105 rfl (lv_at hl 1 rfl) ?_
                          refine g_callV (25) (C := RX3) (T := TX3) (N := 7) (ci := 2) (As := [.int (nI (k))]) (rest := [.int (nI (y))]) (c_X3_numbers l hI (k := k) hk5 h4k) (cwV 1 hts gX3_alike_X3_numbers rfl rfl rfl (by decide +kernel) ⟨Nat.le_of_ble_eq_true rfl, Nat.le_of_ble_eq_true rfl⟩) hx hb hml hown hts hK hP  (by decide) rfl rfl rfl hl.1 rfl (Nat.le_of_ble_eq_true rfl) (Nat.zero_le _) (Nat.zero_le _) dX3_alike_106 ?_
                          refine n_ge (tgt := 164) hx hb dX3_alike_109 (by decide) (by omega) (by omega) (fun h_109 => ?_) (fun h_109 => ?_)
                          · refine n_iinc 4 1 (lv' := [(4, .int (nI (x0 + 1))), (0, .ref (ad (25))), (1, .int (nI (k))), (2, .int (nI (u))), (3, .int (bI (is2))), (5, .int (nI (y)))]) hx hb dX3_alike_164 hl rfl (by decide) rfl (fun ls hl => ?_)
                            refine n_goto 85 hx hb dX3_alike_167 (by decide) ?_
                            exact ih_85 (is2) (x0 + 1) (by omega) (by omega) (ja_out2 (q := (fun x => al (fun y => (tm (S 26 k) (rC S u) (im (rM S 0) x) (im (rM S 1) y) == im (rM S 2) (tm (S 26 k) (rC S k) x y))) (2 ^ S 26 k))) ha2 (Or.inl ⟨by omega, by omega⟩) rfl ha h_96) _ (lv_sub hl [1, 2, 3, 4, 0] rfl)
                          · refine lv_iload_n hx hb dX3_alike_112 rfl (lv_at hl 3 rfl) ?_
                            refine n_ifeq_b (tgt := 164) hx hb dX3_alike_113 (by decide) (fun h_113 => ?_) (fun h_113 => ?_)
                            · refine n_iinc 4 1 (lv' := [(4, .int (nI (x0 + 1))), (0, .ref (ad (25))), (1, .int (nI (k))), (2, .int (nI (u))), (3, .int (bI (is2))), (5, .int (nI (y)))]) hx hb dX3_alike_164 hl rfl (by decide) rfl (fun ls hl => ?_)
                              refine n_goto 85 hx hb dX3_alike_167 (by decide) ?_
                              exact ih_85 (is2) (x0 + 1) (by omega) (by omega) (ja_out2 (q := (fun x => al (fun y => (tm (S 26 k) (rC S u) (im (rM S 0) x) (im (rM S 1) y) == im (rM S 2) (tm (S 26 k) (rC S k) x y))) (2 ^ S 26 k))) ha2 (Or.inr ⟨h_113, by omega⟩) rfl ha h_96) _ (lv_sub hl [1, 2, 3, 4, 0] rfl)
                            · have i0 := im16 (fun i hi => hRF.2 0 (by omega) i hi) x0
                              have i1 := im16 (fun i hi => hRF.2 1 (by omega) i hi) y
                              have t1 := tm_lt hcbk x0 y
                              have t2 := tm_lt hcbu (im (rM S 0) x0) (im (rM S 1) y)
                              rw [← h_28] at t2
                              have i2 := im16 (fun i hi => hRF.2 2 (by omega) i hi) (tm (S 26 k) (rC S k) x0 y)
                              refine lv_aload_n hx hb dX3_alike_116 rfl (lv_at hl 0 rfl) ?_
                              refine lv_iload_n hx hb dX3_alike_117 rfl (lv_at hl 2 rfl) ?_
                              refine lv_aload_n hx hb dX3_alike_118 rfl (lv_at hl 0 rfl) ?_
                              refine n_iconst 0 hx hb dX3_alike_119 ?_
                              refine lv_iload hx hb dX3_alike_120 (lv_at hl 4 rfl) ?_
                              refine g_callV (25) (C := RX3) (T := TX3) (N := 7) (ci := 2) (As := [.int (nI (0)), .int (nI (x0))]) (rest := [.int (nI (u)), .ref (ad (25))]) (c_X3_image l hI (g := 0) (by omega) (X := x0) (by omega)) (cwV 2 hts gX3_alike_X3_image rfl rfl rfl (by decide +kernel) ⟨Nat.le_of_ble_eq_true rfl, Nat.le_of_ble_eq_true rfl⟩) hx hb hml hown hts hK hP  (by decide) rfl rfl rfl hl.1 rfl (Nat.le_of_ble_eq_true rfl) (Nat.zero_le _) (Nat.zero_le _) dX3_alike_122 ?_
                              refine lv_aload_n hx hb dX3_alike_125 rfl (lv_at hl 0 rfl) ?_
                              refine n_iconst 1 hx hb dX3_alike_126 ?_
                              refine lv_iload hx hb dX3_alike_127 (lv_at hl 5 rfl) ?_
                              refine g_callV (25) (C := RX3) (T := TX3) (N := 7) (ci := 2) (As := [.int (nI (1)), .int (nI (y))]) (rest := [.int (nI (im (rM S 0) x0)), .int (nI (u)), .ref (ad (25))]) (c_X3_image l hI (g := 1) (by omega) (X := y) (by omega)) (cwV 2 hts gX3_alike_X3_image rfl rfl rfl (by decide +kernel) ⟨Nat.le_of_ble_eq_true rfl, Nat.le_of_ble_eq_true rfl⟩) hx hb hml hown hts hK hP  (by decide) rfl rfl rfl hl.1 rfl (Nat.le_of_ble_eq_true rfl) (Nat.zero_le _) (Nat.zero_le _) dX3_alike_129 ?_
                              refine g_callV (25) (C := RX3) (T := TX3) (N := 7) (ci := 2) (As := [.int (nI (u)), .int (nI (im (rM S 0) x0)), .int (nI (im (rM S 1) y))]) (rest := []) (c_X3_times l hI (k := u) hu5 h4u (X := im (rM S 0) x0) (Y := im (rM S 1) y) (by omega) (by omega)) (cwV 3 hts gX3_alike_X3_times rfl rfl rfl (by decide +kernel) ⟨Nat.le_of_ble_eq_true rfl, Nat.le_of_ble_eq_true rfl⟩) hx hb hml hown hts hK hP  (by decide) rfl rfl rfl hl.1 rfl (Nat.le_of_ble_eq_true rfl) (Nat.zero_le _) (Nat.zero_le _) dX3_alike_132 ?_
                              refine n_eq (show nI (tm (S 26 u) (rC S u) (im (rM S 0) x0) (im (rM S 1) y)) = nI (tm (S 26 k) (rC S u) (im (rM S 0) x0) (im (rM S 1) y)) from by rw [h_28]) ?_
                              refine lv_aload_n hx hb dX3_alike_135 rfl (lv_at hl 0 rfl) ?_
                              refine n_iconst 2 hx hb dX3_alike_136 ?_
                              refine lv_aload_n hx hb dX3_alike_137 rfl (lv_at hl 0 rfl) ?_
                              refine lv_iload_n hx hb dX3_alike_138 rfl (lv_at hl 1 rfl) ?_
                              refine lv_iload hx hb dX3_alike_139 (lv_at hl 4 rfl) ?_
                              refine lv_iload hx hb dX3_alike_141 (lv_at hl 5 rfl) ?_
                              refine g_callV (25) (C := RX3) (T := TX3) (N := 7) (ci := 2) (As := [.int (nI (k)), .int (nI (x0)), .int (nI (y))]) (rest := [.int (nI (2)), .ref (ad (25)), .int (nI (tm (S 26 k) (rC S u) (im (rM S 0) x0) (im (rM S 1) y)))]) (c_X3_times l hI (k := k) hk5 h4k (X := x0) (Y := y) (by omega) (by omega)) (cwV 3 hts gX3_alike_X3_times rfl rfl rfl (by decide +kernel) ⟨Nat.le_of_ble_eq_true rfl, Nat.le_of_ble_eq_true rfl⟩) hx hb hml hown hts hK hP  (by decide) rfl rfl rfl hl.1 rfl (Nat.le_of_ble_eq_true rfl) (Nat.zero_le _) (Nat.zero_le _) dX3_alike_143 ?_
                              refine g_callV (25) (C := RX3) (T := TX3) (N := 7) (ci := 2) (As := [.int (nI (2)), .int (nI (tm (S 26 k) (rC S k) x0 y))]) (rest := [.int (nI (tm (S 26 k) (rC S u) (im (rM S 0) x0) (im (rM S 1) y)))]) (c_X3_image l hI (g := 2) (by omega) (X := tm (S 26 k) (rC S k) x0 y) (by omega)) (cwV 2 hts gX3_alike_X3_image rfl rfl rfl (by decide +kernel) ⟨Nat.le_of_ble_eq_true rfl, Nat.le_of_ble_eq_true rfl⟩) hx hb hml hown hts hK hP  (by decide) rfl rfl rfl hl.1 rfl (Nat.le_of_ble_eq_true rfl) (Nat.zero_le _) (Nat.zero_le _) dX3_alike_146 ?_
                              refine n_cne (tgt := 156) hx hb dX3_alike_149 (by decide) (by omega) (by omega) (fun h_149 => ?_) (fun h_149 => ?_)
                              · refine n_iconst 0 hx hb dX3_alike_156 ?_
                                refine n_eq (show nI 0 = bI false from rfl) ?_
                                refine lv_istore_n (lv' := [(3, .int (bI (false))), (0, .ref (ad (25))), (1, .int (nI (k))), (2, .int (nI (u))), (4, .int (nI (x0))), (5, .int (nI (y)))]) hx hb dX3_alike_157 rfl hl (by decide) rfl (fun ls hl => ?_)
                                refine n_iinc 5 1 (lv' := [(5, .int (nI (y + 1))), (3, .int (bI (false))), (0, .ref (ad (25))), (1, .int (nI (k))), (2, .int (nI (u))), (4, .int (nI (x0)))]) hx hb dX3_alike_158 hl rfl (by decide) rfl (fun ls hl => ?_)
                                refine n_goto 102 hx hb dX3_alike_161 (by decide) ?_
                                exact ih_102 (false) (y + 1) (by omega) (by omega) (ja_in ha2 h_113 (bF h_149)) _ (lv_sub hl [2, 3, 4, 1, 5, 0] rfl)
                              · refine n_iconst 1 hx hb dX3_alike_152 ?_
                                refine n_goto 157 hx hb dX3_alike_153 (by decide) ?_
                                refine n_eq (show nI 1 = bI true from rfl) ?_
                                refine lv_istore_n (lv' := [(3, .int (bI (true))), (0, .ref (ad (25))), (1, .int (nI (k))), (2, .int (nI (u))), (4, .int (nI (x0))), (5, .int (nI (y)))]) hx hb dX3_alike_157 rfl hl (by decide) rfl (fun ls hl => ?_)
                                refine n_iinc 5 1 (lv' := [(5, .int (nI (y + 1))), (3, .int (bI (true))), (0, .ref (ad (25))), (1, .int (nI (k))), (2, .int (nI (u))), (4, .int (nI (x0)))]) hx hb dX3_alike_158 hl rfl (by decide) rfl (fun ls hl => ?_)
                                refine n_goto 102 hx hb dX3_alike_161 (by decide) ?_
                                exact ih_102 (true) (y + 1) (by omega) (by omega) (ja_in ha2 h_113 (bT h_149)) _ (lv_sub hl [2, 3, 4, 1, 5, 0] rfl)
                      exact L_102 (2 ^ S 26 k + 1) (is1) (0) (Nat.zero_le _) (by omega) (by rw [h_96]; rfl) _ (lv_sub hl [1, 2, 3, 4, 5, 0] rfl)
              exact L_85 (2 ^ S 26 k + 1) (true) (0) (Nat.zero_le _) (by omega) (by rw [amf_and, h_45, h_59, h_73]; rfl) _ (lv_sub hl [2, 3, 4, 1, 0] rfl)
      · refine lv_bipush (v := (-3)) hx hb dX3_alike_31 (by decide) ?_
        exact g_iret hx hb hrt hlocks dX3_alike_33 (by unfold sC_alike; (try dsimp only [rN_]); rw [rg_y (by omega) (by omega) (by omega), rg_y (by omega) (by omega) (by omega), if_neg h_28])
    · refine lv_iconst (v := (-1)) hx hb dX3_alike_14 (by decide) ?_
      exact g_iret hx hb hrt hlocks dX3_alike_15 (by unfold sC_alike; (try dsimp only [rN_]); rw [rg_y (by omega) (by omega) (by omega), rg_n h_11])
set_option maxHeartbeats 4000000 in
set_option maxRecDepth 100000 in
theorem c_X3_back (l : Launch) {D : va_G} {tys : List (ClassId × FieldType)} {ad : Nat → Nat} {cI cW cM : ClassId} {tI : Nat} {S : Nat → Nat → Nat} (hI : tys[tI]? = some (cI, .int)) {g N V : Nat} (hg : g < 3) (hN : N ≤ 4) (hV : V < 2 ^ 31) (hf : ∀ i, i < 4 → rM S g i < 16) (hex : ∃ x, x < 2 ^ N ∧ im (rM S g) x = V) : Met l yX3_back wsX3_back ({ frames := 1, cells := 0, slots := 0, locals := 24 } : Room) (va_Pc [.ref (ad (25)), .int (nI (g)), .int (nI (V))] (PB D tys 33 ad (gE cI cW cM ad S))) (k2_QcV (.int (nI (src (rM S g) N V)))) 0 0 (fun _ => False) := by
  obtain ⟨z, hz, hzv⟩ := hex
  have p4 := pow4 hN
  refine g_pure (cc := cX3_back) (maxL := 4) (ret := (some .int)) (by decide) rfl (Nat.le_of_ble_eq_true rfl) ?_
  intro p e s m args below meth c hx hb hrt hts hown hlocks hml hP hK ls hl
  show W p l e ({ frames := 1, cells := 0, slots := 0, locals := 24 } : Room) s m args below meth c s.heap [] 0 0 _ _
  have hl : lv_has ls 4 [(0, .ref (ad (25))), (1, .int (nI (g))), (2, .int (nI (V)))] := hl
  refine n_iconst 0 hx hb dX3_back_0 ?_
  refine lv_istore_n (lv' := [(3, .int (nI (0))), (0, .ref (ad (25))), (1, .int (nI (g))), (2, .int (nI (V)))]) hx hb dX3_back_1 rfl hl (by decide) rfl (fun ls hl => ?_)
  have L_2 : ∀ (r : Nat) (x0 : Nat), (x0 ≤ z) → (z < x0 + r) → (∀ j, j < x0 → ¬ im (rM S g) j = V) → ∀ (ls : Array Slot), lv_has ls 4 [(0, .ref (ad (25))), (1, .int (nI (g))), (2, .int (nI (V))), (3, .int (nI (x0)))] → W p l e ({ frames := 1, cells := 0, slots := 0, locals := 24 } : Room) s m args below meth c s.heap [] 0 0 (MQ below (k2_QcV (.int (nI (src (rM S g) N V)))) args s 0 0 (fun _ => False)) (F0 m 2 ls []) := by
    intro r
    induction r with
    | zero => intro x0 hx0 hr hno; intros; exact absurd hr (by omega)
    | succ r ih =>
      intro x0 hx0 hr hno ls hl
      have ih_2 := ih
      refine lv_aload_n hx hb dX3_back_2 rfl (lv_at hl 0 rfl) ?_
      refine lv_iload_n hx hb dX3_back_3 rfl (lv_at hl 1 rfl) ?_
      refine lv_iload_n hx hb dX3_back_4 rfl (lv_at hl 3 rfl) ?_
      refine g_callV (25) (C := RX3) (T := TX3) (N := 7) (ci := 2) (As := [.int (nI (g)), .int (nI (x0))]) (rest := []) (c_X3_image l hI (g := g) (by omega) (X := x0) (by omega)) (cwV 2 hts gX3_back_X3_image rfl rfl rfl (by decide +kernel) ⟨Nat.le_of_ble_eq_true rfl, Nat.le_of_ble_eq_true rfl⟩) hx hb hml hown hts hK hP  (by decide) rfl rfl rfl hl.1 rfl (Nat.le_of_ble_eq_true rfl) (Nat.zero_le _) (Nat.zero_le _) dX3_back_5 ?_
      have hm9 := im16 hf x0
      refine lv_iload_n hx hb dX3_back_8 rfl (lv_at hl 2 rfl) ?_
      refine n_ceq (tgt := 18) hx hb dX3_back_9 (by decide) (by omega) (by omega) (fun h_9 => ?_) (fun h_9 => ?_)
      · refine lv_iload_n hx hb dX3_back_18 rfl (lv_at hl 3 rfl) ?_
        exact g_iret hx hb hrt hlocks dX3_back_19 (by rw [src_at (by omega) h_9 hno])
      · refine n_iinc 3 1 (lv' := [(3, .int (nI (x0 + 1))), (0, .ref (ad (25))), (1, .int (nI (g))), (2, .int (nI (V)))]) hx hb dX3_back_12 hl rfl (by decide) rfl (fun ls hl => ?_)
        refine n_goto 2 hx hb dX3_back_15 (by decide) ?_
        exact ih_2 (x0 + 1) (Nat.lt_of_le_of_ne hx0 (fun e => h_9 (e ▸ hzv))) (by omega) (fun j hj => by rcases (show j < x0 ∨ j = x0 by omega) with h | h; exact hno j h; rw [h]; exact h_9) _ (lv_sub hl [1, 2, 3, 0] rfl)
  exact L_2 (z + 1) (0) (Nat.zero_le _) (by omega) (fun j h => absurd h (by omega)) _ (lv_sub hl [1, 2, 3, 0] rfl)
set_option maxHeartbeats 4000000 in
set_option maxRecDepth 100000 in
theorem c_X3_carry (l : Launch) {D : va_G} {tys : List (ClassId × FieldType)} {A : Nat → Prop} {ad : Nat → Nat} {cI cW cM : ClassId} {tI : Nat} {S : Nat → Nat → Nat} (hI : tys[tI]? = some (cI, .int)) (hRF : RF S) {a b0 : Int32} : Met l yX3_carry wsX3_carry ({ frames := 2, cells := 0, slots := 0, locals := 48 } : Room) (va_Pc [.ref (ad (25)), .int (a), .int (b0)] (PW D tys A 33 ad (gE cI cW cM ad S))) (QW (some (.int (sC_carry (rN_ S) (rM S) a b0))) (PW D tys A 33 ad (gE cI cW cM ad (nR_carry S a b0))) A) 0 0 A := by
  refine g_writes (cc := cX3_carry) (maxL := 6) (ret := (some .int)) (by decide) rfl (Nat.le_of_ble_eq_true rfl) ?_
  intro p e s m args below meth c hx hb hrt hts hown hlocks hml hP hK hD hS ls hl
  show W p l e ({ frames := 2, cells := 0, slots := 0, locals := 48 } : Room) s m args below meth c s.heap [] 0 0 _ _
  have hl : lv_has ls 6 [(0, .ref (ad (25))), (1, .int (a)), (2, .int (b0))] := hl
  refine lv_iload_n hx hb dX3_carry_0 rfl (lv_at hl 1 rfl) ?_
  refine g_callS (As := [.int (a)]) (rest := []) (c_X3_isSlot l hI (v := a)) (va_cwS 1 hts gX3_carry_X3_isSlot rfl rfl rfl (by decide +kernel) ⟨Nat.le_of_ble_eq_true rfl, Nat.le_of_ble_eq_true rfl⟩) hx hb hml hown hts hK hP  rfl hl.1 rfl (Nat.le_of_ble_eq_true rfl) (Nat.zero_le _) (Nat.zero_le _) dX3_carry_1 ?_
  refine n_ifeq_b (tgt := 14) hx hb dX3_carry_4 (by decide) (fun h_4 => ?_) (fun h_4 => ?_)
  · refine lv_iconst (v := (-1)) hx hb dX3_carry_14 (by decide) ?_
    have hP : va_P D vwCl (pic 33 ad (gE cI cW cM ad (nR_carry S a b0))) s.heap := by rw [show nR_carry S a b0 = S from by unfold nR_carry; (try dsimp only [rN_]); rw [rg_n h_4]]; exact hP
    exact g_iretW hx hb hrt hlocks hK hP (pic_D _ hD) hS dX3_carry_15 (by unfold sC_carry; (try dsimp only [rN_]); rw [rg_n h_4])
  · obtain ⟨k, hk1, hk2, e9⟩ := rB_some (by omega) (by omega) h_4
    subst e9
    have hk5 : k < 5 := by omega
    have qk1 := (hRF.1 k (by omega)).1
    have h4k := qk1.2
    have hcbk := (hRF.1 k (by omega)).2
    have qk2 := pow4 h4k
    have qk3 : 0 < 2 ^ S 26 k := Nat.pow_pos (by decide)
    have qk4 := sq4 qk2
    refine lv_iload_n hx hb dX3_carry_7 rfl (lv_at hl 2 rfl) ?_
    refine g_callS (As := [.int (b0)]) (rest := []) (c_X3_isSlot l hI (v := b0)) (va_cwS 1 hts gX3_carry_X3_isSlot rfl rfl rfl (by decide +kernel) ⟨Nat.le_of_ble_eq_true rfl, Nat.le_of_ble_eq_true rfl⟩) hx hb hml hown hts hK hP  rfl hl.1 rfl (Nat.le_of_ble_eq_true rfl) (Nat.zero_le _) (Nat.zero_le _) dX3_carry_8 ?_
    refine n_ifne_b (tgt := 16) hx hb dX3_carry_11 (by decide) (fun h_11 => ?_) (fun h_11 => ?_)
    · obtain ⟨u, hu1, hu2, e9⟩ := rB_some (by omega) (by omega) h_11
      subst e9
      have hu5 : u < 5 := by omega
      have qu1 := (hRF.1 u (by omega)).1
      have h4u := qu1.2
      have hcbu := (hRF.1 u (by omega)).2
      have qu2 := pow4 h4u
      have qu3 : 0 < 2 ^ S 26 u := Nat.pow_pos (by decide)
      have qu4 := sq4 qu2
      refine lv_aload_n hx hb dX3_carry_16 rfl (lv_at hl 0 rfl) ?_
      refine g_get (25) 0 (C := RX3) (T := TX3) (N := 7) (ci := 2) (ref := "CubeWorldsModel") hx hb hts (by decide +kernel) hown hK hP (by decide) rfl rfl (by decide) (by decide +kernel) rfl rfl dX3_carry_17 ?_
      refine lv_iload_n hx hb dX3_carry_20 rfl (lv_at hl 2 rfl) ?_
      refine g_iald (26) (u) (t0 := _) hx hb hK hP (by decide) (gIX (S' := S) (f := S 26) 26 5 rfl (by decide) rfl) hI (by omega) (by decide) dX3_carry_21 ?_
      refine lv_istore_n (lv' := [(3, .int (nI ((S 26) (u)))), (0, .ref (ad (25))), (1, .int (nI (k))), (2, .int (nI (u)))]) hx hb dX3_carry_22 rfl hl (by decide) rfl (fun ls hl => ?_)
      refine lv_aload_n hx hb dX3_carry_23 rfl (lv_at hl 1 rfl) ?_
      refine n_iconst 0 hx hb dX3_carry_24 ?_
      refine lv_iload_n hx hb dX3_carry_25 rfl (lv_at hl 0 rfl) ?_
      refine g_callV (25) (C := RX3) (T := TX3) (N := 7) (ci := 2) (As := [.int (nI (0)), .int (nI ((S 26) (u)))]) (rest := []) (c_X3_isFit l hI (g := 0) (by omega) (N := (S 26) (u)) (by omega) (fun i hi => hRF.2 0 (by omega) i hi)) (cwV 2 hts gX3_carry_X3_isFit rfl rfl rfl (by decide +kernel) ⟨Nat.le_of_ble_eq_true rfl, Nat.le_of_ble_eq_true rfl⟩) hx hb hml hown hts hK hP  (by decide) rfl rfl rfl hl.1 rfl (Nat.le_of_ble_eq_true rfl) (Nat.zero_le _) (Nat.zero_le _) dX3_carry_26 ?_
      refine n_ifeq_b (tgt := 50) hx hb dX3_carry_29 (by decide) (fun h_29 => ?_) (fun h_29 => ?_)
      · refine lv_bipush (v := (-3)) hx hb dX3_carry_50 (by decide) ?_
        have hP : va_P D vwCl (pic 33 ad (gE cI cW cM ad (nR_carry S ((nI k)) ((nI u))))) s.heap := by rw [show nR_carry S ((nI k)) ((nI u)) = S from by unfold nR_carry; (try dsimp only [rN_]); rw [rg_y (by omega) (by omega) (by omega), rg_y (by omega) (by omega) (by omega), if_neg (amf_0 h_29)]]; exact hP
        exact g_iretW hx hb hrt hlocks hK hP (pic_D _ hD) hS dX3_carry_52 (by unfold sC_carry; (try dsimp only [rN_]); rw [rg_y (by omega) (by omega) (by omega), rg_y (by omega) (by omega) (by omega), if_neg (amf_0 h_29)])
      · refine lv_aload_n hx hb dX3_carry_32 rfl (lv_at hl 1 rfl) ?_
        refine n_iconst 1 hx hb dX3_carry_33 ?_
        refine lv_iload_n hx hb dX3_carry_34 rfl (lv_at hl 0 rfl) ?_
        refine g_callV (25) (C := RX3) (T := TX3) (N := 7) (ci := 2) (As := [.int (nI (1)), .int (nI ((S 26) (u)))]) (rest := []) (c_X3_isFit l hI (g := 1) (by omega) (N := (S 26) (u)) (by omega) (fun i hi => hRF.2 1 (by omega) i hi)) (cwV 2 hts gX3_carry_X3_isFit rfl rfl rfl (by decide +kernel) ⟨Nat.le_of_ble_eq_true rfl, Nat.le_of_ble_eq_true rfl⟩) hx hb hml hown hts hK hP  (by decide) rfl rfl rfl hl.1 rfl (Nat.le_of_ble_eq_true rfl) (Nat.zero_le _) (Nat.zero_le _) dX3_carry_35 ?_
        refine n_ifeq_b (tgt := 50) hx hb dX3_carry_38 (by decide) (fun h_38 => ?_) (fun h_38 => ?_)
        · refine lv_bipush (v := (-3)) hx hb dX3_carry_50 (by decide) ?_
          have hP : va_P D vwCl (pic 33 ad (gE cI cW cM ad (nR_carry S ((nI k)) ((nI u))))) s.heap := by rw [show nR_carry S ((nI k)) ((nI u)) = S from by unfold nR_carry; (try dsimp only [rN_]); rw [rg_y (by omega) (by omega) (by omega), rg_y (by omega) (by omega) (by omega), if_neg (amf_1 h_38)]]; exact hP
          exact g_iretW hx hb hrt hlocks hK hP (pic_D _ hD) hS dX3_carry_52 (by unfold sC_carry; (try dsimp only [rN_]); rw [rg_y (by omega) (by omega) (by omega), rg_y (by omega) (by omega) (by omega), if_neg (amf_1 h_38)])
        · refine lv_aload_n hx hb dX3_carry_41 rfl (lv_at hl 1 rfl) ?_
          refine n_iconst 2 hx hb dX3_carry_42 ?_
          refine lv_iload_n hx hb dX3_carry_43 rfl (lv_at hl 0 rfl) ?_
          refine g_callV (25) (C := RX3) (T := TX3) (N := 7) (ci := 2) (As := [.int (nI (2)), .int (nI ((S 26) (u)))]) (rest := []) (c_X3_isFit l hI (g := 2) (by omega) (N := (S 26) (u)) (by omega) (fun i hi => hRF.2 2 (by omega) i hi)) (cwV 2 hts gX3_carry_X3_isFit rfl rfl rfl (by decide +kernel) ⟨Nat.le_of_ble_eq_true rfl, Nat.le_of_ble_eq_true rfl⟩) hx hb hml hown hts hK hP  (by decide) rfl rfl rfl hl.1 rfl (Nat.le_of_ble_eq_true rfl) (Nat.zero_le _) (Nat.zero_le _) dX3_carry_44 ?_
          refine n_ifne_b (tgt := 53) hx hb dX3_carry_47 (by decide) (fun h_47 => ?_) (fun h_47 => ?_)
          · refine lv_aload_n hx hb dX3_carry_53 rfl (lv_at hl 1 rfl) ?_
            refine n_iconst 4 hx hb dX3_carry_54 ?_
            refine lv_iload_n hx hb dX3_carry_55 rfl (lv_at hl 0 rfl) ?_
            refine g_callVW (25) (C := RX3) (T := TX3) (N := 7) (ci := 2) (As := [.int (nI (4)), .int (nI ((S 26) (u)))]) (rest := []) (c_X3_clear l hI (S := S) (k := 4) (N := (S 26) (u)) (by omega)) (cwV 2 hts gX3_carry_X3_clear rfl rfl rfl (by decide +kernel) ⟨Nat.le_of_ble_eq_true rfl, Nat.le_of_ble_eq_true rfl⟩) hx hb hml hown hts hK hP (pic_D _ hD) hS  (by decide) rfl rfl rfl hl.1 rfl (Nat.le_of_ble_eq_true rfl) (Nat.zero_le _) (Nat.zero_le _) dX3_carry_56 (fun H locs hP hS => ?_)
            have hP : va_P D vwCl (pic 33 ad (gE cI cW cM ad (va_up (clrS S 4 (S 26 u)) 27 (cfR 64 (S 26 u) (crS (S 26 u) (rC S u) (rM S)) (clrS S 4 (S 26 u) 27) 0 0)))) H := by rw [cfR_00, va_up_same rfl]; exact hP
            refine n_iconst 0 hx hb dX3_carry_59 ?_
            refine lv_istore (lv' := [(4, .int (nI (0))), (3, .int (nI ((S 26) (u)))), (0, .ref (ad (25))), (1, .int (nI (k))), (2, .int (nI (u)))]) hx hb dX3_carry_60 hl (by decide) rfl (fun ls hl => ?_)
            have L_62 : ∀ (r : Nat) (i : Nat), (i ≤ S 26 u) → (S 26 u < i + r) → ∀ (H : Heap) (locs : List Loc), va_P D vwCl (pic 33 ad (gE cI cW cM ad (va_up (clrS S 4 (S 26 u)) 27 (cfR 64 (S 26 u) (crS (S 26 u) (rC S u) (rM S)) (clrS S 4 (S 26 u) 27) i 0)))) H → va_S A s.heap H locs → ∀ (ls : Array Slot), lv_has ls 6 [(0, .ref (ad (25))), (1, .int (nI (k))), (2, .int (nI (u))), (3, .int (nI (S 26 u))), (4, .int (nI (i)))] → W p l e ({ frames := 2, cells := 0, slots := 0, locals := 48 } : Room) s m args below meth c H locs 0 0 (MQ below (QW (some (.int (sC_carry (rN_ S) (rM S) ((nI k)) ((nI u))))) (PW D tys A 33 ad (gE cI cW cM ad (nR_carry S ((nI k)) ((nI u))))) A) args s 0 0 A) (F0 m 62 ls []) := by
              intro r
              induction r with
              | zero => intro i hi hr; intros; exact absurd hr (by omega)
              | succ r ih =>
                intro i hi hr H locs hP hS ls hl
                have ih_62 := ih
                refine lv_iload hx hb dX3_carry_62 (lv_at hl 4 rfl) ?_
                refine lv_iload_n hx hb dX3_carry_64 rfl (lv_at hl 3 rfl) ?_
                refine n_ge (tgt := 132) hx hb dX3_carry_65 (by decide) (by omega) (by omega) (fun h_65 => ?_) (fun h_65 => ?_)
                · rw [show i = S 26 u by omega] at hP
                  refine lv_aload_n hx hb dX3_carry_132 rfl (lv_at hl 0 rfl) ?_
                  refine n_iconst 4 hx hb dX3_carry_133 ?_
                  refine lv_iload_n hx hb dX3_carry_134 rfl (lv_at hl 1 rfl) ?_
                  refine g_callVW (25) (C := RX3) (T := TX3) (N := 7) (ci := 2) (As := [.int (nI (4)), .int (nI (k))]) (rest := []) (c_X3_copy l hI (S := va_up (clrS S 4 (S 26 u)) 27 (cfR 64 (S 26 u) (crS (S 26 u) (rC S u) (rM S)) (clrS S 4 (S 26 u) 27) (S 26 u) 0)) (t := k) (by omega)) (cwV 2 hts gX3_carry_X3_copy rfl rfl rfl (by decide +kernel) ⟨Nat.le_of_ble_eq_true rfl, Nat.le_of_ble_eq_true rfl⟩) hx hb hml hown hts hK hP (pic_D _ hD) hS  (by decide) rfl rfl rfl hl.1 rfl (Nat.le_of_ble_eq_true rfl) (Nat.zero_le _) (Nat.zero_le _) dX3_carry_135 (fun H locs hP hS => ?_)
                  refine n_iconst 1 hx hb dX3_carry_138 ?_
                  have hP : va_P D vwCl (pic 33 ad (gE cI cW cM ad (nR_carry S ((nI k)) ((nI u))))) H := by rw [show nR_carry S ((nI k)) ((nI u)) = newR S k (S 26 u) (crS (S 26 u) (rC S u) (rM S)) from by unfold nR_carry; (try dsimp only [rN_]); rw [rg_y (by omega) (by omega) (by omega), rg_y (by omega) (by omega) (by omega), if_pos (amf_y h_29 h_38 h_47)]]; exact hP
                  exact g_iretW hx hb hrt hlocks hK hP (pic_D _ hD) hS dX3_carry_139 (by unfold sC_carry; (try dsimp only [rN_]); rw [rg_y (by omega) (by omega) (by omega), rg_y (by omega) (by omega) (by omega), if_pos (amf_y h_29 h_38 h_47)])
                · refine n_iconst 0 hx hb dX3_carry_68 ?_
                  refine lv_istore (lv' := [(5, .int (nI (0))), (0, .ref (ad (25))), (1, .int (nI (k))), (2, .int (nI (u))), (3, .int (nI (S 26 u))), (4, .int (nI (i)))]) hx hb dX3_carry_69 hl (by decide) rfl (fun ls hl => ?_)
                  have L_71 : ∀ (r : Nat) (j : Nat), (j ≤ S 26 u) → (S 26 u < j + r) → ∀ (H : Heap) (locs : List Loc), va_P D vwCl (pic 33 ad (gE cI cW cM ad (va_up (clrS S 4 (S 26 u)) 27 (cfR 64 (S 26 u) (crS (S 26 u) (rC S u) (rM S)) (clrS S 4 (S 26 u) 27) i j)))) H → va_S A s.heap H locs → ∀ (ls : Array Slot), lv_has ls 6 [(0, .ref (ad (25))), (1, .int (nI (k))), (2, .int (nI (u))), (3, .int (nI (S 26 u))), (4, .int (nI (i))), (5, .int (nI (j)))] → W p l e ({ frames := 2, cells := 0, slots := 0, locals := 48 } : Room) s m args below meth c H locs 0 0 (MQ below (QW (some (.int (sC_carry (rN_ S) (rM S) ((nI k)) ((nI u))))) (PW D tys A 33 ad (gE cI cW cM ad (nR_carry S ((nI k)) ((nI u))))) A) args s 0 0 A) (F0 m 71 ls []) := by
                    intro r
                    induction r with
                    | zero => intro j hj hr2; intros; exact absurd hr2 (by omega)
                    | succ r ih =>
                      intro j hj hr2 H locs hP hS ls hl
                      have ih_71 := ih
                      refine lv_iload hx hb dX3_carry_71 (lv_at hl 5 rfl) ?_
                      refine lv_iload_n hx hb dX3_carry_73 rfl (lv_at hl 3 rfl) ?_
                      refine n_ge (tgt := 126) hx hb dX3_carry_74 (by decide) (by omega) (by omega) (fun h_74 => ?_) (fun h_74 => ?_)
                      · rw [show j = S 26 u by omega, cfR_row] at hP
                        refine n_iinc 4 1 (lv' := [(4, .int (nI (i + 1))), (0, .ref (ad (25))), (1, .int (nI (k))), (2, .int (nI (u))), (3, .int (nI (S 26 u))), (5, .int (nI (j)))]) hx hb dX3_carry_126 hl rfl (by decide) rfl (fun ls hl => ?_)
                        refine n_goto 62 hx hb dX3_carry_129 (by decide) ?_
                        exact ih_62 (i + 1) (by omega) (by omega) _ _ hP hS _ (lv_sub hl [1, 2, 3, 4, 0] rfl)
                      · have si := shl1_lt (k := i) (n := S 26 u) (by omega)
                        have sj := shl1_lt (k := j) (n := S 26 u) (by omega)
                        have r0 := src_lt (f := rM S 0) (n := S 26 u) (v := 1 <<< i)
                        have r1 := src_lt (f := rM S 1) (n := S 26 u) (v := 1 <<< j)
                        have t1 := tm_lt hcbu (src (rM S 0) (S 26 u) (1 <<< i)) (src (rM S 1) (S 26 u) (1 <<< j))
                        refine lv_aload_n hx hb dX3_carry_77 rfl (lv_at hl 0 rfl) ?_
                        refine g_get (25) 1 (C := RX3) (T := TX3) (N := 7) (ci := 2) (ref := "CubeWorldsModel") hx hb hts (by decide +kernel) hown hK hP (by decide) rfl rfl (by decide) (by decide +kernel) rfl rfl dX3_carry_78 ?_
                        refine lv_bipush (v := nI 64) hx hb dX3_carry_81 (by decide) ?_
                        refine n_iconst 4 hx hb dX3_carry_83 ?_
                        refine lv_iload hx hb dX3_carry_84 (lv_at hl 4 rfl) ?_
                        refine n_imul hx hb dX3_carry_86 ?_
                        refine n_iadd hx hb dX3_carry_87 ?_
                        refine lv_iload hx hb dX3_carry_88 (lv_at hl 5 rfl) ?_
                        refine n_iadd hx hb dX3_carry_90 ?_
                        refine lv_aload_n hx hb dX3_carry_91 rfl (lv_at hl 0 rfl) ?_
                        refine n_iconst 2 hx hb dX3_carry_92 ?_
                        refine lv_aload_n hx hb dX3_carry_93 rfl (lv_at hl 0 rfl) ?_
                        refine lv_iload_n hx hb dX3_carry_94 rfl (lv_at hl 2 rfl) ?_
                        refine lv_aload_n hx hb dX3_carry_95 rfl (lv_at hl 0 rfl) ?_
                        refine n_iconst 0 hx hb dX3_carry_96 ?_
                        refine n_iconst 1 hx hb dX3_carry_97 ?_
                        refine lv_iload hx hb dX3_carry_98 (lv_at hl 4 rfl) ?_
                        refine n_ishl hx hb dX3_carry_100 (by omega) ?_
                        refine g_callV (25) (C := RX3) (T := TX3) (N := 7) (ci := 2) (As := [.int (nI (0)), .int (nI (1 <<< i))]) (rest := [.int (nI (u)), .ref (ad (25)), .int (nI (2)), .ref (ad (25)), .int (nI ((64 + (4 * i)) + j)), .ref (ad (27))]) (c_X3_back l hI (S := va_up (clrS S 4 (S 26 u)) 27 (cfR 64 (S 26 u) (crS (S 26 u) (rC S u) (rM S)) (clrS S 4 (S 26 u) 27) i j)) (g := 0) (N := S 26 u) (V := 1 <<< i) (by omega) h4u (by omega) (fun i hi => hRF.2 0 (by omega) i hi) (fit_onto (f := rM S 0) h_29 si)) (cwV 2 hts gX3_carry_X3_back rfl rfl rfl (by decide +kernel) ⟨Nat.le_of_ble_eq_true rfl, Nat.le_of_ble_eq_true rfl⟩) hx hb hml hown hts hK hP  (by decide) rfl rfl rfl hl.1 rfl (Nat.le_of_ble_eq_true rfl) (Nat.zero_le _) (Nat.zero_le _) dX3_carry_101 ?_
                        refine n_eq (show nI (src (rM (va_up (clrS S 4 (S 26 u)) 27 (cfR 64 (S 26 u) (crS (S 26 u) (rC S u) (rM S)) (clrS S 4 (S 26 u) 27) i j)) 0) (S 26 u) (1 <<< i)) = nI (src (rM S 0) (S 26 u) (1 <<< i)) from rfl) ?_
                        refine lv_aload_n hx hb dX3_carry_104 rfl (lv_at hl 0 rfl) ?_
                        refine n_iconst 1 hx hb dX3_carry_105 ?_
                        refine n_iconst 1 hx hb dX3_carry_106 ?_
                        refine lv_iload hx hb dX3_carry_107 (lv_at hl 5 rfl) ?_
                        refine n_ishl hx hb dX3_carry_109 (by omega) ?_
                        refine g_callV (25) (C := RX3) (T := TX3) (N := 7) (ci := 2) (As := [.int (nI (1)), .int (nI (1 <<< j))]) (rest := [.int (nI (src (rM S 0) (S 26 u) (1 <<< i))), .int (nI (u)), .ref (ad (25)), .int (nI (2)), .ref (ad (25)), .int (nI ((64 + (4 * i)) + j)), .ref (ad (27))]) (c_X3_back l hI (S := va_up (clrS S 4 (S 26 u)) 27 (cfR 64 (S 26 u) (crS (S 26 u) (rC S u) (rM S)) (clrS S 4 (S 26 u) 27) i j)) (g := 1) (N := S 26 u) (V := 1 <<< j) (by omega) h4u (by omega) (fun i hi => hRF.2 1 (by omega) i hi) (fit_onto (f := rM S 1) h_38 sj)) (cwV 2 hts gX3_carry_X3_back rfl rfl rfl (by decide +kernel) ⟨Nat.le_of_ble_eq_true rfl, Nat.le_of_ble_eq_true rfl⟩) hx hb hml hown hts hK hP  (by decide) rfl rfl rfl hl.1 rfl (Nat.le_of_ble_eq_true rfl) (Nat.zero_le _) (Nat.zero_le _) dX3_carry_110 ?_
                        refine n_eq (show nI (src (rM (va_up (clrS S 4 (S 26 u)) 27 (cfR 64 (S 26 u) (crS (S 26 u) (rC S u) (rM S)) (clrS S 4 (S 26 u) 27) i j)) 1) (S 26 u) (1 <<< j)) = nI (src (rM S 1) (S 26 u) (1 <<< j)) from rfl) ?_
                        refine g_callV (25) (C := RX3) (T := TX3) (N := 7) (ci := 2) (As := [.int (nI (u)), .int (nI (src (rM S 0) (S 26 u) (1 <<< i))), .int (nI (src (rM S 1) (S 26 u) (1 <<< j)))]) (rest := [.int (nI (2)), .ref (ad (25)), .int (nI ((64 + (4 * i)) + j)), .ref (ad (27))]) (c_X3_times l hI (S := va_up (clrS S 4 (S 26 u)) 27 (cfR 64 (S 26 u) (crS (S 26 u) (rC S u) (rM S)) (clrS S 4 (S 26 u) 27) i j)) (k := u) (by omega) (by rw [clr_26 (by omega)]; exact h4u) (X := src (rM S 0) (S 26 u) (1 <<< i)) (Y := src (rM S 1) (S 26 u) (1 <<< j)) (by omega) (by omega)) (cwV 3 hts gX3_carry_X3_times rfl rfl rfl (by decide +kernel) ⟨Nat.le_of_ble_eq_true rfl, Nat.le_of_ble_eq_true rfl⟩) hx hb hml hown hts hK hP  (by decide) rfl rfl rfl hl.1 rfl (Nat.le_of_ble_eq_true rfl) (Nat.zero_le _) (Nat.zero_le _) dX3_carry_113 ?_
                        refine n_eq (show nI (tm ((va_up (clrS S 4 (S 26 u)) 27 (cfR 64 (S 26 u) (crS (S 26 u) (rC S u) (rM S)) (clrS S 4 (S 26 u) 27) i j)) 26 u) (rC (va_up (clrS S 4 (S 26 u)) 27 (cfR 64 (S 26 u) (crS (S 26 u) (rC S u) (rM S)) (clrS S 4 (S 26 u) 27) i j)) u) (src (rM S 0) (S 26 u) (1 <<< i)) (src (rM S 1) (S 26 u) (1 <<< j))) = nI (tm (S 26 u) (rC S u) (src (rM S 0) (S 26 u) (1 <<< i)) (src (rM S 1) (S 26 u) (1 <<< j))) from by rw [clr_26 (by omega), clr_rC (by omega)]) ?_
                        refine g_callV (25) (C := RX3) (T := TX3) (N := 7) (ci := 2) (As := [.int (nI (2)), .int (nI (tm (S 26 u) (rC S u) (src (rM S 0) (S 26 u) (1 <<< i)) (src (rM S 1) (S 26 u) (1 <<< j))))]) (rest := [.int (nI ((64 + (4 * i)) + j)), .ref (ad (27))]) (c_X3_image l hI (S := va_up (clrS S 4 (S 26 u)) 27 (cfR 64 (S 26 u) (crS (S 26 u) (rC S u) (rM S)) (clrS S 4 (S 26 u) 27) i j)) (g := 2) (by omega) (X := tm (S 26 u) (rC S u) (src (rM S 0) (S 26 u) (1 <<< i)) (src (rM S 1) (S 26 u) (1 <<< j))) (by omega)) (cwV 2 hts gX3_carry_X3_image rfl rfl rfl (by decide +kernel) ⟨Nat.le_of_ble_eq_true rfl, Nat.le_of_ble_eq_true rfl⟩) hx hb hml hown hts hK hP  (by decide) rfl rfl rfl hl.1 rfl (Nat.le_of_ble_eq_true rfl) (Nat.zero_le _) (Nat.zero_le _) dX3_carry_116 ?_
                        refine n_eq (show nI (im (rM (va_up (clrS S 4 (S 26 u)) 27 (cfR 64 (S 26 u) (crS (S 26 u) (rC S u) (rM S)) (clrS S 4 (S 26 u) 27) i j)) 2) (tm (S 26 u) (rC S u) (src (rM S 0) (S 26 u) (1 <<< i)) (src (rM S 1) (S 26 u) (1 <<< j)))) = nI (crS (S 26 u) (rC S u) (rM S) i j) from rfl) ?_
                        refine g_iast (27) ((64 + (4 * i)) + j) (crS (S 26 u) (rC S u) (rM S) i j) hx hb hK hP (pic_D _ hD) hS (by decide) (gIX (S' := va_up (clrS S 4 (S 26 u)) 27 (cfR 64 (S 26 u) (crS (S 26 u) (rC S u) (rM S)) (clrS S 4 (S 26 u) 27) i j)) 27 80 rfl (by decide) (by exact va_up_at _ _ _)) hI (by omega) (by decide) dX3_carry_119 (fun H locs hP hS => ?_)
                        rw [gE_upL 27 80 rfl (by decide), va_up_up, cfR_put (by omega) (by omega) (by omega)] at hP
                        refine n_iinc 5 1 (lv' := [(5, .int (nI (j + 1))), (0, .ref (ad (25))), (1, .int (nI (k))), (2, .int (nI (u))), (3, .int (nI (S 26 u))), (4, .int (nI (i)))]) hx hb dX3_carry_120 hl rfl (by decide) rfl (fun ls hl => ?_)
                        refine n_goto 71 hx hb dX3_carry_123 (by decide) ?_
                        exact ih_71 (j + 1) (by omega) (by omega) _ _ hP hS _ (lv_sub hl [1, 2, 3, 4, 5, 0] rfl)
                  exact L_71 (S 26 u + 1) (0) (Nat.zero_le _) (by omega) _ _ hP hS _ (lv_sub hl [1, 2, 3, 4, 5, 0] rfl)
            exact L_62 (S 26 u + 1) (0) (Nat.zero_le _) (by omega) _ _ hP hS _ (lv_sub hl [2, 3, 4, 1, 0] rfl)
          · refine lv_bipush (v := (-3)) hx hb dX3_carry_50 (by decide) ?_
            have hP : va_P D vwCl (pic 33 ad (gE cI cW cM ad (nR_carry S ((nI k)) ((nI u))))) s.heap := by rw [show nR_carry S ((nI k)) ((nI u)) = S from by unfold nR_carry; (try dsimp only [rN_]); rw [rg_y (by omega) (by omega) (by omega), rg_y (by omega) (by omega) (by omega), if_neg (amf_2 h_47)]]; exact hP
            exact g_iretW hx hb hrt hlocks hK hP (pic_D _ hD) hS dX3_carry_52 (by unfold sC_carry; (try dsimp only [rN_]); rw [rg_y (by omega) (by omega) (by omega), rg_y (by omega) (by omega) (by omega), if_neg (amf_2 h_47)])
    · refine lv_iconst (v := (-1)) hx hb dX3_carry_14 (by decide) ?_
      have hP : va_P D vwCl (pic 33 ad (gE cI cW cM ad (nR_carry S ((nI k)) b0))) s.heap := by rw [show nR_carry S ((nI k)) b0 = S from by unfold nR_carry; (try dsimp only [rN_]); rw [rg_y (by omega) (by omega) (by omega), rg_n h_11]]; exact hP
      exact g_iretW hx hb hrt hlocks hK hP (pic_D _ hD) hS dX3_carry_15 (by unfold sC_carry; (try dsimp only [rN_]); rw [rg_y (by omega) (by omega) (by omega), rg_n h_11])
set_option maxHeartbeats 4000000 in
set_option maxRecDepth 100000 in
theorem c_X3_cubes (l : Launch) {D : va_G} {tys : List (ClassId × FieldType)} {A : Nat → Prop} {ad : Nat → Nat} {cI cW cM : ClassId} {tI : Nat} {S : Nat → Nat → Nat} (hI : tys[tI]? = some (cI, .int)) (hRF : RF S) {x : Int32} : Met l yX3_cubes wsX3_cubes ({ frames := 2, cells := 0, slots := 0, locals := 49 } : Room) (va_Pc [.ref (ad (25)), .int (x)] (PW D tys A 33 ad (gE cI cW cM ad S))) (QW (some (.int (sC_cubes x))) (PW D tys A 33 ad (gE cI cW cM ad (nR_cubes S x))) A) 0 0 A := by
  refine g_writes (cc := cX3_cubes) (maxL := 5) (ret := (some .int)) (by decide) rfl (Nat.le_of_ble_eq_true rfl) ?_
  intro p e s m args below meth c hx hb hrt hts hown hlocks hml hP hK hD hS ls hl
  show W p l e ({ frames := 2, cells := 0, slots := 0, locals := 49 } : Room) s m args below meth c s.heap [] 0 0 _ _
  have hl : lv_has ls 5 [(0, .ref (ad (25))), (1, .int (x))] := hl
  refine lv_iload_n hx hb dX3_cubes_0 rfl (lv_at hl 1 rfl) ?_
  refine n_iconst 1 hx hb dX3_cubes_1 ?_
  refine n_iconst 2 hx hb dX3_cubes_2 ?_
  refine g_callS (As := [.int (x), .int (nI (1)), .int (nI (2))]) (rest := []) (c_X3_in l hI (v := x) (lo := 1) (hi := 2)) (va_cwS 3 hts gX3_cubes_X3_in rfl rfl rfl (by decide +kernel) ⟨Nat.le_of_ble_eq_true rfl, Nat.le_of_ble_eq_true rfl⟩) hx hb hml hown hts hK hP  rfl hl.1 rfl (Nat.le_of_ble_eq_true rfl) (Nat.zero_le _) (Nat.zero_le _) dX3_cubes_3 ?_
  refine n_ifne_b (tgt := 12) hx hb dX3_cubes_6 (by decide) (fun h_6 => ?_) (fun h_6 => ?_)
  · obtain ⟨N, hN1, hN2, e9⟩ := rB_some (by omega) (by omega) h_6
    subst e9
    have q1 := nc10 (by omega) (show N ≤ 2 by omega)
    refine lv_aload_n hx hb dX3_cubes_12 rfl (lv_at hl 0 rfl) ?_
    refine n_iconst 4 hx hb dX3_cubes_13 ?_
    refine lv_iload_n hx hb dX3_cubes_14 rfl (lv_at hl 1 rfl) ?_
    refine g_callVW (25) (C := RX3) (T := TX3) (N := 7) (ci := 2) (As := [.int (nI (4)), .int (nI (N))]) (rest := []) (c_X3_clear l hI (S := S) (k := 4) (N := N) (by omega)) (cwV 2 hts gX3_cubes_X3_clear rfl rfl rfl (by decide +kernel) ⟨Nat.le_of_ble_eq_true rfl, Nat.le_of_ble_eq_true rfl⟩) hx hb hml hown hts hK hP (pic_D _ hD) hS  (by decide) rfl rfl rfl hl.1 rfl (Nat.le_of_ble_eq_true rfl) (Nat.zero_le _) (Nat.zero_le _) dX3_cubes_15 (fun H locs hP hS => ?_)
    have hP : va_P D vwCl (pic 33 ad (gE cI cW cM ad (cbSt S N (cbR S N 0)))) H := by rw [show cbSt S N (cbR S N 0) = clrS S 4 N from va_up_same rfl]; exact hP
    refine n_iconst 0 hx hb dX3_cubes_18 ?_
    refine lv_istore_n (lv' := [(2, .int (nI (0))), (0, .ref (ad (25))), (1, .int (nI (N)))]) hx hb dX3_cubes_19 rfl hl (by decide) rfl (fun ls hl => ?_)
    refine n_iconst 0 hx hb dX3_cubes_20 ?_
    refine lv_istore_n (lv' := [(3, .int (nI (0))), (2, .int (nI (0))), (0, .ref (ad (25))), (1, .int (nI (N)))]) hx hb dX3_cubes_21 rfl hl (by decide) rfl (fun ls hl => ?_)
    have L_22 : ∀ (r : Nat) (acc : Nat) (C : Nat), (C ≤ 2 ^ (N * N * N)) → (2 ^ (N * N * N) < C + r) → (acc = cnt (fun C => (lbr N (rcC N C)).isNone) C) → ∀ (H : Heap) (locs : List Loc), va_P D vwCl (pic 33 ad (gE cI cW cM ad (cbSt S N (cbR S N C)))) H → va_S A s.heap H locs → ∀ (ls : Array Slot), lv_has ls 5 [(0, .ref (ad (25))), (1, .int (nI (N))), (2, .int (nI (acc))), (3, .int (nI (C)))] → W p l e ({ frames := 2, cells := 0, slots := 0, locals := 49 } : Room) s m args below meth c H locs 0 0 (MQ below (QW (some (.int (sC_cubes ((nI N))))) (PW D tys A 33 ad (gE cI cW cM ad (nR_cubes S ((nI N))))) A) args s 0 0 A) (F0 m 22 ls []) := by
      intro r
      induction r with
      | zero => intro acc C hC hr ha; intros; exact absurd hr (by omega)
      | succ r ih =>
        intro acc C hC hr ha H locs hP hS ls hl
        have ih_22 := ih
        refine lv_iload_n hx hb dX3_cubes_22 rfl (lv_at hl 3 rfl) ?_
        refine n_iconst 1 hx hb dX3_cubes_23 ?_
        refine lv_iload_n hx hb dX3_cubes_24 rfl (lv_at hl 1 rfl) ?_
        refine lv_iload_n hx hb dX3_cubes_25 rfl (lv_at hl 1 rfl) ?_
        refine n_imul hx hb dX3_cubes_26 ?_
        refine lv_iload_n hx hb dX3_cubes_27 rfl (lv_at hl 1 rfl) ?_
        refine n_imul hx hb dX3_cubes_28 ?_
        refine n_ishl hx hb dX3_cubes_29 (by omega) ?_
        refine n_eq (show nI (1 <<< ((N * N) * N)) = nI (2 ^ (N * N * N)) from by rw [shl1]) ?_
        refine n_ge (tgt := 105) hx hb dX3_cubes_30 (by decide) (by omega) (by omega) (fun h_30 => ?_) (fun h_30 => ?_)
        · rw [show C = 2 ^ (N * N * N) by omega] at hP
          have fin9 := hP
          refine lv_iload_n hx hb dX3_cubes_105 rfl (lv_at hl 2 rfl) ?_
          have hP : va_P D vwCl (pic 33 ad (gE cI cW cM ad (nR_cubes S (nI N)))) H := by rw [show nR_cubes S (nI N) = cbSt S N (cbR S N (2 ^ (N * N * N))) from rg_y (by omega) (by omega) (by omega)]; exact hP
          exact g_iretW hx hb hrt hlocks hK hP (pic_D _ hD) hS dX3_cubes_106 (by unfold sC_cubes; rw [rg_y (by omega) (by omega) (by omega), ha, show C = 2 ^ (N * N * N) by omega])
        · have hP : va_P D vwCl (pic 33 ad (gE cI cW cM ad (cbSt S N (fR N (rcV C N) (cbR S N C) 0)))) H := by rw [fR_0]; exact hP
          refine n_iconst 0 hx hb dX3_cubes_33 ?_
          refine lv_istore (lv' := [(4, .int (nI (0))), (0, .ref (ad (25))), (1, .int (nI (N))), (2, .int (nI (acc))), (3, .int (nI (C)))]) hx hb dX3_cubes_34 hl (by decide) rfl (fun ls hl => ?_)
          have L_36 : ∀ (r : Nat) (K : Nat), (K ≤ N * N) → (N * N < K + r) → ∀ (H : Heap) (locs : List Loc), va_P D vwCl (pic 33 ad (gE cI cW cM ad (cbSt S N (fR N (rcV C N) (cbR S N C) K)))) H → va_S A s.heap H locs → ∀ (ls : Array Slot), lv_has ls 5 [(0, .ref (ad (25))), (1, .int (nI (N))), (2, .int (nI (acc))), (3, .int (nI (C))), (4, .int (nI (K)))] → W p l e ({ frames := 2, cells := 0, slots := 0, locals := 49 } : Room) s m args below meth c H locs 0 0 (MQ below (QW (some (.int (sC_cubes ((nI N))))) (PW D tys A 33 ad (gE cI cW cM ad (nR_cubes S ((nI N))))) A) args s 0 0 A) (F0 m 36 ls []) := by
            intro r
            induction r with
            | zero => intro K hK9 hr2; intros; exact absurd hr2 (by omega)
            | succ r ih =>
              intro K hK9 hr2 H locs hP hS ls hl
              have ih_36 := ih
              refine lv_iload hx hb dX3_cubes_36 (lv_at hl 4 rfl) ?_
              refine lv_iload_n hx hb dX3_cubes_38 rfl (lv_at hl 1 rfl) ?_
              refine lv_iload_n hx hb dX3_cubes_39 rfl (lv_at hl 1 rfl) ?_
              refine n_imul hx hb dX3_cubes_40 ?_
              refine n_ge (tgt := 81) hx hb dX3_cubes_41 (by decide) (by omega) (by omega) (fun h_41 => ?_) (fun h_41 => ?_)
              · rw [show K = N * N by omega] at hP
                refine lv_iload_n hx hb dX3_cubes_81 rfl (lv_at hl 2 rfl) ?_
                refine lv_aload_n hx hb dX3_cubes_82 rfl (lv_at hl 0 rfl) ?_
                refine n_iconst 4 hx hb dX3_cubes_83 ?_
                refine g_callV (25) (C := RX3) (T := TX3) (N := 7) (ci := 2) (As := [.int (nI (4))]) (rest := [.int (nI (acc))]) (c_X3_firstBroken l hI (S := cbSt S N (fR N (rcV C N) (cbR S N C) (N * N))) (k := 4) (by decide) (by rw [cbR_4]; omega) (by rw [cbR_4]; exact cbR_CB (by omega))) (cwV 1 hts gX3_cubes_X3_firstBroken rfl rfl rfl (by decide +kernel) ⟨Nat.le_of_ble_eq_true rfl, Nat.le_of_ble_eq_true rfl⟩) hx hb hml hown hts hK hP  (by decide) rfl rfl rfl hl.1 rfl (Nat.le_of_ble_eq_true rfl) (Nat.zero_le _) (Nat.zero_le _) dX3_cubes_84 ?_
                refine lv_bipush (v := (-9)) hx hb dX3_cubes_87 (by decide) ?_
                refine n_cne_o (tgt := 96) hx hb dX3_cubes_89 (by decide) (fun q hq => by rw [cbR_4] at hq; have := fbO_b (by omega) hq; omega) (fun h_89 => ?_) (fun h_89 => ?_)
                · refine n_iconst 0 hx hb dX3_cubes_96 ?_
                  refine n_iadd hx hb dX3_cubes_97 ?_
                  refine lv_istore_n (lv' := [(2, .int (nI (acc + 0))), (0, .ref (ad (25))), (1, .int (nI (N))), (3, .int (nI (C))), (4, .int (nI (K)))]) hx hb dX3_cubes_98 rfl hl (by decide) rfl (fun ls hl => ?_)
                  refine n_iinc 3 1 (lv' := [(3, .int (nI (C + 1))), (2, .int (nI (acc + 0))), (0, .ref (ad (25))), (1, .int (nI (N))), (4, .int (nI (K)))]) hx hb dX3_cubes_99 hl rfl (by decide) rfl (fun ls hl => ?_)
                  refine n_goto 22 hx hb dX3_cubes_102 (by decide) ?_
                  exact ih_22 (acc + 0) (C + 1) (by omega) (by omega) (by rw [ha, cnt_n (show (fun C => (lbr N (rcC N C)).isNone) C = false from by show (lbr N (rcC N C)).isNone = _; rw [← lbr_cong (tm_cong (cbR_c (S := S) (f := cbR S N C) (by omega)))]; exact iN (fun z => h_89 (by rw [cbR_4]; exact fbO_n.mpr z)))]; rfl) _ _ hP hS _ (lv_sub hl [2, 3, 1, 0] rfl)
                · refine n_iconst 1 hx hb dX3_cubes_92 ?_
                  refine n_goto 97 hx hb dX3_cubes_93 (by decide) ?_
                  refine n_iadd hx hb dX3_cubes_97 ?_
                  refine lv_istore_n (lv' := [(2, .int (nI (acc + 1))), (0, .ref (ad (25))), (1, .int (nI (N))), (3, .int (nI (C))), (4, .int (nI (K)))]) hx hb dX3_cubes_98 rfl hl (by decide) rfl (fun ls hl => ?_)
                  refine n_iinc 3 1 (lv' := [(3, .int (nI (C + 1))), (2, .int (nI (acc + 1))), (0, .ref (ad (25))), (1, .int (nI (N))), (4, .int (nI (K)))]) hx hb dX3_cubes_99 hl rfl (by decide) rfl (fun ls hl => ?_)
                  refine n_goto 22 hx hb dX3_cubes_102 (by decide) ?_
                  exact ih_22 (acc + 1) (C + 1) (by omega) (by omega) (by rw [ha, cnt_y (show (fun C => (lbr N (rcC N C)).isNone) C = true from by show (lbr N (rcC N C)).isNone = _; rw [← lbr_cong (tm_cong (cbR_c (S := S) (f := cbR S N C) (by omega)))]; exact isN_1 (fbO_n.mp (by rw [cbR_4] at h_89; exact h_89)))]) _ _ hP hS _ (lv_sub hl [2, 3, 1, 0] rfl)
              · have q2 := nc9 (by omega) (show N ≤ 2 by omega) h_41
                refine lv_aload_n hx hb dX3_cubes_44 rfl (lv_at hl 0 rfl) ?_
                refine g_get (25) 1 (C := RX3) (T := TX3) (N := 7) (ci := 2) (ref := "CubeWorldsModel") hx hb hts (by decide +kernel) hown hK hP (by decide) rfl rfl (by decide) (by decide +kernel) rfl rfl dX3_cubes_45 ?_
                refine lv_bipush (v := nI 64) hx hb dX3_cubes_48 (by decide) ?_
                refine n_iconst 4 hx hb dX3_cubes_50 ?_
                refine lv_iload hx hb dX3_cubes_51 (lv_at hl 4 rfl) ?_
                refine lv_iload_n hx hb dX3_cubes_53 rfl (lv_at hl 1 rfl) ?_
                refine n_idiv hx hb dX3_cubes_54 (by omega) (by omega) (by omega) ?_
                refine n_imul hx hb dX3_cubes_55 ?_
                refine n_iadd hx hb dX3_cubes_56 ?_
                refine lv_iload hx hb dX3_cubes_57 (lv_at hl 4 rfl) ?_
                refine lv_iload_n hx hb dX3_cubes_59 rfl (lv_at hl 1 rfl) ?_
                refine n_irem hx hb dX3_cubes_60 (by omega) (by omega) (by omega) ?_
                refine n_iadd hx hb dX3_cubes_61 ?_
                refine lv_iload_n hx hb dX3_cubes_62 rfl (lv_at hl 3 rfl) ?_
                refine lv_iload_n hx hb dX3_cubes_63 rfl (lv_at hl 1 rfl) ?_
                refine lv_iload hx hb dX3_cubes_64 (lv_at hl 4 rfl) ?_
                refine n_imul hx hb dX3_cubes_66 ?_
                refine n_ishr hx hb dX3_cubes_67 (by omega) (by omega) ?_
                refine n_iconst 1 hx hb dX3_cubes_68 ?_
                refine lv_iload_n hx hb dX3_cubes_69 rfl (lv_at hl 1 rfl) ?_
                refine n_ishl hx hb dX3_cubes_70 (by omega) ?_
                refine n_eq (show nI (1 <<< N) = nI (2 ^ N) from by rw [shl1]) ?_
                refine n_iconst 1 hx hb dX3_cubes_71 ?_
                refine n_isub hx hb dX3_cubes_72 (by omega) ?_
                refine n_iand hx hb dX3_cubes_73 ?_
                refine g_iast (27) ((64 + (4 * (K / N))) + (K % N)) ((C >>> (N * K)) &&& ((2 ^ N) - 1)) hx hb hK hP (pic_D _ hD) hS (by decide) (gIX (S' := cbSt S N (fR N (rcV C N) (cbR S N C) K)) 27 80 rfl (by decide) (by exact va_up_at _ _ _)) hI (by omega) (by decide) dX3_cubes_74 (fun H locs hP hS => ?_)
                rw [show (C >>> (N * K)) &&& (2 ^ N - 1) = rcV C N (K / N) (K % N) from rcV_k.symm, gE_upL 27 80 rfl (by decide)] at hP
                unfold cbSt at hP
                rw [va_up_up, fR_put (by omega) (by omega) (by omega)] at hP
                refine n_iinc 4 1 (lv' := [(4, .int (nI (K + 1))), (0, .ref (ad (25))), (1, .int (nI (N))), (2, .int (nI (acc))), (3, .int (nI (C)))]) hx hb dX3_cubes_75 hl rfl (by decide) rfl (fun ls hl => ?_)
                refine n_goto 36 hx hb dX3_cubes_78 (by decide) ?_
                exact ih_36 (K + 1) (by omega) (by omega) _ _ hP hS _ (lv_sub hl [1, 2, 3, 4, 0] rfl)
          exact L_36 (N * N + 1) (0) (Nat.zero_le _) (by omega) _ _ hP hS _ (lv_sub hl [1, 2, 3, 4, 0] rfl)
    exact L_22 (2 ^ (N * N * N) + 1) (0) (0) (Nat.zero_le _) (by omega) rfl _ _ hP hS _ (lv_sub hl [2, 3, 1, 0] rfl)
  · refine lv_bipush (v := (-2)) hx hb dX3_cubes_9 (by decide) ?_
    have hP : va_P D vwCl (pic 33 ad (gE cI cW cM ad (nR_cubes S x))) s.heap := by rw [show nR_cubes S x = S from by unfold nR_cubes; (try dsimp only [rN_]); rw [rg_n h_6]]; exact hP
    exact g_iretW hx hb hrt hlocks hK hP (pic_D _ hD) hS dX3_cubes_11 (by unfold sC_cubes; (try dsimp only [rN_]); rw [rg_n h_6])
set_option maxHeartbeats 4000000 in
set_option maxRecDepth 100000 in
theorem c_X3_field (l : Launch) {D : va_G} {tys : List (ClassId × FieldType)} {A : Nat → Prop} {ad : Nat → Nat} {cI cW cM : ClassId} {tI : Nat} {S : Nat → Nat → Nat} (hI : tys[tI]? = some (cI, .int)) (hRF : RF S) {a x : Int32} : Met l yX3_field wsX3_field ({ frames := 2, cells := 0, slots := 0, locals := 42 } : Room) (va_Pc [.ref (ad (25)), .int (a), .int (x)] (PW D tys A 33 ad (gE cI cW cM ad S))) (QW (some (.int (sC_world a x))) (PW D tys A 33 ad (gE cI cW cM ad (nR_field S a x))) A) 0 0 A := by
  refine g_writes (cc := cX3_field) (maxL := 7) (ret := (some .int)) (by decide) rfl (Nat.le_of_ble_eq_true rfl) ?_
  intro p e s m args below meth c hx hb hrt hts hown hlocks hml hP hK hD hS ls hl
  show W p l e ({ frames := 2, cells := 0, slots := 0, locals := 42 } : Room) s m args below meth c s.heap [] 0 0 _ _
  have hl : lv_has ls 7 [(0, .ref (ad (25))), (1, .int (a)), (2, .int (x))] := hl
  refine lv_iload_n hx hb dX3_field_0 rfl (lv_at hl 1 rfl) ?_
  refine g_callS (As := [.int (a)]) (rest := []) (c_X3_isSlot l hI (v := a)) (va_cwS 1 hts gX3_field_X3_isSlot rfl rfl rfl (by decide +kernel) ⟨Nat.le_of_ble_eq_true rfl, Nat.le_of_ble_eq_true rfl⟩) hx hb hml hown hts hK hP  rfl hl.1 rfl (Nat.le_of_ble_eq_true rfl) (Nat.zero_le _) (Nat.zero_le _) dX3_field_1 ?_
  refine n_ifne_b (tgt := 9) hx hb dX3_field_4 (by decide) (fun h_4 => ?_) (fun h_4 => ?_)
  · obtain ⟨k, hk1, hk2, e9⟩ := rB_some (by omega) (by omega) h_4
    subst e9
    have hk5 : k < 5 := by omega
    have qk1 := (hRF.1 k (by omega)).1
    have h4k := qk1.2
    have hcbk := (hRF.1 k (by omega)).2
    have qk2 := pow4 h4k
    have qk3 : 0 < 2 ^ S 26 k := Nat.pow_pos (by decide)
    have qk4 := sq4 qk2
    refine lv_iload_n hx hb dX3_field_9 rfl (lv_at hl 2 rfl) ?_
    refine n_iconst 1 hx hb dX3_field_10 ?_
    refine n_iconst 4 hx hb dX3_field_11 ?_
    refine g_callS (As := [.int (x), .int (nI (1)), .int (nI (4))]) (rest := []) (c_X3_in l hI (v := x) (lo := 1) (hi := 4)) (va_cwS 3 hts gX3_field_X3_in rfl rfl rfl (by decide +kernel) ⟨Nat.le_of_ble_eq_true rfl, Nat.le_of_ble_eq_true rfl⟩) hx hb hml hown hts hK hP  rfl hl.1 rfl (Nat.le_of_ble_eq_true rfl) (Nat.zero_le _) (Nat.zero_le _) dX3_field_12 ?_
    refine n_ifne_b (tgt := 21) hx hb dX3_field_15 (by decide) (fun h_15 => ?_) (fun h_15 => ?_)
    · obtain ⟨N, hN1, hN2, e9⟩ := rB_some (by omega) (by omega) h_15
      subst e9
      refine lv_aload_n hx hb dX3_field_21 rfl (lv_at hl 0 rfl) ?_
      refine lv_iload_n hx hb dX3_field_22 rfl (lv_at hl 1 rfl) ?_
      refine lv_iload_n hx hb dX3_field_23 rfl (lv_at hl 2 rfl) ?_
      refine g_callVW (25) (C := RX3) (T := TX3) (N := 7) (ci := 2) (As := [.int (nI (k)), .int (nI (N))]) (rest := []) (c_X3_clear l hI (S := S) (k := k) (N := N) (by omega)) (cwV 2 hts gX3_field_X3_clear rfl rfl rfl (by decide +kernel) ⟨Nat.le_of_ble_eq_true rfl, Nat.le_of_ble_eq_true rfl⟩) hx hb hml hown hts hK hP (pic_D _ hD) hS  (by decide) rfl rfl rfl hl.1 rfl (Nat.le_of_ble_eq_true rfl) (Nat.zero_le _) (Nat.zero_le _) dX3_field_24 (fun H locs hP hS => ?_)
      have hP : va_P D vwCl (pic 33 ad (gE cI cW cM ad (va_up (clrS S k N) 27 (cfR (16 * k) N (fdV N) (clrS S k N 27) 0 0)))) H := by rw [cfR_00, va_up_same rfl]; exact hP
      refine n_iconst 0 hx hb dX3_field_27 ?_
      refine lv_istore_n (lv' := [(3, .int (nI (0))), (0, .ref (ad (25))), (1, .int (nI (k))), (2, .int (nI (N)))]) hx hb dX3_field_28 rfl hl (by decide) rfl (fun ls hl => ?_)
      have L_29 : ∀ (r : Nat) (i : Nat), (i ≤ N) → (N < i + r) → ∀ (H : Heap) (locs : List Loc), va_P D vwCl (pic 33 ad (gE cI cW cM ad (va_up (clrS S k N) 27 (cfR (16 * k) N (fdV N) (clrS S k N 27) i 0)))) H → va_S A s.heap H locs → ∀ (ls : Array Slot), lv_has ls 7 [(0, .ref (ad (25))), (1, .int (nI (k))), (2, .int (nI (N))), (3, .int (nI (i)))] → W p l e ({ frames := 2, cells := 0, slots := 0, locals := 42 } : Room) s m args below meth c H locs 0 0 (MQ below (QW (some (.int (sC_world ((nI k)) ((nI N))))) (PW D tys A 33 ad (gE cI cW cM ad (nR_field S ((nI k)) ((nI N))))) A) args s 0 0 A) (F0 m 29 ls []) := by
        intro r
        induction r with
        | zero => intro i hi hr; intros; exact absurd hr (by omega)
        | succ r ih =>
          intro i hi hr H locs hP hS ls hl
          have ih_29 := ih
          refine lv_iload_n hx hb dX3_field_29 rfl (lv_at hl 3 rfl) ?_
          refine lv_iload_n hx hb dX3_field_30 rfl (lv_at hl 2 rfl) ?_
          refine n_ge (tgt := 129) hx hb dX3_field_31 (by decide) (by omega) (by omega) (fun h_31 => ?_) (fun h_31 => ?_)
          · rw [show i = N by omega] at hP
            refine n_iconst 1 hx hb dX3_field_129 ?_
            refine lv_iload_n hx hb dX3_field_130 rfl (lv_at hl 2 rfl) ?_
            refine n_ishl hx hb dX3_field_131 (by omega) ?_
            refine n_eq (show nI (1 <<< N) = nI (2 ^ N) from by rw [shl1]) ?_
            have hP : va_P D vwCl (pic 33 ad (gE cI cW cM ad (nR_field S ((nI k)) ((nI N))))) H := by rw [show nR_field S ((nI k)) ((nI N)) = fldR S k N from by unfold nR_field; (try dsimp only [rN_]); rw [rg_y (by omega) (by omega) (by omega), rg_y (by omega) (by omega) (by omega)]]; exact hP
            exact g_iretW hx hb hrt hlocks hK hP (pic_D _ hD) hS dX3_field_132 (by unfold sC_world; (try dsimp only [rN_]); rw [rg_y (by omega) (by omega) (by omega), rg_y (by omega) (by omega) (by omega)])
          · refine n_iconst 0 hx hb dX3_field_34 ?_
            refine lv_istore (lv' := [(4, .int (nI (0))), (0, .ref (ad (25))), (1, .int (nI (k))), (2, .int (nI (N))), (3, .int (nI (i)))]) hx hb dX3_field_35 hl (by decide) rfl (fun ls hl => ?_)
            have L_37 : ∀ (r : Nat) (j : Nat), (j ≤ N) → (N < j + r) → ∀ (H : Heap) (locs : List Loc), va_P D vwCl (pic 33 ad (gE cI cW cM ad (va_up (clrS S k N) 27 (cfR (16 * k) N (fdV N) (clrS S k N 27) i j)))) H → va_S A s.heap H locs → ∀ (ls : Array Slot), lv_has ls 7 [(0, .ref (ad (25))), (1, .int (nI (k))), (2, .int (nI (N))), (3, .int (nI (i))), (4, .int (nI (j)))] → W p l e ({ frames := 2, cells := 0, slots := 0, locals := 42 } : Room) s m args below meth c H locs 0 0 (MQ below (QW (some (.int (sC_world ((nI k)) ((nI N))))) (PW D tys A 33 ad (gE cI cW cM ad (nR_field S ((nI k)) ((nI N))))) A) args s 0 0 A) (F0 m 37 ls []) := by
              intro r
              induction r with
              | zero => intro j hj hr2; intros; exact absurd hr2 (by omega)
              | succ r ih =>
                intro j hj hr2 H locs hP hS ls hl
                have ih_37 := ih
                refine lv_iload hx hb dX3_field_37 (lv_at hl 4 rfl) ?_
                refine lv_iload_n hx hb dX3_field_39 rfl (lv_at hl 2 rfl) ?_
                refine n_ge (tgt := 123) hx hb dX3_field_40 (by decide) (by omega) (by omega) (fun h_40 => ?_) (fun h_40 => ?_)
                · rw [show j = N by omega, cfR_row] at hP
                  refine n_iinc 3 1 (lv' := [(3, .int (nI (i + 1))), (0, .ref (ad (25))), (1, .int (nI (k))), (2, .int (nI (N))), (4, .int (nI (j)))]) hx hb dX3_field_123 hl rfl (by decide) rfl (fun ls hl => ?_)
                  refine n_goto 29 hx hb dX3_field_126 (by decide) ?_
                  exact ih_29 (i + 1) (by omega) (by omega) _ _ hP hS _ (lv_sub hl [1, 2, 3, 0] rfl)
                · have w0 : 1 <<< (i + j) < 2 ^ 31 := shl1_lt (by omega)
                  refine n_iconst 1 hx hb dX3_field_43 ?_
                  refine lv_iload_n hx hb dX3_field_44 rfl (lv_at hl 3 rfl) ?_
                  refine lv_iload hx hb dX3_field_45 (lv_at hl 4 rfl) ?_
                  refine n_iadd hx hb dX3_field_47 ?_
                  refine n_ishl hx hb dX3_field_48 (by omega) ?_
                  refine lv_istore (lv' := [(5, .int (nI (1 <<< (i + j)))), (0, .ref (ad (25))), (1, .int (nI (k))), (2, .int (nI (N))), (3, .int (nI (i))), (4, .int (nI (j)))]) hx hb dX3_field_49 hl (by decide) rfl (fun ls hl => ?_)
                  refine lv_bipush (v := nI 6) hx hb dX3_field_51 (by decide) ?_
                  refine lv_istore (lv' := [(6, .int (nI (6))), (5, .int (nI (1 <<< (i + j)))), (0, .ref (ad (25))), (1, .int (nI (k))), (2, .int (nI (N))), (3, .int (nI (i))), (4, .int (nI (j)))]) hx hb dX3_field_53 hl (by decide) rfl (fun ls hl => ?_)
                  have L_55 : ∀ (r : Nat) (w : Nat) (q : Nat), (q ≤ 6) → (N ≤ q + 1) → (q + 1 < N + r) → (w = rdR N (1 <<< (i + j)) (6 - q)) → ∀ (H : Heap) (locs : List Loc), va_P D vwCl (pic 33 ad (gE cI cW cM ad (va_up (clrS S k N) 27 (cfR (16 * k) N (fdV N) (clrS S k N 27) i j)))) H → va_S A s.heap H locs → ∀ (ls : Array Slot), lv_has ls 7 [(0, .ref (ad (25))), (1, .int (nI (k))), (2, .int (nI (N))), (3, .int (nI (i))), (4, .int (nI (j))), (5, .int (nI (w))), (6, .int (nI (q)))] → W p l e ({ frames := 2, cells := 0, slots := 0, locals := 42 } : Room) s m args below meth c H locs 0 0 (MQ below (QW (some (.int (sC_world ((nI k)) ((nI N))))) (PW D tys A 33 ad (gE cI cW cM ad (nR_field S ((nI k)) ((nI N))))) A) args s 0 0 A) (F0 m 55 ls []) := by
                    intro r
                    induction r with
                    | zero => intro w q hq hq2 hr3 hw; intros; exact absurd hr3 (by omega)
                    | succ r ih =>
                      intro w q hq hq2 hr3 hw H locs hP hS ls hl
                      have ih_55 := ih
                      refine lv_iload hx hb dX3_field_55 (lv_at hl 6 rfl) ?_
                      refine lv_iload_n hx hb dX3_field_57 rfl (lv_at hl 2 rfl) ?_
                      refine n_lt (tgt := 99) hx hb dX3_field_58 (by decide) (by omega) (by omega) (fun h_58 => ?_) (fun h_58 => ?_)
                      · refine lv_aload_n hx hb dX3_field_99 rfl (lv_at hl 0 rfl) ?_
                        refine g_get (25) 1 (C := RX3) (T := TX3) (N := 7) (ci := 2) (ref := "CubeWorldsModel") hx hb hts (by decide +kernel) hown hK hP (by decide) rfl rfl (by decide) (by decide +kernel) rfl rfl dX3_field_100 ?_
                        refine lv_bipush (v := nI 16) hx hb dX3_field_103 (by decide) ?_
                        refine lv_iload_n hx hb dX3_field_105 rfl (lv_at hl 1 rfl) ?_
                        refine n_imul hx hb dX3_field_106 ?_
                        refine n_iconst 4 hx hb dX3_field_107 ?_
                        refine lv_iload_n hx hb dX3_field_108 rfl (lv_at hl 3 rfl) ?_
                        refine n_imul hx hb dX3_field_109 ?_
                        refine n_iadd hx hb dX3_field_110 ?_
                        refine lv_iload hx hb dX3_field_111 (lv_at hl 4 rfl) ?_
                        refine n_iadd hx hb dX3_field_113 ?_
                        refine lv_iload hx hb dX3_field_114 (lv_at hl 5 rfl) ?_
                        refine g_iast (27) (((16 * k) + (4 * i)) + j) (w) hx hb hK hP (pic_D _ hD) hS (by decide) (gIX (S' := va_up (clrS S k N) 27 (cfR (16 * k) N (fdV N) (clrS S k N 27) i j)) 27 80 rfl (by decide) (by exact va_up_at _ _ _)) hI (by omega) (by decide) dX3_field_116 (fun H locs hP hS => ?_)
                        rw [show w = fdV N i j from by rw [hw, show 6 - q = 7 - N by omega]; rfl, gE_upL 27 80 rfl (by decide), va_up_up, cfR_put (by omega) (by omega) (by omega)] at hP
                        refine n_iinc 4 1 (lv' := [(4, .int (nI (j + 1))), (0, .ref (ad (25))), (1, .int (nI (k))), (2, .int (nI (N))), (3, .int (nI (i))), (5, .int (nI (w))), (6, .int (nI (q)))]) hx hb dX3_field_117 hl rfl (by decide) rfl (fun ls hl => ?_)
                        refine n_goto 37 hx hb dX3_field_120 (by decide) ?_
                        exact ih_37 (j + 1) (by omega) (by omega) _ _ hP hS _ (lv_sub hl [1, 2, 3, 4, 0] rfl)
                      · have w1 : w < 128 := by rw [hw]; exact rdR_lt N (by omega) (by omega) (i + j) (by omega) (6 - q) (by omega)
                        refine lv_iload hx hb dX3_field_61 (lv_at hl 5 rfl) ?_
                        refine lv_iload hx hb dX3_field_63 (lv_at hl 6 rfl) ?_
                        refine n_ishr hx hb dX3_field_65 (by omega) (by omega) ?_
                        refine n_iconst 1 hx hb dX3_field_66 ?_
                        refine n_iand hx hb dX3_field_67 ?_
                        refine n_iconst 1 hx hb dX3_field_68 ?_
                        refine n_cne (tgt := 89) hx hb dX3_field_69 (by decide) (and1_lt _) (by decide) (fun h_69 => ?_) (fun h_69 => ?_)
                        · refine lv_iload hx hb dX3_field_89 (lv_at hl 5 rfl) ?_
                          refine lv_istore (lv' := [(5, .int (nI (w))), (0, .ref (ad (25))), (1, .int (nI (k))), (2, .int (nI (N))), (3, .int (nI (i))), (4, .int (nI (j))), (6, .int (nI (q)))]) hx hb dX3_field_91 hl (by decide) rfl (fun ls hl => ?_)
                          refine n_idec 6 (lv' := [(6, .int (nI (q - 1))), (5, .int (nI (w))), (0, .ref (ad (25))), (1, .int (nI (k))), (2, .int (nI (N))), (3, .int (nI (i))), (4, .int (nI (j)))]) hx hb dX3_field_93 hl rfl (by omega) (by decide) rfl (fun ls hl => ?_)
                          refine n_goto 55 hx hb dX3_field_96 (by decide) ?_
                          exact ih_55 (w) (q - 1) (by omega) (by omega) (by omega) (by rw [show 6 - (q - 1) = (6 - q) + 1 by omega, rdR_n (by rw [← hw, show 6 - (6 - q) = q by omega]; exact h_69)]; exact hw) _ _ hP hS _ (lv_sub hl [2, 3, 4, 5, 6, 1, 0] rfl)
                        · refine lv_iload hx hb dX3_field_72 (lv_at hl 5 rfl) ?_
                          refine n_iconst 1 hx hb dX3_field_74 ?_
                          refine lv_iload hx hb dX3_field_75 (lv_at hl 6 rfl) ?_
                          refine n_ishl hx hb dX3_field_77 (by omega) ?_
                          refine n_ixor hx hb dX3_field_78 ?_
                          refine n_iconst 3 hx hb dX3_field_79 ?_
                          refine lv_iload hx hb dX3_field_80 (lv_at hl 6 rfl) ?_
                          refine lv_iload_n hx hb dX3_field_82 rfl (lv_at hl 2 rfl) ?_
                          refine n_isub hx hb dX3_field_83 (by omega) ?_
                          refine n_ishl hx hb dX3_field_84 (by omega) ?_
                          refine n_ixor hx hb dX3_field_85 ?_
                          refine n_goto 91 hx hb dX3_field_86 (by decide) ?_
                          refine lv_istore (lv' := [(5, .int (nI ((w ^^^ (1 <<< q)) ^^^ (3 <<< (q - N))))), (0, .ref (ad (25))), (1, .int (nI (k))), (2, .int (nI (N))), (3, .int (nI (i))), (4, .int (nI (j))), (6, .int (nI (q)))]) hx hb dX3_field_91 hl (by decide) rfl (fun ls hl => ?_)
                          refine n_idec 6 (lv' := [(6, .int (nI (q - 1))), (5, .int (nI ((w ^^^ (1 <<< q)) ^^^ (3 <<< (q - N))))), (0, .ref (ad (25))), (1, .int (nI (k))), (2, .int (nI (N))), (3, .int (nI (i))), (4, .int (nI (j)))]) hx hb dX3_field_93 hl rfl (by omega) (by decide) rfl (fun ls hl => ?_)
                          refine n_goto 55 hx hb dX3_field_96 (by decide) ?_
                          exact ih_55 ((w ^^^ (1 <<< q)) ^^^ (3 <<< (q - N))) (q - 1) (by omega) (by omega) (by omega) (by rw [show 6 - (q - 1) = (6 - q) + 1 by omega, rdR_y (by rw [← hw, show 6 - (6 - q) = q by omega]; exact h_69), ← hw, show 6 - (6 - q) = q by omega]) _ _ hP hS _ (lv_sub hl [2, 3, 4, 5, 6, 1, 0] rfl)
                  exact L_55 7 (1 <<< (i + j)) (6) (by omega) (by omega) (by omega) rfl _ _ hP hS _ (lv_sub hl [2, 3, 4, 5, 6, 1, 0] rfl)
            exact L_37 (N + 1) (0) (Nat.zero_le _) (by omega) _ _ hP hS _ (lv_sub hl [1, 2, 3, 4, 0] rfl)
      exact L_29 (N + 1) (0) (Nat.zero_le _) (by omega) _ _ hP hS _ (lv_sub hl [1, 2, 3, 0] rfl)
    · refine lv_bipush (v := (-2)) hx hb dX3_field_18 (by decide) ?_
      have hP : va_P D vwCl (pic 33 ad (gE cI cW cM ad (nR_field S ((nI k)) x))) s.heap := by rw [show nR_field S ((nI k)) x = S from by unfold nR_field; (try dsimp only [rN_]); rw [rg_y (by omega) (by omega) (by omega), rg_n h_15]]; exact hP
      exact g_iretW hx hb hrt hlocks hK hP (pic_D _ hD) hS dX3_field_20 (by unfold sC_world; (try dsimp only [rN_]); rw [rg_y (by omega) (by omega) (by omega), rg_n h_15])
  · refine lv_iconst (v := (-1)) hx hb dX3_field_7 (by decide) ?_
    have hP : va_P D vwCl (pic 33 ad (gE cI cW cM ad (nR_field S a x))) s.heap := by rw [show nR_field S a x = S from by unfold nR_field; (try dsimp only [rN_]); rw [rg_n h_4]]; exact hP
    exact g_iretW hx hb hrt hlocks hK hP (pic_D _ hD) hS dX3_field_8 (by unfold sC_world; (try dsimp only [rN_]); rw [rg_n h_4])
