/-! the law's loop -/
theorem and31 (x : Int32) : ∃ V, V < 32 ∧ x &&& nI 31 = nI V := by
  refine ⟨x.toBitVec.toNat &&& 31, Nat.lt_of_le_of_lt Nat.and_le_right (by decide), ?_⟩
  have e : x = nI x.toBitVec.toNat := k_bext (by rw [k_bv, BitVec.ofNat_toNat, BitVec.setWidth_eq])
  rw [← k_and, ← e]
theorem sub5 {L i : Nat} (hL : L ≤ 2560) (hi : i ≤ 2560) : (nI L - nI 5 < nI i) ↔ L < i + 5 := by
  rcases Nat.lt_or_ge L 5 with h | h
  · have e : (nI L - nI 5).toInt = (L : Int) - 5 := by
      rcases (show L = 0 ∨ L = 1 ∨ L = 2 ∨ L = 3 ∨ L = 4 by omega) with e | e | e | e | e <;> subst e <;> decide
    rw [i_lt, e, nI_toInt' (by omega)]
    omega
  · rw [pk_sub h, nI_ltI (by omega) (by omega)]
    omega
theorem zf_of {s : State} {b : Nat} (hgv : (Jvm.Cond.and given_1 narrow_1).before #[Value.ref b] s = true) (hts : ∀ w ∈ lw_tbl, w.before #[Value.ref b] s = true) : ∃ tz, ZF (fun q : Nat => s.heap.size ≤ q) tz s := by
  have hA : ∀ a : Nat, a < s.heap.size → ¬ (fun q : Nat => s.heap.size ≤ q) a := fun a h => Nat.not_le.mpr h
  have hs := flat_of_before _ hgv
  have h0 : (Cond.arrayOf (.static "CubeWorlds" "FIELD_LESS" "[I") .int).before #[Value.ref b] s = true := hs _ (by decide +kernel)
  have h1 : (Cond.eq (.length (.static "CubeWorlds" "FIELD_LESS" "[I")) (.int 5)).before #[Value.ref b] s = true := hs _ (by decide +kernel)
  have g0 : (Cond.eq (.elem (.static "CubeWorlds" "FIELD_LESS" "[I") (.int 0)) (.int 0)).before #[Value.ref b] s = true := hs _ (by decide +kernel)
  have g1 : (Cond.eq (.elem (.static "CubeWorlds" "FIELD_LESS" "[I") (.int 1)) (.int 0)).before #[Value.ref b] s = true := hs _ (by decide +kernel)
  have g2 : (Cond.eq (.elem (.static "CubeWorlds" "FIELD_LESS" "[I") (.int 2)) (.int 7)).before #[Value.ref b] s = true := hs _ (by decide +kernel)
  have g3 : (Cond.eq (.elem (.static "CubeWorlds" "FIELD_LESS" "[I") (.int 3)) (.int 11)).before #[Value.ref b] s = true := hs _ (by decide +kernel)
  have g4 : (Cond.eq (.elem (.static "CubeWorlds" "FIELD_LESS" "[I") (.int 4)) (.int 19)).before #[Value.ref b] s = true := hs _ (by decide +kernel)
  obtain ⟨t, ht, hT⟩ := va_Tof (N := 5) (f := fun j => .int (nI (flS j))) (by decide) h0 (va_eqt h1) (fun j hj => by
    rcases (show j = 0 ∨ j = 1 ∨ j = 2 ∨ j = 3 ∨ j = 4 by omega) with e | e | e | e | e
    · subst e; exact va_eqt g0
    · subst e; exact va_eqt g1
    · subst e; exact va_eqt g2
    · subst e; exact va_eqt g3
    · subst e; exact va_eqt g4) hA
  exact ⟨t, va_Zref (hts (.laysStatic "CubeWorlds" "FIELD_LESS" "[I") (by decide +kernel)) (hts (.initialized "CubeWorlds") (by decide +kernel)) ht hA, hT⟩
section RWL
variable {p : Program} {l : Launch} {e : Env} {R : Room} {s : State} {m : MethodId} {args : Array Value} {below : List Frame} {meth : Method} {c : Code} {H : Heap} {locs : List Loc} {cells slots : Nat} {Q : State → Prop}
variable {cc : ByteArray} {pc : Nat} {ls : Array Slot} {rest : List Value} {D : va_G} {tys : List (ClassId × FieldType)} {n : Nat} {ad : Nat → Nat} {E : Nat → va_E} {A : Nat → Prop} {tz : Nat}
theorem g_callVWZ (i : Nat) {y : MethodName} {bytes : ByteArray} {maxL nL k index ci N : Nat} {ret : Option FieldType} {ws Ts : List Cond} {rm : Room} {own C : String} {T : u_T} {fs As st0 : List Value} {v : Option Value} {E' : Nat → va_E} (hM : Met l y ws rm (va_Pc (.ref (ad i) :: As) (PWZ D tys A tz n ad E)) (QW v (PW D tys A n ad E') A) 0 0 A) (cw : CallW R s args own C index y bytes maxL ret ws rm 0 0 k) (hx : p.tables.exec = Jvm.exec) (hb : c.code = cc) (hml : c.maxLocals = nL) (hown : s.vm.findClass own = some m.cls) (hts : ∀ w ∈ Ts, w.before args s = true) (hK : KN D tys s) (hP : va_P D vwCl (pic n ad E) H) (hZ : ZF A tz s) (hD : va_D A (pic n ad E)) (hS : va_S A s.heap H locs) (hi : i < n) (hE : E i = .inr (ci, fs)) (hc : vwCl[ci]? = some (C, T, N))
    (hn : As.length = k) (hsize : ls.size = nL) (hst : st0 = As.reverse ++ .ref (ad i) :: rest) (hW : (rest.map fun v => v.category).sum ≤ 8) (hcl : cells ≤ R.cells) (hsl : slots ≤ R.slots) (hdg : decode cc pc = .ok (.invokevirtual index, 3))
    (kk : ∀ (H1 : Heap) (locs1 : List Loc), va_P D vwCl (pic n ad E') H1 → va_S A s.heap H1 locs1 → W p l e R s m args below meth c H1 locs1 cells slots Q (F0 m (pc + 3) ls (v.toList ++ rest))) : W p l e R s m args below meth c H locs cells slots Q (F0 m pc ls st0) :=
  g_after (va_runV (As := As) (rest := rest) ⟨hx, hb, hml, hown, hts⟩ hM cw ⟨PWZ_blind, g_recv hK hP hi hE hc, fun U hU hW => ⟨rfl, ⟨by rw [hU]; exact hP, hK.moved hW, hD⟩, hZ.go hW hS hU⟩⟩ rfl hn hsize hst (lv_room hW) hdg ⟨hcl, hsl⟩) hS (fun t H1 locs1 ht _ hB hS1 => kk H1 locs1 (by rw [← ht]; exact hB.1) hS1)
end RWL
set_option maxHeartbeats 16000000 in
set_option maxRecDepth 100000 in
theorem law_loop {p : Program} {l : Launch} {e : Env} {s : State} {m : MethodId} {below : List Frame} {meth : Method} {c : Code} {b L : Nat} {xs : Nat → Int32} (hL : L ≤ 2560) (C0 : lw_At p s m meth c b L xs) {D : va_G} {cI cW cM : ClassId} {ad : Nat → Nat} {tz : Nat} (hZ : ZF (fun q : Nat => s.heap.size ≤ q) tz s) (hK : KN D [(cI, .int), (cW, .object "CubeWorlds$World"), (cM, .array .int)] s) (hD : ∀ E, va_D (fun q : Nat => s.heap.size ≤ q) (pic 33 ad E)) :
    ∀ (r i : Nat), i ≤ L → L < i + r → ∀ (S : Nat → Nat → Nat), INV S → ∀ (H : Heap) (locs : List Loc), va_P D vwCl (pic 33 ad (gE cI cW cM ad S)) H → va_S (fun q : Nat => s.heap.size ≤ q) s.heap H locs → ∀ (ls : Array Slot), lv_has ls 4 [(0, .ref b), (1, .ref (ad 0)), (2, .ref (ad 25)), (3, .int (nI i))] → W p l e room_1 s m #[Value.ref b] below meth c H locs 33 1690 (lw_Z below #[Value.ref b] s) (F0 m 18 ls []) := by
  obtain ⟨hx, hb, hr, hml, hown, hts0, hX, hbl, hlocks, hgv⟩ := C0
  have hts := lw_of hts0
  have hbA : ¬ (fun q : Nat => s.heap.size ≤ q) b := Nat.not_le.mpr hbl
  have hI : ([(cI, .int), (cW, .object "CubeWorlds$World"), (cM, .array .int)] : List (ClassId × FieldType))[0]? = some (cI, .int) := rfl
  have hWt : ([(cI, .int), (cW, .object "CubeWorlds$World"), (cM, .array .int)] : List (ClassId × FieldType))[1]? = some (cW, .object "CubeWorlds$World") := rfl
  have hMt : ([(cI, .int), (cW, .object "CubeWorlds$World"), (cM, .array .int)] : List (ClassId × FieldType))[2]? = some (cM, .array .int) := rfl
  have hD := hD (fun _ => .inr (0, []))
  intro r
  induction r with
  | zero => intro i h1 h2; exact absurd h2 (by omega)
  | succ r ih =>
    intro i h1 h2 S hV H locs hP hS ls hl
    refine lv_iload_n hx hb dL_law_18 rfl (lv_at hl 3 rfl) ?_
    refine lv_aload_n hx hb dL_law_19 rfl (lv_at hl 0 rfl) ?_
    refine va_slen hx hb hX hbl hbA hS dL_law_20 ?_
    refine n_iconst 5 hx hb dL_law_21 ?_
    refine lv_isub hx hb dL_law_22 ?_
    refine lv_icmp_gt (tgt := 1071) hx hb dL_law_23 (by decide) (fun h_5 => ?_) (fun h_5 => ?_)
    · refine n_iconst 1 hx hb dL_law_1071 ?_
      refine va_forget (fun q hq => hS.2.2 q hq) ?_
      refine W.widen (k := 600000) (n := 7302249) (Nat.le_of_ble_eq_true rfl) (Nat.le_of_ble_eq_true rfl) ?_
      exact lw_ret hx hb hr hlocks dL_law_1072
    · have hi5 : i + 5 ≤ L := Nat.le_of_not_lt fun q => h_5 ((sub5 hL (by omega)).mpr q)
      refine lv_aload_n hx hb dL_law_26 rfl (lv_at hl 0 rfl) ?_
      refine lv_iload_n hx hb dL_law_27 rfl (lv_at hl 3 rfl) ?_
      refine va_sld hx hb hX hbl hbA hS (vp_in_nI (by omega) (by omega)) dL_law_28 ?_
      refine n_eq (y := xs (i)) (by rw [k_toNat (by omega)]) ?_
      refine lv_bipush (v := nI 31) hx hb dL_law_29 (by decide) ?_
      refine lv_iand hx hb dL_law_31 ?_
      obtain ⟨V, hV32, hVe⟩ := and31 (xs i)
      refine n_eq hVe ?_
      rcases (show V = 0 ∨ V = 1 ∨ V = 2 ∨ V = 3 ∨ V = 4 ∨ V = 5 ∨ V = 6 ∨ V = 7 ∨ V = 8 ∨ V = 9 ∨ V = 10 ∨ V = 11 ∨ V = 12 ∨ V = 13 ∨ V = 14 ∨ V = 15 ∨ V = 16 ∨ V = 17 ∨ V = 18 ∨ V = 19 ∨ V = 20 ∨ V = 21 ∨ V = 22 ∨ V = 23 ∨ V = 24 ∨ V = 25 ∨ V = 26 ∨ V = 27 ∨ V = 28 ∨ V = 29 ∨ V = 30 ∨ V = 31 by omega) with e9 | e9 | e9 | e9 | e9 | e9 | e9 | e9 | e9 | e9 | e9 | e9 | e9 | e9 | e9 | e9 | e9 | e9 | e9 | e9 | e9 | e9 | e9 | e9 | e9 | e9 | e9 | e9 | e9 | e9 | e9 | e9
      · subst e9
        refine lv_tableIn (off := 116) (tgt := 148) hx hb dL_law_32 (by decide) (by decide) (by decide) (by decide) ?_
        refine lv_aload_n hx hb dL_law_148 rfl (lv_at hl 1 rfl) ?_
        refine lv_aload_n hx hb dL_law_149 rfl (lv_at hl 0 rfl) ?_
        refine lv_iload_n hx hb dL_law_150 rfl (lv_at hl 3 rfl) ?_
        refine n_iconst 1 hx hb dL_law_151 ?_
        refine n_iadd hx hb dL_law_152 ?_
        refine va_sld hx hb hX hbl hbA hS (vp_in_nI (by omega) (by omega)) dL_law_153 ?_
        refine n_eq (y := xs (i + 1)) (by rw [k_toNat (by omega)]) ?_
        refine lv_aload_n hx hb dL_law_154 rfl (lv_at hl 0 rfl) ?_
        refine lv_iload_n hx hb dL_law_155 rfl (lv_at hl 3 rfl) ?_
        refine n_iconst 2 hx hb dL_law_156 ?_
        refine n_iadd hx hb dL_law_157 ?_
        refine va_sld hx hb hX hbl hbA hS (vp_in_nI (by omega) (by omega)) dL_law_158 ?_
        refine n_eq (y := xs (i + 2)) (by rw [k_toNat (by omega)]) ?_
        refine g_callVW (0) (C := RX2) (T := TX2) (N := 7) (ci := 1) (As := [.int (xs (i + 1)), .int (xs (i + 2))]) (rest := []) (c_X2_world l hI hWt hMt hV.1) (cwV 2 hts gL_law_X2_world rfl rfl rfl (by decide +kernel) ⟨Nat.le_of_ble_eq_true rfl, Nat.le_of_ble_eq_true rfl⟩) hx hb hml hown hts hK hP (pic_D _ hD) hS  (by decide) rfl rfl rfl hl.1 rfl (Nat.le_of_ble_eq_true rfl) (Nat.le_of_ble_eq_true rfl) (Nat.le_of_ble_eq_true rfl) dL_law_159 (fun H locs hP hS => ?_)
        have cc25 : ∀ q9, 25 ≤ q9 → (nC_world S (xs (i + 1)) (xs (i + 2))) q9 = S q9 := c25_world
        refine lv_aload_n hx hb dL_law_162 rfl (lv_at hl 2 rfl) ?_
        refine lv_aload_n hx hb dL_law_163 rfl (lv_at hl 0 rfl) ?_
        refine lv_iload_n hx hb dL_law_164 rfl (lv_at hl 3 rfl) ?_
        refine n_iconst 1 hx hb dL_law_165 ?_
        refine n_iadd hx hb dL_law_166 ?_
        refine va_sld hx hb hX hbl hbA hS (vp_in_nI (by omega) (by omega)) dL_law_167 ?_
        refine n_eq (y := xs (i + 1)) (by rw [k_toNat (by omega)]) ?_
        refine lv_aload_n hx hb dL_law_168 rfl (lv_at hl 0 rfl) ?_
        refine lv_iload_n hx hb dL_law_169 rfl (lv_at hl 3 rfl) ?_
        refine n_iconst 2 hx hb dL_law_170 ?_
        refine n_iadd hx hb dL_law_171 ?_
        refine va_sld hx hb hX hbl hbA hS (vp_in_nI (by omega) (by omega)) dL_law_172 ?_
        refine n_eq (y := xs (i + 2)) (by rw [k_toNat (by omega)]) ?_
        refine g_callVW (25) (C := RX3) (T := TX3) (N := 7) (ci := 2) (As := [.int (xs (i + 1)), .int (xs (i + 2))]) (rest := [.int (sC_world (xs (i + 1)) (xs (i + 2)))]) (c_X3_world l hI (S := nC_world S (xs (i + 1)) (xs (i + 2))) (RF_same hV.RF cc25)) (cwV 2 hts gL_law_X3_world rfl rfl rfl (by decide +kernel) ⟨Nat.le_of_ble_eq_true rfl, Nat.le_of_ble_eq_true rfl⟩) hx hb hml hown hts hK hP (pic_D _ hD) hS  (by decide) rfl rfl rfl hl.1 rfl (Nat.le_of_ble_eq_true rfl) (Nat.le_of_ble_eq_true rfl) (Nat.le_of_ble_eq_true rfl) dL_law_173 (fun H locs hP hS => ?_)
        refine lv_icmp_eq (tgt := 1065) hx hb dL_law_176 (by decide) (fun hq9 => ?_) (fun hq9 => absurd (Eq.symm (rfl)) hq9)
        refine n_iinc 3 5 (lv' := [(3, .int (nI (i + 5))), (0, .ref (b)), (1, .ref (ad (0))), (2, .ref (ad (25)))]) hx hb dL_law_1065 hl rfl (by decide) rfl (fun ls hl => ?_)
        refine n_goto 18 hx hb dL_law_1068 (by decide) ?_
        exact ih (i + 5) (by omega) (by omega) _ (st_world hV) _ _ hP hS ls (lv_sub hl [1, 2, 3, 0] rfl)
      · subst e9
        refine lv_tableIn (off := 149) (tgt := 181) hx hb dL_law_32 (by decide) (by decide) (by decide) (by decide) ?_
        refine lv_aload_n hx hb dL_law_181 rfl (lv_at hl 1 rfl) ?_
        refine lv_aload_n hx hb dL_law_182 rfl (lv_at hl 0 rfl) ?_
        refine lv_iload_n hx hb dL_law_183 rfl (lv_at hl 3 rfl) ?_
        refine n_iconst 1 hx hb dL_law_184 ?_
        refine n_iadd hx hb dL_law_185 ?_
        refine va_sld hx hb hX hbl hbA hS (vp_in_nI (by omega) (by omega)) dL_law_186 ?_
        refine n_eq (y := xs (i + 1)) (by rw [k_toNat (by omega)]) ?_
        refine lv_aload_n hx hb dL_law_187 rfl (lv_at hl 0 rfl) ?_
        refine lv_iload_n hx hb dL_law_188 rfl (lv_at hl 3 rfl) ?_
        refine n_iconst 2 hx hb dL_law_189 ?_
        refine n_iadd hx hb dL_law_190 ?_
        refine va_sld hx hb hX hbl hbA hS (vp_in_nI (by omega) (by omega)) dL_law_191 ?_
        refine n_eq (y := xs (i + 2)) (by rw [k_toNat (by omega)]) ?_
        refine lv_aload_n hx hb dL_law_192 rfl (lv_at hl 0 rfl) ?_
        refine lv_iload_n hx hb dL_law_193 rfl (lv_at hl 3 rfl) ?_
        refine n_iconst 3 hx hb dL_law_194 ?_
        refine n_iadd hx hb dL_law_195 ?_
        refine va_sld hx hb hX hbl hbA hS (vp_in_nI (by omega) (by omega)) dL_law_196 ?_
        refine n_eq (y := xs (i + 3)) (by rw [k_toNat (by omega)]) ?_
        refine lv_aload_n hx hb dL_law_197 rfl (lv_at hl 0 rfl) ?_
        refine lv_iload_n hx hb dL_law_198 rfl (lv_at hl 3 rfl) ?_
        refine n_iconst 4 hx hb dL_law_199 ?_
        refine n_iadd hx hb dL_law_200 ?_
        refine va_sld hx hb hX hbl hbA hS (vp_in_nI (by omega) (by omega)) dL_law_201 ?_
        refine n_eq (y := xs (i + 4)) (by rw [k_toNat (by omega)]) ?_
        refine g_callVW (0) (C := RX2) (T := TX2) (N := 7) (ci := 1) (As := [.int (xs (i + 1)), .int (xs (i + 2)), .int (xs (i + 3)), .int (xs (i + 4))]) (rest := []) (c_X2_put l hI hWt hMt hV.1) (cwV 4 hts gL_law_X2_put rfl rfl rfl (by decide +kernel) ⟨Nat.le_of_ble_eq_true rfl, Nat.le_of_ble_eq_true rfl⟩) hx hb hml hown hts hK hP (pic_D _ hD) hS  (by decide) rfl rfl rfl hl.1 rfl (Nat.le_of_ble_eq_true rfl) (Nat.le_of_ble_eq_true rfl) (Nat.le_of_ble_eq_true rfl) dL_law_202 (fun H locs hP hS => ?_)
        have cc25 : ∀ q9, 25 ≤ q9 → (nC_put S (xs (i + 1)) (xs (i + 2)) (xs (i + 3)) (xs (i + 4))) q9 = S q9 := (c25_put hV)
        refine lv_aload_n hx hb dL_law_205 rfl (lv_at hl 2 rfl) ?_
        refine lv_aload_n hx hb dL_law_206 rfl (lv_at hl 0 rfl) ?_
        refine lv_iload_n hx hb dL_law_207 rfl (lv_at hl 3 rfl) ?_
        refine n_iconst 1 hx hb dL_law_208 ?_
        refine n_iadd hx hb dL_law_209 ?_
        refine va_sld hx hb hX hbl hbA hS (vp_in_nI (by omega) (by omega)) dL_law_210 ?_
        refine n_eq (y := xs (i + 1)) (by rw [k_toNat (by omega)]) ?_
        refine lv_aload_n hx hb dL_law_211 rfl (lv_at hl 0 rfl) ?_
        refine lv_iload_n hx hb dL_law_212 rfl (lv_at hl 3 rfl) ?_
        refine n_iconst 2 hx hb dL_law_213 ?_
        refine n_iadd hx hb dL_law_214 ?_
        refine va_sld hx hb hX hbl hbA hS (vp_in_nI (by omega) (by omega)) dL_law_215 ?_
        refine n_eq (y := xs (i + 2)) (by rw [k_toNat (by omega)]) ?_
        refine lv_aload_n hx hb dL_law_216 rfl (lv_at hl 0 rfl) ?_
        refine lv_iload_n hx hb dL_law_217 rfl (lv_at hl 3 rfl) ?_
        refine n_iconst 3 hx hb dL_law_218 ?_
        refine n_iadd hx hb dL_law_219 ?_
        refine va_sld hx hb hX hbl hbA hS (vp_in_nI (by omega) (by omega)) dL_law_220 ?_
        refine n_eq (y := xs (i + 3)) (by rw [k_toNat (by omega)]) ?_
        refine lv_aload_n hx hb dL_law_221 rfl (lv_at hl 0 rfl) ?_
        refine lv_iload_n hx hb dL_law_222 rfl (lv_at hl 3 rfl) ?_
        refine n_iconst 4 hx hb dL_law_223 ?_
        refine n_iadd hx hb dL_law_224 ?_
        refine va_sld hx hb hX hbl hbA hS (vp_in_nI (by omega) (by omega)) dL_law_225 ?_
        refine n_eq (y := xs (i + 4)) (by rw [k_toNat (by omega)]) ?_
        refine g_callVW (25) (C := RX3) (T := TX3) (N := 7) (ci := 2) (As := [.int (xs (i + 1)), .int (xs (i + 2)), .int (xs (i + 3)), .int (xs (i + 4))]) (rest := [.int (sC_put (cN S) (cC S) (xs (i + 1)) (xs (i + 2)) (xs (i + 3)) (xs (i + 4)))]) (c_X3_put l hI (S := nC_put S (xs (i + 1)) (xs (i + 2)) (xs (i + 3)) (xs (i + 4))) (RF_same hV.RF cc25)) (cwV 4 hts gL_law_X3_put rfl rfl rfl (by decide +kernel) ⟨Nat.le_of_ble_eq_true rfl, Nat.le_of_ble_eq_true rfl⟩) hx hb hml hown hts hK hP (pic_D _ hD) hS  (by decide) rfl rfl rfl hl.1 rfl (Nat.le_of_ble_eq_true rfl) (Nat.le_of_ble_eq_true rfl) (Nat.le_of_ble_eq_true rfl) dL_law_226 (fun H locs hP hS => ?_)
        refine lv_icmp_eq (tgt := 1065) hx hb dL_law_229 (by decide) (fun hq9 => ?_) (fun hq9 => absurd (Eq.symm (by rw [rN_same cc25, rC_same cc25]; exact e_put hV)) hq9)
        refine n_iinc 3 5 (lv' := [(3, .int (nI (i + 5))), (0, .ref (b)), (1, .ref (ad (0))), (2, .ref (ad (25)))]) hx hb dL_law_1065 hl rfl (by decide) rfl (fun ls hl => ?_)
        refine n_goto 18 hx hb dL_law_1068 (by decide) ?_
        exact ih (i + 5) (by omega) (by omega) _ (st_put hV) _ _ hP hS ls (lv_sub hl [1, 2, 3, 0] rfl)
      · subst e9
        refine lv_tableIn (off := 202) (tgt := 234) hx hb dL_law_32 (by decide) (by decide) (by decide) (by decide) ?_
        refine lv_aload_n hx hb dL_law_234 rfl (lv_at hl 1 rfl) ?_
        refine lv_aload_n hx hb dL_law_235 rfl (lv_at hl 0 rfl) ?_
        refine lv_iload_n hx hb dL_law_236 rfl (lv_at hl 3 rfl) ?_
        refine n_iconst 1 hx hb dL_law_237 ?_
        refine n_iadd hx hb dL_law_238 ?_
        refine va_sld hx hb hX hbl hbA hS (vp_in_nI (by omega) (by omega)) dL_law_239 ?_
        refine n_eq (y := xs (i + 1)) (by rw [k_toNat (by omega)]) ?_
        refine lv_aload_n hx hb dL_law_240 rfl (lv_at hl 0 rfl) ?_
        refine lv_iload_n hx hb dL_law_241 rfl (lv_at hl 3 rfl) ?_
        refine n_iconst 2 hx hb dL_law_242 ?_
        refine n_iadd hx hb dL_law_243 ?_
        refine va_sld hx hb hX hbl hbA hS (vp_in_nI (by omega) (by omega)) dL_law_244 ?_
        refine n_eq (y := xs (i + 2)) (by rw [k_toNat (by omega)]) ?_
        refine g_callVWZ (0) (C := RX2) (T := TX2) (N := 7) (ci := 1) (As := [.int (xs (i + 1)), .int (xs (i + 2))]) (rest := []) (c_X2_field l hI hWt hMt hV.1) (cwV 2 hts gL_law_X2_field rfl rfl rfl (by decide +kernel) ⟨Nat.le_of_ble_eq_true rfl, Nat.le_of_ble_eq_true rfl⟩) hx hb hml hown hts hK hP hZ (pic_D _ hD) hS  (by decide) rfl rfl rfl hl.1 rfl (Nat.le_of_ble_eq_true rfl) (Nat.le_of_ble_eq_true rfl) (Nat.le_of_ble_eq_true rfl) dL_law_245 (fun H locs hP hS => ?_)
        have cc25 : ∀ q9, 25 ≤ q9 → (nC_field S (xs (i + 1)) (xs (i + 2))) q9 = S q9 := c25_field
        refine lv_aload_n hx hb dL_law_248 rfl (lv_at hl 2 rfl) ?_
        refine lv_aload_n hx hb dL_law_249 rfl (lv_at hl 0 rfl) ?_
        refine lv_iload_n hx hb dL_law_250 rfl (lv_at hl 3 rfl) ?_
        refine n_iconst 1 hx hb dL_law_251 ?_
        refine n_iadd hx hb dL_law_252 ?_
        refine va_sld hx hb hX hbl hbA hS (vp_in_nI (by omega) (by omega)) dL_law_253 ?_
        refine n_eq (y := xs (i + 1)) (by rw [k_toNat (by omega)]) ?_
        refine lv_aload_n hx hb dL_law_254 rfl (lv_at hl 0 rfl) ?_
        refine lv_iload_n hx hb dL_law_255 rfl (lv_at hl 3 rfl) ?_
        refine n_iconst 2 hx hb dL_law_256 ?_
        refine n_iadd hx hb dL_law_257 ?_
        refine va_sld hx hb hX hbl hbA hS (vp_in_nI (by omega) (by omega)) dL_law_258 ?_
        refine n_eq (y := xs (i + 2)) (by rw [k_toNat (by omega)]) ?_
        refine g_callVW (25) (C := RX3) (T := TX3) (N := 7) (ci := 2) (As := [.int (xs (i + 1)), .int (xs (i + 2))]) (rest := [.int (sC_world (xs (i + 1)) (xs (i + 2)))]) (c_X3_field l hI (S := nC_field S (xs (i + 1)) (xs (i + 2))) (RF_same hV.RF cc25)) (cwV 2 hts gL_law_X3_field rfl rfl rfl (by decide +kernel) ⟨Nat.le_of_ble_eq_true rfl, Nat.le_of_ble_eq_true rfl⟩) hx hb hml hown hts hK hP (pic_D _ hD) hS  (by decide) rfl rfl rfl hl.1 rfl (Nat.le_of_ble_eq_true rfl) (Nat.le_of_ble_eq_true rfl) (Nat.le_of_ble_eq_true rfl) dL_law_259 (fun H locs hP hS => ?_)
        refine lv_icmp_eq (tgt := 1065) hx hb dL_law_262 (by decide) (fun hq9 => ?_) (fun hq9 => absurd (Eq.symm (rfl)) hq9)
        refine n_iinc 3 5 (lv' := [(3, .int (nI (i + 5))), (0, .ref (b)), (1, .ref (ad (0))), (2, .ref (ad (25)))]) hx hb dL_law_1065 hl rfl (by decide) rfl (fun ls hl => ?_)
        refine n_goto 18 hx hb dL_law_1068 (by decide) ?_
        exact ih (i + 5) (by omega) (by omega) _ (st_field hV) _ _ hP hS ls (lv_sub hl [1, 2, 3, 0] rfl)
      · subst e9
        refine lv_tableIn (off := 235) (tgt := 267) hx hb dL_law_32 (by decide) (by decide) (by decide) (by decide) ?_
        refine lv_aload_n hx hb dL_law_267 rfl (lv_at hl 1 rfl) ?_
        refine lv_aload_n hx hb dL_law_268 rfl (lv_at hl 0 rfl) ?_
        refine lv_iload_n hx hb dL_law_269 rfl (lv_at hl 3 rfl) ?_
        refine n_iconst 1 hx hb dL_law_270 ?_
        refine n_iadd hx hb dL_law_271 ?_
        refine va_sld hx hb hX hbl hbA hS (vp_in_nI (by omega) (by omega)) dL_law_272 ?_
        refine n_eq (y := xs (i + 1)) (by rw [k_toNat (by omega)]) ?_
        refine lv_aload_n hx hb dL_law_273 rfl (lv_at hl 0 rfl) ?_
        refine lv_iload_n hx hb dL_law_274 rfl (lv_at hl 3 rfl) ?_
        refine n_iconst 2 hx hb dL_law_275 ?_
        refine n_iadd hx hb dL_law_276 ?_
        refine va_sld hx hb hX hbl hbA hS (vp_in_nI (by omega) (by omega)) dL_law_277 ?_
        refine n_eq (y := xs (i + 2)) (by rw [k_toNat (by omega)]) ?_
        refine lv_aload_n hx hb dL_law_278 rfl (lv_at hl 0 rfl) ?_
        refine lv_iload_n hx hb dL_law_279 rfl (lv_at hl 3 rfl) ?_
        refine n_iconst 3 hx hb dL_law_280 ?_
        refine n_iadd hx hb dL_law_281 ?_
        refine va_sld hx hb hX hbl hbA hS (vp_in_nI (by omega) (by omega)) dL_law_282 ?_
        refine n_eq (y := xs (i + 3)) (by rw [k_toNat (by omega)]) ?_
        refine g_callV (0) (C := RX2) (T := TX2) (N := 7) (ci := 1) (As := [.int (xs (i + 1)), .int (xs (i + 2)), .int (xs (i + 3))]) (rest := []) (c_X2_product l hI hWt hMt hV.1) (cwV 3 hts gL_law_X2_product rfl rfl rfl (by decide +kernel) ⟨Nat.le_of_ble_eq_true rfl, Nat.le_of_ble_eq_true rfl⟩) hx hb hml hown hts hK hP  (by decide) rfl rfl rfl hl.1 rfl (Nat.le_of_ble_eq_true rfl) (Nat.le_of_ble_eq_true rfl) (Nat.le_of_ble_eq_true rfl) dL_law_283 ?_
        refine lv_aload_n hx hb dL_law_286 rfl (lv_at hl 2 rfl) ?_
        refine lv_aload_n hx hb dL_law_287 rfl (lv_at hl 0 rfl) ?_
        refine lv_iload_n hx hb dL_law_288 rfl (lv_at hl 3 rfl) ?_
        refine n_iconst 1 hx hb dL_law_289 ?_
        refine n_iadd hx hb dL_law_290 ?_
        refine va_sld hx hb hX hbl hbA hS (vp_in_nI (by omega) (by omega)) dL_law_291 ?_
        refine n_eq (y := xs (i + 1)) (by rw [k_toNat (by omega)]) ?_
        refine lv_aload_n hx hb dL_law_292 rfl (lv_at hl 0 rfl) ?_
        refine lv_iload_n hx hb dL_law_293 rfl (lv_at hl 3 rfl) ?_
        refine n_iconst 2 hx hb dL_law_294 ?_
        refine n_iadd hx hb dL_law_295 ?_
        refine va_sld hx hb hX hbl hbA hS (vp_in_nI (by omega) (by omega)) dL_law_296 ?_
        refine n_eq (y := xs (i + 2)) (by rw [k_toNat (by omega)]) ?_
        refine lv_aload_n hx hb dL_law_297 rfl (lv_at hl 0 rfl) ?_
        refine lv_iload_n hx hb dL_law_298 rfl (lv_at hl 3 rfl) ?_
        refine n_iconst 3 hx hb dL_law_299 ?_
        refine n_iadd hx hb dL_law_300 ?_
        refine va_sld hx hb hX hbl hbA hS (vp_in_nI (by omega) (by omega)) dL_law_301 ?_
        refine n_eq (y := xs (i + 3)) (by rw [k_toNat (by omega)]) ?_
        refine g_callV (25) (C := RX3) (T := TX3) (N := 7) (ci := 2) (As := [.int (xs (i + 1)), .int (xs (i + 2)), .int (xs (i + 3))]) (rest := [.int (sC_product (cN S) (cC S) (xs (i + 1)) (xs (i + 2)) (xs (i + 3)))]) (c_X3_product l hI (S := S) hV.RF) (cwV 3 hts gL_law_X3_product rfl rfl rfl (by decide +kernel) ⟨Nat.le_of_ble_eq_true rfl, Nat.le_of_ble_eq_true rfl⟩) hx hb hml hown hts hK hP  (by decide) rfl rfl rfl hl.1 rfl (Nat.le_of_ble_eq_true rfl) (Nat.le_of_ble_eq_true rfl) (Nat.le_of_ble_eq_true rfl) dL_law_302 ?_
        refine lv_icmp_eq (tgt := 1065) hx hb dL_law_305 (by decide) (fun hq9 => ?_) (fun hq9 => absurd (Eq.symm (e_product hV)) hq9)
        refine n_iinc 3 5 (lv' := [(3, .int (nI (i + 5))), (0, .ref (b)), (1, .ref (ad (0))), (2, .ref (ad (25)))]) hx hb dL_law_1065 hl rfl (by decide) rfl (fun ls hl => ?_)
        refine n_goto 18 hx hb dL_law_1068 (by decide) ?_
        exact ih (i + 5) (by omega) (by omega) _ hV _ _ hP hS ls (lv_sub hl [1, 2, 3, 0] rfl)
      · subst e9
        refine lv_tableIn (off := 278) (tgt := 310) hx hb dL_law_32 (by decide) (by decide) (by decide) (by decide) ?_
        refine lv_aload_n hx hb dL_law_310 rfl (lv_at hl 1 rfl) ?_
        refine lv_aload_n hx hb dL_law_311 rfl (lv_at hl 0 rfl) ?_
        refine lv_iload_n hx hb dL_law_312 rfl (lv_at hl 3 rfl) ?_
        refine n_iconst 1 hx hb dL_law_313 ?_
        refine n_iadd hx hb dL_law_314 ?_
        refine va_sld hx hb hX hbl hbA hS (vp_in_nI (by omega) (by omega)) dL_law_315 ?_
        refine n_eq (y := xs (i + 1)) (by rw [k_toNat (by omega)]) ?_
        refine g_callV (0) (C := RX2) (T := TX2) (N := 7) (ci := 1) (As := [.int (xs (i + 1))]) (rest := []) (c_X2_divides l hI hWt hMt hV.1) (cwV 1 hts gL_law_X2_divides rfl rfl rfl (by decide +kernel) ⟨Nat.le_of_ble_eq_true rfl, Nat.le_of_ble_eq_true rfl⟩) hx hb hml hown hts hK hP  (by decide) rfl rfl rfl hl.1 rfl (Nat.le_of_ble_eq_true rfl) (Nat.le_of_ble_eq_true rfl) (Nat.le_of_ble_eq_true rfl) dL_law_316 ?_
        refine lv_aload_n hx hb dL_law_319 rfl (lv_at hl 2 rfl) ?_
        refine lv_aload_n hx hb dL_law_320 rfl (lv_at hl 0 rfl) ?_
        refine lv_iload_n hx hb dL_law_321 rfl (lv_at hl 3 rfl) ?_
        refine n_iconst 1 hx hb dL_law_322 ?_
        refine n_iadd hx hb dL_law_323 ?_
        refine va_sld hx hb hX hbl hbA hS (vp_in_nI (by omega) (by omega)) dL_law_324 ?_
        refine n_eq (y := xs (i + 1)) (by rw [k_toNat (by omega)]) ?_
        refine g_callV (25) (C := RX3) (T := TX3) (N := 7) (ci := 2) (As := [.int (xs (i + 1))]) (rest := [.int (sC_divides (cN S) (cC S) (xs (i + 1)))]) (c_X3_divides l hI (S := S) hV.RF) (cwV 1 hts gL_law_X3_divides rfl rfl rfl (by decide +kernel) ⟨Nat.le_of_ble_eq_true rfl, Nat.le_of_ble_eq_true rfl⟩) hx hb hml hown hts hK hP  (by decide) rfl rfl rfl hl.1 rfl (Nat.le_of_ble_eq_true rfl) (Nat.le_of_ble_eq_true rfl) (Nat.le_of_ble_eq_true rfl) dL_law_325 ?_
        refine lv_icmp_eq (tgt := 1065) hx hb dL_law_328 (by decide) (fun hq9 => ?_) (fun hq9 => absurd (Eq.symm (e_divides hV)) hq9)
        refine n_iinc 3 5 (lv' := [(3, .int (nI (i + 5))), (0, .ref (b)), (1, .ref (ad (0))), (2, .ref (ad (25)))]) hx hb dL_law_1065 hl rfl (by decide) rfl (fun ls hl => ?_)
        refine n_goto 18 hx hb dL_law_1068 (by decide) ?_
        exact ih (i + 5) (by omega) (by omega) _ hV _ _ hP hS ls (lv_sub hl [1, 2, 3, 0] rfl)
      · subst e9
        refine lv_tableIn (off := 301) (tgt := 333) hx hb dL_law_32 (by decide) (by decide) (by decide) (by decide) ?_
        refine lv_aload_n hx hb dL_law_333 rfl (lv_at hl 1 rfl) ?_
        refine lv_aload_n hx hb dL_law_334 rfl (lv_at hl 0 rfl) ?_
        refine lv_iload_n hx hb dL_law_335 rfl (lv_at hl 3 rfl) ?_
        refine n_iconst 1 hx hb dL_law_336 ?_
        refine n_iadd hx hb dL_law_337 ?_
        refine va_sld hx hb hX hbl hbA hS (vp_in_nI (by omega) (by omega)) dL_law_338 ?_
        refine n_eq (y := xs (i + 1)) (by rw [k_toNat (by omega)]) ?_
        refine lv_aload_n hx hb dL_law_339 rfl (lv_at hl 0 rfl) ?_
        refine lv_iload_n hx hb dL_law_340 rfl (lv_at hl 3 rfl) ?_
        refine n_iconst 2 hx hb dL_law_341 ?_
        refine n_iadd hx hb dL_law_342 ?_
        refine va_sld hx hb hX hbl hbA hS (vp_in_nI (by omega) (by omega)) dL_law_343 ?_
        refine n_eq (y := xs (i + 2)) (by rw [k_toNat (by omega)]) ?_
        refine lv_if_eq (tgt := 351) hx hb dL_law_344 (by decide) (fun hz344 => ?_) (fun hz344 => ?_)
        · refine n_iconst 0 hx hb dL_law_351 ?_
          refine n_eq (show nI 0 = bI false from rfl) ?_
          refine g_callV (0) (C := RX2) (T := TX2) (N := 7) (ci := 1) (As := [.int (xs (i + 1)), .int (bI (false))]) (rest := []) (c_X2_broken l hI hWt hMt hV.1) (cwV 2 hts gL_law_X2_broken rfl rfl rfl (by decide +kernel) ⟨Nat.le_of_ble_eq_true rfl, Nat.le_of_ble_eq_true rfl⟩) hx hb hml hown hts hK hP  (by decide) rfl rfl rfl hl.1 rfl (Nat.le_of_ble_eq_true rfl) (Nat.le_of_ble_eq_true rfl) (Nat.le_of_ble_eq_true rfl) dL_law_352 ?_
          refine lv_aload_n hx hb dL_law_355 rfl (lv_at hl 2 rfl) ?_
          refine lv_aload_n hx hb dL_law_356 rfl (lv_at hl 0 rfl) ?_
          refine lv_iload_n hx hb dL_law_357 rfl (lv_at hl 3 rfl) ?_
          refine n_iconst 1 hx hb dL_law_358 ?_
          refine n_iadd hx hb dL_law_359 ?_
          refine va_sld hx hb hX hbl hbA hS (vp_in_nI (by omega) (by omega)) dL_law_360 ?_
          refine n_eq (y := xs (i + 1)) (by rw [k_toNat (by omega)]) ?_
          refine lv_aload_n hx hb dL_law_361 rfl (lv_at hl 0 rfl) ?_
          refine lv_iload_n hx hb dL_law_362 rfl (lv_at hl 3 rfl) ?_
          refine n_iconst 2 hx hb dL_law_363 ?_
          refine n_iadd hx hb dL_law_364 ?_
          refine va_sld hx hb hX hbl hbA hS (vp_in_nI (by omega) (by omega)) dL_law_365 ?_
          refine n_eq (y := xs (i + 2)) (by rw [k_toNat (by omega)]) ?_
          refine lv_if_eq (tgt := 373) hx hb dL_law_366 (by decide) (fun hz366 => ?_) (fun hz366 => ?_)
          · refine n_iconst 0 hx hb dL_law_373 ?_
            refine n_eq (show nI 0 = bI false from rfl) ?_
            refine g_callV (25) (C := RX3) (T := TX3) (N := 7) (ci := 2) (As := [.int (xs (i + 1)), .int (bI (false))]) (rest := [.int (sC_broken (cN S) (cC S) (xs (i + 1)) false)]) (c_X3_broken l hI (S := S) hV.RF) (cwV 2 hts gL_law_X3_broken rfl rfl rfl (by decide +kernel) ⟨Nat.le_of_ble_eq_true rfl, Nat.le_of_ble_eq_true rfl⟩) hx hb hml hown hts hK hP  (by decide) rfl rfl rfl hl.1 rfl (Nat.le_of_ble_eq_true rfl) (Nat.le_of_ble_eq_true rfl) (Nat.le_of_ble_eq_true rfl) dL_law_374 ?_
            refine lv_icmp_eq (tgt := 1065) hx hb dL_law_377 (by decide) (fun hq9 => ?_) (fun hq9 => absurd (Eq.symm (e_broken hV)) hq9)
            refine n_iinc 3 5 (lv' := [(3, .int (nI (i + 5))), (0, .ref (b)), (1, .ref (ad (0))), (2, .ref (ad (25)))]) hx hb dL_law_1065 hl rfl (by decide) rfl (fun ls hl => ?_)
            refine n_goto 18 hx hb dL_law_1068 (by decide) ?_
            exact ih (i + 5) (by omega) (by omega) _ hV _ _ hP hS ls (lv_sub hl [1, 2, 3, 0] rfl)
          · exact absurd hz344 hz366
        · refine n_iconst 1 hx hb dL_law_347 ?_
          refine n_eq (show nI 1 = bI true from rfl) ?_
          refine n_goto 352 hx hb dL_law_348 (by decide) ?_
          refine g_callV (0) (C := RX2) (T := TX2) (N := 7) (ci := 1) (As := [.int (xs (i + 1)), .int (bI (true))]) (rest := []) (c_X2_broken l hI hWt hMt hV.1) (cwV 2 hts gL_law_X2_broken rfl rfl rfl (by decide +kernel) ⟨Nat.le_of_ble_eq_true rfl, Nat.le_of_ble_eq_true rfl⟩) hx hb hml hown hts hK hP  (by decide) rfl rfl rfl hl.1 rfl (Nat.le_of_ble_eq_true rfl) (Nat.le_of_ble_eq_true rfl) (Nat.le_of_ble_eq_true rfl) dL_law_352 ?_
          refine lv_aload_n hx hb dL_law_355 rfl (lv_at hl 2 rfl) ?_
          refine lv_aload_n hx hb dL_law_356 rfl (lv_at hl 0 rfl) ?_
          refine lv_iload_n hx hb dL_law_357 rfl (lv_at hl 3 rfl) ?_
          refine n_iconst 1 hx hb dL_law_358 ?_
          refine n_iadd hx hb dL_law_359 ?_
          refine va_sld hx hb hX hbl hbA hS (vp_in_nI (by omega) (by omega)) dL_law_360 ?_
          refine n_eq (y := xs (i + 1)) (by rw [k_toNat (by omega)]) ?_
          refine lv_aload_n hx hb dL_law_361 rfl (lv_at hl 0 rfl) ?_
          refine lv_iload_n hx hb dL_law_362 rfl (lv_at hl 3 rfl) ?_
          refine n_iconst 2 hx hb dL_law_363 ?_
          refine n_iadd hx hb dL_law_364 ?_
          refine va_sld hx hb hX hbl hbA hS (vp_in_nI (by omega) (by omega)) dL_law_365 ?_
          refine n_eq (y := xs (i + 2)) (by rw [k_toNat (by omega)]) ?_
          refine lv_if_eq (tgt := 373) hx hb dL_law_366 (by decide) (fun hz366 => ?_) (fun hz366 => ?_)
          · exact absurd hz366 hz344
          · refine n_iconst 1 hx hb dL_law_369 ?_
            refine n_eq (show nI 1 = bI true from rfl) ?_
            refine n_goto 374 hx hb dL_law_370 (by decide) ?_
            refine g_callV (25) (C := RX3) (T := TX3) (N := 7) (ci := 2) (As := [.int (xs (i + 1)), .int (bI (true))]) (rest := [.int (sC_broken (cN S) (cC S) (xs (i + 1)) true)]) (c_X3_broken l hI (S := S) hV.RF) (cwV 2 hts gL_law_X3_broken rfl rfl rfl (by decide +kernel) ⟨Nat.le_of_ble_eq_true rfl, Nat.le_of_ble_eq_true rfl⟩) hx hb hml hown hts hK hP  (by decide) rfl rfl rfl hl.1 rfl (Nat.le_of_ble_eq_true rfl) (Nat.le_of_ble_eq_true rfl) (Nat.le_of_ble_eq_true rfl) dL_law_374 ?_
            refine lv_icmp_eq (tgt := 1065) hx hb dL_law_377 (by decide) (fun hq9 => ?_) (fun hq9 => absurd (Eq.symm (e_broken hV)) hq9)
            refine n_iinc 3 5 (lv' := [(3, .int (nI (i + 5))), (0, .ref (b)), (1, .ref (ad (0))), (2, .ref (ad (25)))]) hx hb dL_law_1065 hl rfl (by decide) rfl (fun ls hl => ?_)
            refine n_goto 18 hx hb dL_law_1068 (by decide) ?_
            exact ih (i + 5) (by omega) (by omega) _ hV _ _ hP hS ls (lv_sub hl [1, 2, 3, 0] rfl)
      · subst e9
        refine lv_tableIn (off := 350) (tgt := 382) hx hb dL_law_32 (by decide) (by decide) (by decide) (by decide) ?_
        refine lv_aload_n hx hb dL_law_382 rfl (lv_at hl 1 rfl) ?_
        refine lv_aload_n hx hb dL_law_383 rfl (lv_at hl 0 rfl) ?_
        refine lv_iload_n hx hb dL_law_384 rfl (lv_at hl 3 rfl) ?_
        refine n_iconst 1 hx hb dL_law_385 ?_
        refine n_iadd hx hb dL_law_386 ?_
        refine va_sld hx hb hX hbl hbA hS (vp_in_nI (by omega) (by omega)) dL_law_387 ?_
        refine n_eq (y := xs (i + 1)) (by rw [k_toNat (by omega)]) ?_
        refine g_callV (0) (C := RX2) (T := TX2) (N := 7) (ci := 1) (As := [.int (xs (i + 1))]) (rest := []) (c_X2_one l hI hWt hMt hV.1) (cwV 1 hts gL_law_X2_one rfl rfl rfl (by decide +kernel) ⟨Nat.le_of_ble_eq_true rfl, Nat.le_of_ble_eq_true rfl⟩) hx hb hml hown hts hK hP  (by decide) rfl rfl rfl hl.1 rfl (Nat.le_of_ble_eq_true rfl) (Nat.le_of_ble_eq_true rfl) (Nat.le_of_ble_eq_true rfl) dL_law_388 ?_
        refine lv_aload_n hx hb dL_law_391 rfl (lv_at hl 2 rfl) ?_
        refine lv_aload_n hx hb dL_law_392 rfl (lv_at hl 0 rfl) ?_
        refine lv_iload_n hx hb dL_law_393 rfl (lv_at hl 3 rfl) ?_
        refine n_iconst 1 hx hb dL_law_394 ?_
        refine n_iadd hx hb dL_law_395 ?_
        refine va_sld hx hb hX hbl hbA hS (vp_in_nI (by omega) (by omega)) dL_law_396 ?_
        refine n_eq (y := xs (i + 1)) (by rw [k_toNat (by omega)]) ?_
        refine g_callV (25) (C := RX3) (T := TX3) (N := 7) (ci := 2) (As := [.int (xs (i + 1))]) (rest := [.int (sC_one (cN S) (cC S) (xs (i + 1)))]) (c_X3_one l hI (S := S) hV.RF) (cwV 1 hts gL_law_X3_one rfl rfl rfl (by decide +kernel) ⟨Nat.le_of_ble_eq_true rfl, Nat.le_of_ble_eq_true rfl⟩) hx hb hml hown hts hK hP  (by decide) rfl rfl rfl hl.1 rfl (Nat.le_of_ble_eq_true rfl) (Nat.le_of_ble_eq_true rfl) (Nat.le_of_ble_eq_true rfl) dL_law_397 ?_
        refine lv_icmp_eq (tgt := 1065) hx hb dL_law_400 (by decide) (fun hq9 => ?_) (fun hq9 => absurd (Eq.symm (e_one hV)) hq9)
        refine n_iinc 3 5 (lv' := [(3, .int (nI (i + 5))), (0, .ref (b)), (1, .ref (ad (0))), (2, .ref (ad (25)))]) hx hb dL_law_1065 hl rfl (by decide) rfl (fun ls hl => ?_)
        refine n_goto 18 hx hb dL_law_1068 (by decide) ?_
        exact ih (i + 5) (by omega) (by omega) _ hV _ _ hP hS ls (lv_sub hl [1, 2, 3, 0] rfl)
      · subst e9
        refine lv_tableIn (off := 373) (tgt := 405) hx hb dL_law_32 (by decide) (by decide) (by decide) (by decide) ?_
        refine lv_aload_n hx hb dL_law_405 rfl (lv_at hl 1 rfl) ?_
        refine lv_aload_n hx hb dL_law_406 rfl (lv_at hl 0 rfl) ?_
        refine lv_iload_n hx hb dL_law_407 rfl (lv_at hl 3 rfl) ?_
        refine n_iconst 1 hx hb dL_law_408 ?_
        refine n_iadd hx hb dL_law_409 ?_
        refine va_sld hx hb hX hbl hbA hS (vp_in_nI (by omega) (by omega)) dL_law_410 ?_
        refine n_eq (y := xs (i + 1)) (by rw [k_toNat (by omega)]) ?_
        refine lv_aload_n hx hb dL_law_411 rfl (lv_at hl 0 rfl) ?_
        refine lv_iload_n hx hb dL_law_412 rfl (lv_at hl 3 rfl) ?_
        refine n_iconst 2 hx hb dL_law_413 ?_
        refine n_iadd hx hb dL_law_414 ?_
        refine va_sld hx hb hX hbl hbA hS (vp_in_nI (by omega) (by omega)) dL_law_415 ?_
        refine n_eq (y := xs (i + 2)) (by rw [k_toNat (by omega)]) ?_
        refine lv_aload_n hx hb dL_law_416 rfl (lv_at hl 0 rfl) ?_
        refine lv_iload_n hx hb dL_law_417 rfl (lv_at hl 3 rfl) ?_
        refine n_iconst 3 hx hb dL_law_418 ?_
        refine n_iadd hx hb dL_law_419 ?_
        refine va_sld hx hb hX hbl hbA hS (vp_in_nI (by omega) (by omega)) dL_law_420 ?_
        refine n_eq (y := xs (i + 3)) (by rw [k_toNat (by omega)]) ?_
        refine lv_aload_n hx hb dL_law_421 rfl (lv_at hl 0 rfl) ?_
        refine lv_iload_n hx hb dL_law_422 rfl (lv_at hl 3 rfl) ?_
        refine n_iconst 4 hx hb dL_law_423 ?_
        refine n_iadd hx hb dL_law_424 ?_
        refine va_sld hx hb hX hbl hbA hS (vp_in_nI (by omega) (by omega)) dL_law_425 ?_
        refine n_eq (y := xs (i + 4)) (by rw [k_toNat (by omega)]) ?_
        refine lv_if_eq (tgt := 433) hx hb dL_law_426 (by decide) (fun hz426 => ?_) (fun hz426 => ?_)
        · refine n_iconst 0 hx hb dL_law_433 ?_
          refine n_eq (show nI 0 = bI false from rfl) ?_
          refine g_callV (0) (C := RX2) (T := TX2) (N := 7) (ci := 1) (As := [.int (xs (i + 1)), .int (xs (i + 2)), .int (xs (i + 3)), .int (bI (false))]) (rest := []) (c_X2_quotient l hI hWt hMt hV.1) (cwV 4 hts gL_law_X2_quotient rfl rfl rfl (by decide +kernel) ⟨Nat.le_of_ble_eq_true rfl, Nat.le_of_ble_eq_true rfl⟩) hx hb hml hown hts hK hP  (by decide) rfl rfl rfl hl.1 rfl (Nat.le_of_ble_eq_true rfl) (Nat.le_of_ble_eq_true rfl) (Nat.le_of_ble_eq_true rfl) dL_law_434 ?_
          refine lv_aload_n hx hb dL_law_437 rfl (lv_at hl 2 rfl) ?_
          refine lv_aload_n hx hb dL_law_438 rfl (lv_at hl 0 rfl) ?_
          refine lv_iload_n hx hb dL_law_439 rfl (lv_at hl 3 rfl) ?_
          refine n_iconst 1 hx hb dL_law_440 ?_
          refine n_iadd hx hb dL_law_441 ?_
          refine va_sld hx hb hX hbl hbA hS (vp_in_nI (by omega) (by omega)) dL_law_442 ?_
          refine n_eq (y := xs (i + 1)) (by rw [k_toNat (by omega)]) ?_
          refine lv_aload_n hx hb dL_law_443 rfl (lv_at hl 0 rfl) ?_
          refine lv_iload_n hx hb dL_law_444 rfl (lv_at hl 3 rfl) ?_
          refine n_iconst 2 hx hb dL_law_445 ?_
          refine n_iadd hx hb dL_law_446 ?_
          refine va_sld hx hb hX hbl hbA hS (vp_in_nI (by omega) (by omega)) dL_law_447 ?_
          refine n_eq (y := xs (i + 2)) (by rw [k_toNat (by omega)]) ?_
          refine lv_aload_n hx hb dL_law_448 rfl (lv_at hl 0 rfl) ?_
          refine lv_iload_n hx hb dL_law_449 rfl (lv_at hl 3 rfl) ?_
          refine n_iconst 3 hx hb dL_law_450 ?_
          refine n_iadd hx hb dL_law_451 ?_
          refine va_sld hx hb hX hbl hbA hS (vp_in_nI (by omega) (by omega)) dL_law_452 ?_
          refine n_eq (y := xs (i + 3)) (by rw [k_toNat (by omega)]) ?_
          refine lv_aload_n hx hb dL_law_453 rfl (lv_at hl 0 rfl) ?_
          refine lv_iload_n hx hb dL_law_454 rfl (lv_at hl 3 rfl) ?_
          refine n_iconst 4 hx hb dL_law_455 ?_
          refine n_iadd hx hb dL_law_456 ?_
          refine va_sld hx hb hX hbl hbA hS (vp_in_nI (by omega) (by omega)) dL_law_457 ?_
          refine n_eq (y := xs (i + 4)) (by rw [k_toNat (by omega)]) ?_
          refine lv_if_eq (tgt := 465) hx hb dL_law_458 (by decide) (fun hz458 => ?_) (fun hz458 => ?_)
          · refine n_iconst 0 hx hb dL_law_465 ?_
            refine n_eq (show nI 0 = bI false from rfl) ?_
            refine g_callV (25) (C := RX3) (T := TX3) (N := 7) (ci := 2) (As := [.int (xs (i + 1)), .int (xs (i + 2)), .int (xs (i + 3)), .int (bI (false))]) (rest := [.int (sC_quotient (cN S) (cC S) (xs (i + 1)) (xs (i + 2)) (xs (i + 3)) false)]) (c_X3_quotient l hI (S := S) hV.RF) (cwV 4 hts gL_law_X3_quotient rfl rfl rfl (by decide +kernel) ⟨Nat.le_of_ble_eq_true rfl, Nat.le_of_ble_eq_true rfl⟩) hx hb hml hown hts hK hP  (by decide) rfl rfl rfl hl.1 rfl (Nat.le_of_ble_eq_true rfl) (Nat.le_of_ble_eq_true rfl) (Nat.le_of_ble_eq_true rfl) dL_law_466 ?_
            refine lv_icmp_eq (tgt := 1065) hx hb dL_law_469 (by decide) (fun hq9 => ?_) (fun hq9 => absurd (Eq.symm (e_quotient hV)) hq9)
            refine n_iinc 3 5 (lv' := [(3, .int (nI (i + 5))), (0, .ref (b)), (1, .ref (ad (0))), (2, .ref (ad (25)))]) hx hb dL_law_1065 hl rfl (by decide) rfl (fun ls hl => ?_)
            refine n_goto 18 hx hb dL_law_1068 (by decide) ?_
            exact ih (i + 5) (by omega) (by omega) _ hV _ _ hP hS ls (lv_sub hl [1, 2, 3, 0] rfl)
          · exact absurd hz426 hz458
        · refine n_iconst 1 hx hb dL_law_429 ?_
          refine n_eq (show nI 1 = bI true from rfl) ?_
          refine n_goto 434 hx hb dL_law_430 (by decide) ?_
          refine g_callV (0) (C := RX2) (T := TX2) (N := 7) (ci := 1) (As := [.int (xs (i + 1)), .int (xs (i + 2)), .int (xs (i + 3)), .int (bI (true))]) (rest := []) (c_X2_quotient l hI hWt hMt hV.1) (cwV 4 hts gL_law_X2_quotient rfl rfl rfl (by decide +kernel) ⟨Nat.le_of_ble_eq_true rfl, Nat.le_of_ble_eq_true rfl⟩) hx hb hml hown hts hK hP  (by decide) rfl rfl rfl hl.1 rfl (Nat.le_of_ble_eq_true rfl) (Nat.le_of_ble_eq_true rfl) (Nat.le_of_ble_eq_true rfl) dL_law_434 ?_
          refine lv_aload_n hx hb dL_law_437 rfl (lv_at hl 2 rfl) ?_
          refine lv_aload_n hx hb dL_law_438 rfl (lv_at hl 0 rfl) ?_
          refine lv_iload_n hx hb dL_law_439 rfl (lv_at hl 3 rfl) ?_
          refine n_iconst 1 hx hb dL_law_440 ?_
          refine n_iadd hx hb dL_law_441 ?_
          refine va_sld hx hb hX hbl hbA hS (vp_in_nI (by omega) (by omega)) dL_law_442 ?_
          refine n_eq (y := xs (i + 1)) (by rw [k_toNat (by omega)]) ?_
          refine lv_aload_n hx hb dL_law_443 rfl (lv_at hl 0 rfl) ?_
          refine lv_iload_n hx hb dL_law_444 rfl (lv_at hl 3 rfl) ?_
          refine n_iconst 2 hx hb dL_law_445 ?_
          refine n_iadd hx hb dL_law_446 ?_
          refine va_sld hx hb hX hbl hbA hS (vp_in_nI (by omega) (by omega)) dL_law_447 ?_
          refine n_eq (y := xs (i + 2)) (by rw [k_toNat (by omega)]) ?_
          refine lv_aload_n hx hb dL_law_448 rfl (lv_at hl 0 rfl) ?_
          refine lv_iload_n hx hb dL_law_449 rfl (lv_at hl 3 rfl) ?_
          refine n_iconst 3 hx hb dL_law_450 ?_
          refine n_iadd hx hb dL_law_451 ?_
          refine va_sld hx hb hX hbl hbA hS (vp_in_nI (by omega) (by omega)) dL_law_452 ?_
          refine n_eq (y := xs (i + 3)) (by rw [k_toNat (by omega)]) ?_
          refine lv_aload_n hx hb dL_law_453 rfl (lv_at hl 0 rfl) ?_
          refine lv_iload_n hx hb dL_law_454 rfl (lv_at hl 3 rfl) ?_
          refine n_iconst 4 hx hb dL_law_455 ?_
          refine n_iadd hx hb dL_law_456 ?_
          refine va_sld hx hb hX hbl hbA hS (vp_in_nI (by omega) (by omega)) dL_law_457 ?_
          refine n_eq (y := xs (i + 4)) (by rw [k_toNat (by omega)]) ?_
          refine lv_if_eq (tgt := 465) hx hb dL_law_458 (by decide) (fun hz458 => ?_) (fun hz458 => ?_)
          · exact absurd hz458 hz426
          · refine n_iconst 1 hx hb dL_law_461 ?_
            refine n_eq (show nI 1 = bI true from rfl) ?_
            refine n_goto 466 hx hb dL_law_462 (by decide) ?_
            refine g_callV (25) (C := RX3) (T := TX3) (N := 7) (ci := 2) (As := [.int (xs (i + 1)), .int (xs (i + 2)), .int (xs (i + 3)), .int (bI (true))]) (rest := [.int (sC_quotient (cN S) (cC S) (xs (i + 1)) (xs (i + 2)) (xs (i + 3)) true)]) (c_X3_quotient l hI (S := S) hV.RF) (cwV 4 hts gL_law_X3_quotient rfl rfl rfl (by decide +kernel) ⟨Nat.le_of_ble_eq_true rfl, Nat.le_of_ble_eq_true rfl⟩) hx hb hml hown hts hK hP  (by decide) rfl rfl rfl hl.1 rfl (Nat.le_of_ble_eq_true rfl) (Nat.le_of_ble_eq_true rfl) (Nat.le_of_ble_eq_true rfl) dL_law_466 ?_
            refine lv_icmp_eq (tgt := 1065) hx hb dL_law_469 (by decide) (fun hq9 => ?_) (fun hq9 => absurd (Eq.symm (e_quotient hV)) hq9)
            refine n_iinc 3 5 (lv' := [(3, .int (nI (i + 5))), (0, .ref (b)), (1, .ref (ad (0))), (2, .ref (ad (25)))]) hx hb dL_law_1065 hl rfl (by decide) rfl (fun ls hl => ?_)
            refine n_goto 18 hx hb dL_law_1068 (by decide) ?_
            exact ih (i + 5) (by omega) (by omega) _ hV _ _ hP hS ls (lv_sub hl [1, 2, 3, 0] rfl)
      · subst e9
        refine lv_tableIn (off := 442) (tgt := 474) hx hb dL_law_32 (by decide) (by decide) (by decide) (by decide) ?_
        refine lv_aload_n hx hb dL_law_474 rfl (lv_at hl 1 rfl) ?_
        refine lv_aload_n hx hb dL_law_475 rfl (lv_at hl 0 rfl) ?_
        refine lv_iload_n hx hb dL_law_476 rfl (lv_at hl 3 rfl) ?_
        refine n_iconst 1 hx hb dL_law_477 ?_
        refine n_iadd hx hb dL_law_478 ?_
        refine va_sld hx hb hX hbl hbA hS (vp_in_nI (by omega) (by omega)) dL_law_479 ?_
        refine n_eq (y := xs (i + 1)) (by rw [k_toNat (by omega)]) ?_
        refine lv_aload_n hx hb dL_law_480 rfl (lv_at hl 0 rfl) ?_
        refine lv_iload_n hx hb dL_law_481 rfl (lv_at hl 3 rfl) ?_
        refine n_iconst 2 hx hb dL_law_482 ?_
        refine n_iadd hx hb dL_law_483 ?_
        refine va_sld hx hb hX hbl hbA hS (vp_in_nI (by omega) (by omega)) dL_law_484 ?_
        refine n_eq (y := xs (i + 2)) (by rw [k_toNat (by omega)]) ?_
        refine lv_aload_n hx hb dL_law_485 rfl (lv_at hl 0 rfl) ?_
        refine lv_iload_n hx hb dL_law_486 rfl (lv_at hl 3 rfl) ?_
        refine n_iconst 3 hx hb dL_law_487 ?_
        refine n_iadd hx hb dL_law_488 ?_
        refine va_sld hx hb hX hbl hbA hS (vp_in_nI (by omega) (by omega)) dL_law_489 ?_
        refine n_eq (y := xs (i + 3)) (by rw [k_toNat (by omega)]) ?_
        refine g_callVW (0) (C := RX2) (T := TX2) (N := 7) (ci := 1) (As := [.int (xs (i + 1)), .int (xs (i + 2)), .int (xs (i + 3))]) (rest := []) (c_X2_turn l hI hWt hMt hV.1) (cwV 3 hts gL_law_X2_turn rfl rfl rfl (by decide +kernel) ⟨Nat.le_of_ble_eq_true rfl, Nat.le_of_ble_eq_true rfl⟩) hx hb hml hown hts hK hP (pic_D _ hD) hS  (by decide) rfl rfl rfl hl.1 rfl (Nat.le_of_ble_eq_true rfl) (Nat.le_of_ble_eq_true rfl) (Nat.le_of_ble_eq_true rfl) dL_law_490 (fun H locs hP hS => ?_)
        have cc25 : ∀ q9, 25 ≤ q9 → (nC_turn S (xs (i + 1)) (xs (i + 2)) (xs (i + 3))) q9 = S q9 := c25_turn
        refine lv_aload_n hx hb dL_law_493 rfl (lv_at hl 2 rfl) ?_
        refine lv_aload_n hx hb dL_law_494 rfl (lv_at hl 0 rfl) ?_
        refine lv_iload_n hx hb dL_law_495 rfl (lv_at hl 3 rfl) ?_
        refine n_iconst 1 hx hb dL_law_496 ?_
        refine n_iadd hx hb dL_law_497 ?_
        refine va_sld hx hb hX hbl hbA hS (vp_in_nI (by omega) (by omega)) dL_law_498 ?_
        refine n_eq (y := xs (i + 1)) (by rw [k_toNat (by omega)]) ?_
        refine lv_aload_n hx hb dL_law_499 rfl (lv_at hl 0 rfl) ?_
        refine lv_iload_n hx hb dL_law_500 rfl (lv_at hl 3 rfl) ?_
        refine n_iconst 2 hx hb dL_law_501 ?_
        refine n_iadd hx hb dL_law_502 ?_
        refine va_sld hx hb hX hbl hbA hS (vp_in_nI (by omega) (by omega)) dL_law_503 ?_
        refine n_eq (y := xs (i + 2)) (by rw [k_toNat (by omega)]) ?_
        refine lv_aload_n hx hb dL_law_504 rfl (lv_at hl 0 rfl) ?_
        refine lv_iload_n hx hb dL_law_505 rfl (lv_at hl 3 rfl) ?_
        refine n_iconst 3 hx hb dL_law_506 ?_
        refine n_iadd hx hb dL_law_507 ?_
        refine va_sld hx hb hX hbl hbA hS (vp_in_nI (by omega) (by omega)) dL_law_508 ?_
        refine n_eq (y := xs (i + 3)) (by rw [k_toNat (by omega)]) ?_
        refine g_callVW (25) (C := RX3) (T := TX3) (N := 7) (ci := 2) (As := [.int (xs (i + 1)), .int (xs (i + 2)), .int (xs (i + 3))]) (rest := [.int (sC_turn (xs (i + 1)) (xs (i + 2)) (xs (i + 3)))]) (c_X3_turn l hI (S := nC_turn S (xs (i + 1)) (xs (i + 2)) (xs (i + 3))) (RF_same hV.RF cc25)) (cwV 3 hts gL_law_X3_turn rfl rfl rfl (by decide +kernel) ⟨Nat.le_of_ble_eq_true rfl, Nat.le_of_ble_eq_true rfl⟩) hx hb hml hown hts hK hP (pic_D _ hD) hS  (by decide) rfl rfl rfl hl.1 rfl (Nat.le_of_ble_eq_true rfl) (Nat.le_of_ble_eq_true rfl) (Nat.le_of_ble_eq_true rfl) dL_law_509 (fun H locs hP hS => ?_)
        refine lv_icmp_eq (tgt := 1065) hx hb dL_law_512 (by decide) (fun hq9 => ?_) (fun hq9 => absurd (Eq.symm (rfl)) hq9)
        refine n_iinc 3 5 (lv' := [(3, .int (nI (i + 5))), (0, .ref (b)), (1, .ref (ad (0))), (2, .ref (ad (25)))]) hx hb dL_law_1065 hl rfl (by decide) rfl (fun ls hl => ?_)
        refine n_goto 18 hx hb dL_law_1068 (by decide) ?_
        exact ih (i + 5) (by omega) (by omega) _ (st_turn hV) _ _ hP hS ls (lv_sub hl [1, 2, 3, 0] rfl)
      · subst e9
        refine lv_tableIn (off := 485) (tgt := 517) hx hb dL_law_32 (by decide) (by decide) (by decide) (by decide) ?_
        refine lv_aload_n hx hb dL_law_517 rfl (lv_at hl 1 rfl) ?_
        refine lv_aload_n hx hb dL_law_518 rfl (lv_at hl 0 rfl) ?_
        refine lv_iload_n hx hb dL_law_519 rfl (lv_at hl 3 rfl) ?_
        refine n_iconst 1 hx hb dL_law_520 ?_
        refine n_iadd hx hb dL_law_521 ?_
        refine va_sld hx hb hX hbl hbA hS (vp_in_nI (by omega) (by omega)) dL_law_522 ?_
        refine n_eq (y := xs (i + 1)) (by rw [k_toNat (by omega)]) ?_
        refine lv_aload_n hx hb dL_law_523 rfl (lv_at hl 0 rfl) ?_
        refine lv_iload_n hx hb dL_law_524 rfl (lv_at hl 3 rfl) ?_
        refine n_iconst 2 hx hb dL_law_525 ?_
        refine n_iadd hx hb dL_law_526 ?_
        refine va_sld hx hb hX hbl hbA hS (vp_in_nI (by omega) (by omega)) dL_law_527 ?_
        refine n_eq (y := xs (i + 2)) (by rw [k_toNat (by omega)]) ?_
        refine lv_aload_n hx hb dL_law_528 rfl (lv_at hl 0 rfl) ?_
        refine lv_iload_n hx hb dL_law_529 rfl (lv_at hl 3 rfl) ?_
        refine n_iconst 3 hx hb dL_law_530 ?_
        refine n_iadd hx hb dL_law_531 ?_
        refine va_sld hx hb hX hbl hbA hS (vp_in_nI (by omega) (by omega)) dL_law_532 ?_
        refine n_eq (y := xs (i + 3)) (by rw [k_toNat (by omega)]) ?_
        refine g_callV (0) (C := RX2) (T := TX2) (N := 7) (ci := 1) (As := [.int (xs (i + 1)), .int (xs (i + 2)), .int (xs (i + 3))]) (rest := []) (c_X2_joins l hI hWt hMt hV.1) (cwV 3 hts gL_law_X2_joins rfl rfl rfl (by decide +kernel) ⟨Nat.le_of_ble_eq_true rfl, Nat.le_of_ble_eq_true rfl⟩) hx hb hml hown hts hK hP  (by decide) rfl rfl rfl hl.1 rfl (Nat.le_of_ble_eq_true rfl) (Nat.le_of_ble_eq_true rfl) (Nat.le_of_ble_eq_true rfl) dL_law_533 ?_
        refine lv_aload_n hx hb dL_law_536 rfl (lv_at hl 2 rfl) ?_
        refine lv_aload_n hx hb dL_law_537 rfl (lv_at hl 0 rfl) ?_
        refine lv_iload_n hx hb dL_law_538 rfl (lv_at hl 3 rfl) ?_
        refine n_iconst 1 hx hb dL_law_539 ?_
        refine n_iadd hx hb dL_law_540 ?_
        refine va_sld hx hb hX hbl hbA hS (vp_in_nI (by omega) (by omega)) dL_law_541 ?_
        refine n_eq (y := xs (i + 1)) (by rw [k_toNat (by omega)]) ?_
        refine lv_aload_n hx hb dL_law_542 rfl (lv_at hl 0 rfl) ?_
        refine lv_iload_n hx hb dL_law_543 rfl (lv_at hl 3 rfl) ?_
        refine n_iconst 2 hx hb dL_law_544 ?_
        refine n_iadd hx hb dL_law_545 ?_
        refine va_sld hx hb hX hbl hbA hS (vp_in_nI (by omega) (by omega)) dL_law_546 ?_
        refine n_eq (y := xs (i + 2)) (by rw [k_toNat (by omega)]) ?_
        refine lv_aload_n hx hb dL_law_547 rfl (lv_at hl 0 rfl) ?_
        refine lv_iload_n hx hb dL_law_548 rfl (lv_at hl 3 rfl) ?_
        refine n_iconst 3 hx hb dL_law_549 ?_
        refine n_iadd hx hb dL_law_550 ?_
        refine va_sld hx hb hX hbl hbA hS (vp_in_nI (by omega) (by omega)) dL_law_551 ?_
        refine n_eq (y := xs (i + 3)) (by rw [k_toNat (by omega)]) ?_
        refine g_callV (25) (C := RX3) (T := TX3) (N := 7) (ci := 2) (As := [.int (xs (i + 1)), .int (xs (i + 2)), .int (xs (i + 3))]) (rest := [.int (sC_joins (cN S) (cC S) (xs (i + 1)) (xs (i + 2)) (xs (i + 3)))]) (c_X3_joins l hI (S := S) hV.RF) (cwV 3 hts gL_law_X3_joins rfl rfl rfl (by decide +kernel) ⟨Nat.le_of_ble_eq_true rfl, Nat.le_of_ble_eq_true rfl⟩) hx hb hml hown hts hK hP  (by decide) rfl rfl rfl hl.1 rfl (Nat.le_of_ble_eq_true rfl) (Nat.le_of_ble_eq_true rfl) (Nat.le_of_ble_eq_true rfl) dL_law_552 ?_
        refine lv_icmp_eq (tgt := 1065) hx hb dL_law_555 (by decide) (fun hq9 => ?_) (fun hq9 => absurd (Eq.symm (e_joins hV)) hq9)
        refine n_iinc 3 5 (lv' := [(3, .int (nI (i + 5))), (0, .ref (b)), (1, .ref (ad (0))), (2, .ref (ad (25)))]) hx hb dL_law_1065 hl rfl (by decide) rfl (fun ls hl => ?_)
        refine n_goto 18 hx hb dL_law_1068 (by decide) ?_
        exact ih (i + 5) (by omega) (by omega) _ hV _ _ hP hS ls (lv_sub hl [1, 2, 3, 0] rfl)
      · subst e9
        refine lv_tableIn (off := 528) (tgt := 560) hx hb dL_law_32 (by decide) (by decide) (by decide) (by decide) ?_
        refine lv_aload_n hx hb dL_law_560 rfl (lv_at hl 1 rfl) ?_
        refine lv_aload_n hx hb dL_law_561 rfl (lv_at hl 0 rfl) ?_
        refine lv_iload_n hx hb dL_law_562 rfl (lv_at hl 3 rfl) ?_
        refine n_iconst 1 hx hb dL_law_563 ?_
        refine n_iadd hx hb dL_law_564 ?_
        refine va_sld hx hb hX hbl hbA hS (vp_in_nI (by omega) (by omega)) dL_law_565 ?_
        refine n_eq (y := xs (i + 1)) (by rw [k_toNat (by omega)]) ?_
        refine lv_aload_n hx hb dL_law_566 rfl (lv_at hl 0 rfl) ?_
        refine lv_iload_n hx hb dL_law_567 rfl (lv_at hl 3 rfl) ?_
        refine n_iconst 2 hx hb dL_law_568 ?_
        refine n_iadd hx hb dL_law_569 ?_
        refine va_sld hx hb hX hbl hbA hS (vp_in_nI (by omega) (by omega)) dL_law_570 ?_
        refine n_eq (y := xs (i + 2)) (by rw [k_toNat (by omega)]) ?_
        refine g_callV (0) (C := RX2) (T := TX2) (N := 7) (ci := 1) (As := [.int (xs (i + 1)), .int (xs (i + 2))]) (rest := []) (c_X2_many l hI hWt hMt hV.1) (cwV 2 hts gL_law_X2_many rfl rfl rfl (by decide +kernel) ⟨Nat.le_of_ble_eq_true rfl, Nat.le_of_ble_eq_true rfl⟩) hx hb hml hown hts hK hP  (by decide) rfl rfl rfl hl.1 rfl (Nat.le_of_ble_eq_true rfl) (Nat.le_of_ble_eq_true rfl) (Nat.le_of_ble_eq_true rfl) dL_law_571 ?_
        refine lv_aload_n hx hb dL_law_574 rfl (lv_at hl 2 rfl) ?_
        refine lv_aload_n hx hb dL_law_575 rfl (lv_at hl 0 rfl) ?_
        refine lv_iload_n hx hb dL_law_576 rfl (lv_at hl 3 rfl) ?_
        refine n_iconst 1 hx hb dL_law_577 ?_
        refine n_iadd hx hb dL_law_578 ?_
        refine va_sld hx hb hX hbl hbA hS (vp_in_nI (by omega) (by omega)) dL_law_579 ?_
        refine n_eq (y := xs (i + 1)) (by rw [k_toNat (by omega)]) ?_
        refine lv_aload_n hx hb dL_law_580 rfl (lv_at hl 0 rfl) ?_
        refine lv_iload_n hx hb dL_law_581 rfl (lv_at hl 3 rfl) ?_
        refine n_iconst 2 hx hb dL_law_582 ?_
        refine n_iadd hx hb dL_law_583 ?_
        refine va_sld hx hb hX hbl hbA hS (vp_in_nI (by omega) (by omega)) dL_law_584 ?_
        refine n_eq (y := xs (i + 2)) (by rw [k_toNat (by omega)]) ?_
        refine g_callV (25) (C := RX3) (T := TX3) (N := 7) (ci := 2) (As := [.int (xs (i + 1)), .int (xs (i + 2))]) (rest := [.int (sC_many (cN S) (cC S) (xs (i + 1)) (xs (i + 2)))]) (c_X3_many l hI (S := S) hV.RF) (cwV 2 hts gL_law_X3_many rfl rfl rfl (by decide +kernel) ⟨Nat.le_of_ble_eq_true rfl, Nat.le_of_ble_eq_true rfl⟩) hx hb hml hown hts hK hP  (by decide) rfl rfl rfl hl.1 rfl (Nat.le_of_ble_eq_true rfl) (Nat.le_of_ble_eq_true rfl) (Nat.le_of_ble_eq_true rfl) dL_law_585 ?_
        refine lv_icmp_eq (tgt := 1065) hx hb dL_law_588 (by decide) (fun hq9 => ?_) (fun hq9 => absurd (Eq.symm (e_many hV)) hq9)
        refine n_iinc 3 5 (lv' := [(3, .int (nI (i + 5))), (0, .ref (b)), (1, .ref (ad (0))), (2, .ref (ad (25)))]) hx hb dL_law_1065 hl rfl (by decide) rfl (fun ls hl => ?_)
        refine n_goto 18 hx hb dL_law_1068 (by decide) ?_
        exact ih (i + 5) (by omega) (by omega) _ hV _ _ hP hS ls (lv_sub hl [1, 2, 3, 0] rfl)
      · subst e9
        refine lv_tableIn (off := 561) (tgt := 593) hx hb dL_law_32 (by decide) (by decide) (by decide) (by decide) ?_
        refine lv_aload_n hx hb dL_law_593 rfl (lv_at hl 1 rfl) ?_
        refine lv_aload_n hx hb dL_law_594 rfl (lv_at hl 0 rfl) ?_
        refine lv_iload_n hx hb dL_law_595 rfl (lv_at hl 3 rfl) ?_
        refine n_iconst 1 hx hb dL_law_596 ?_
        refine n_iadd hx hb dL_law_597 ?_
        refine va_sld hx hb hX hbl hbA hS (vp_in_nI (by omega) (by omega)) dL_law_598 ?_
        refine n_eq (y := xs (i + 1)) (by rw [k_toNat (by omega)]) ?_
        refine g_callV (0) (C := RX2) (T := TX2) (N := 7) (ci := 1) (As := [.int (xs (i + 1))]) (rest := []) (c_X2_unlike l hI hWt hMt hV.1) (cwV 1 hts gL_law_X2_unlike rfl rfl rfl (by decide +kernel) ⟨Nat.le_of_ble_eq_true rfl, Nat.le_of_ble_eq_true rfl⟩) hx hb hml hown hts hK hP  (by decide) rfl rfl rfl hl.1 rfl (Nat.le_of_ble_eq_true rfl) (Nat.le_of_ble_eq_true rfl) (Nat.le_of_ble_eq_true rfl) dL_law_599 ?_
        refine lv_aload_n hx hb dL_law_602 rfl (lv_at hl 2 rfl) ?_
        refine lv_aload_n hx hb dL_law_603 rfl (lv_at hl 0 rfl) ?_
        refine lv_iload_n hx hb dL_law_604 rfl (lv_at hl 3 rfl) ?_
        refine n_iconst 1 hx hb dL_law_605 ?_
        refine n_iadd hx hb dL_law_606 ?_
        refine va_sld hx hb hX hbl hbA hS (vp_in_nI (by omega) (by omega)) dL_law_607 ?_
        refine n_eq (y := xs (i + 1)) (by rw [k_toNat (by omega)]) ?_
        refine g_callV (25) (C := RX3) (T := TX3) (N := 7) (ci := 2) (As := [.int (xs (i + 1))]) (rest := [.int (sC_unlike (cN S) (cC S) (xs (i + 1)))]) (c_X3_unlike l hI (S := S) hV.RF) (cwV 1 hts gL_law_X3_unlike rfl rfl rfl (by decide +kernel) ⟨Nat.le_of_ble_eq_true rfl, Nat.le_of_ble_eq_true rfl⟩) hx hb hml hown hts hK hP  (by decide) rfl rfl rfl hl.1 rfl (Nat.le_of_ble_eq_true rfl) (Nat.le_of_ble_eq_true rfl) (Nat.le_of_ble_eq_true rfl) dL_law_608 ?_
        refine lv_icmp_eq (tgt := 1065) hx hb dL_law_611 (by decide) (fun hq9 => ?_) (fun hq9 => absurd (Eq.symm (e_unlike hV)) hq9)
        refine n_iinc 3 5 (lv' := [(3, .int (nI (i + 5))), (0, .ref (b)), (1, .ref (ad (0))), (2, .ref (ad (25)))]) hx hb dL_law_1065 hl rfl (by decide) rfl (fun ls hl => ?_)
        refine n_goto 18 hx hb dL_law_1068 (by decide) ?_
        exact ih (i + 5) (by omega) (by omega) _ hV _ _ hP hS ls (lv_sub hl [1, 2, 3, 0] rfl)
      · subst e9
        refine lv_tableIn (off := 584) (tgt := 616) hx hb dL_law_32 (by decide) (by decide) (by decide) (by decide) ?_
        refine lv_aload_n hx hb dL_law_616 rfl (lv_at hl 1 rfl) ?_
        refine lv_aload_n hx hb dL_law_617 rfl (lv_at hl 0 rfl) ?_
        refine lv_iload_n hx hb dL_law_618 rfl (lv_at hl 3 rfl) ?_
        refine n_iconst 1 hx hb dL_law_619 ?_
        refine n_iadd hx hb dL_law_620 ?_
        refine va_sld hx hb hX hbl hbA hS (vp_in_nI (by omega) (by omega)) dL_law_621 ?_
        refine n_eq (y := xs (i + 1)) (by rw [k_toNat (by omega)]) ?_
        refine lv_aload_n hx hb dL_law_622 rfl (lv_at hl 0 rfl) ?_
        refine lv_iload_n hx hb dL_law_623 rfl (lv_at hl 3 rfl) ?_
        refine n_iconst 2 hx hb dL_law_624 ?_
        refine n_iadd hx hb dL_law_625 ?_
        refine va_sld hx hb hX hbl hbA hS (vp_in_nI (by omega) (by omega)) dL_law_626 ?_
        refine n_eq (y := xs (i + 2)) (by rw [k_toNat (by omega)]) ?_
        refine lv_aload_n hx hb dL_law_627 rfl (lv_at hl 0 rfl) ?_
        refine lv_iload_n hx hb dL_law_628 rfl (lv_at hl 3 rfl) ?_
        refine n_iconst 3 hx hb dL_law_629 ?_
        refine n_iadd hx hb dL_law_630 ?_
        refine va_sld hx hb hX hbl hbA hS (vp_in_nI (by omega) (by omega)) dL_law_631 ?_
        refine n_eq (y := xs (i + 3)) (by rw [k_toNat (by omega)]) ?_
        refine g_callVW (0) (C := RX2) (T := TX2) (N := 7) (ci := 1) (As := [.int (xs (i + 1)), .int (xs (i + 2)), .int (xs (i + 3))]) (rest := []) (c_X2_map l hI hWt hMt hV.1) (cwV 3 hts gL_law_X2_map rfl rfl rfl (by decide +kernel) ⟨Nat.le_of_ble_eq_true rfl, Nat.le_of_ble_eq_true rfl⟩) hx hb hml hown hts hK hP (pic_D _ hD) hS  (by decide) rfl rfl rfl hl.1 rfl (Nat.le_of_ble_eq_true rfl) (Nat.le_of_ble_eq_true rfl) (Nat.le_of_ble_eq_true rfl) dL_law_632 (fun H locs hP hS => ?_)
        have cc25 : ∀ q9, 25 ≤ q9 → (nC_map S (xs (i + 1)) (xs (i + 2)) (xs (i + 3))) q9 = S q9 := c25_map
        refine lv_aload_n hx hb dL_law_635 rfl (lv_at hl 2 rfl) ?_
        refine lv_aload_n hx hb dL_law_636 rfl (lv_at hl 0 rfl) ?_
        refine lv_iload_n hx hb dL_law_637 rfl (lv_at hl 3 rfl) ?_
        refine n_iconst 1 hx hb dL_law_638 ?_
        refine n_iadd hx hb dL_law_639 ?_
        refine va_sld hx hb hX hbl hbA hS (vp_in_nI (by omega) (by omega)) dL_law_640 ?_
        refine n_eq (y := xs (i + 1)) (by rw [k_toNat (by omega)]) ?_
        refine lv_aload_n hx hb dL_law_641 rfl (lv_at hl 0 rfl) ?_
        refine lv_iload_n hx hb dL_law_642 rfl (lv_at hl 3 rfl) ?_
        refine n_iconst 2 hx hb dL_law_643 ?_
        refine n_iadd hx hb dL_law_644 ?_
        refine va_sld hx hb hX hbl hbA hS (vp_in_nI (by omega) (by omega)) dL_law_645 ?_
        refine n_eq (y := xs (i + 2)) (by rw [k_toNat (by omega)]) ?_
        refine lv_aload_n hx hb dL_law_646 rfl (lv_at hl 0 rfl) ?_
        refine lv_iload_n hx hb dL_law_647 rfl (lv_at hl 3 rfl) ?_
        refine n_iconst 3 hx hb dL_law_648 ?_
        refine n_iadd hx hb dL_law_649 ?_
        refine va_sld hx hb hX hbl hbA hS (vp_in_nI (by omega) (by omega)) dL_law_650 ?_
        refine n_eq (y := xs (i + 3)) (by rw [k_toNat (by omega)]) ?_
        refine g_callVW (25) (C := RX3) (T := TX3) (N := 7) (ci := 2) (As := [.int (xs (i + 1)), .int (xs (i + 2)), .int (xs (i + 3))]) (rest := [.int (sC_map (cM_ S) (xs (i + 1)) (xs (i + 2)) (xs (i + 3)))]) (c_X3_map l hI (S := nC_map S (xs (i + 1)) (xs (i + 2)) (xs (i + 3))) (RF_same hV.RF cc25)) (cwV 3 hts gL_law_X3_map rfl rfl rfl (by decide +kernel) ⟨Nat.le_of_ble_eq_true rfl, Nat.le_of_ble_eq_true rfl⟩) hx hb hml hown hts hK hP (pic_D _ hD) hS  (by decide) rfl rfl rfl hl.1 rfl (Nat.le_of_ble_eq_true rfl) (Nat.le_of_ble_eq_true rfl) (Nat.le_of_ble_eq_true rfl) dL_law_651 (fun H locs hP hS => ?_)
        refine lv_icmp_eq (tgt := 1065) hx hb dL_law_654 (by decide) (fun hq9 => ?_) (fun hq9 => absurd (Eq.symm (by rw [rM_same cc25]; exact e_map hV)) hq9)
        refine n_iinc 3 5 (lv' := [(3, .int (nI (i + 5))), (0, .ref (b)), (1, .ref (ad (0))), (2, .ref (ad (25)))]) hx hb dL_law_1065 hl rfl (by decide) rfl (fun ls hl => ?_)
        refine n_goto 18 hx hb dL_law_1068 (by decide) ?_
        exact ih (i + 5) (by omega) (by omega) _ (st_map hV) _ _ hP hS ls (lv_sub hl [1, 2, 3, 0] rfl)
      · subst e9
        refine lv_tableIn (off := 627) (tgt := 659) hx hb dL_law_32 (by decide) (by decide) (by decide) (by decide) ?_
        refine lv_aload_n hx hb dL_law_659 rfl (lv_at hl 1 rfl) ?_
        refine lv_aload_n hx hb dL_law_660 rfl (lv_at hl 0 rfl) ?_
        refine lv_iload_n hx hb dL_law_661 rfl (lv_at hl 3 rfl) ?_
        refine n_iconst 1 hx hb dL_law_662 ?_
        refine n_iadd hx hb dL_law_663 ?_
        refine va_sld hx hb hX hbl hbA hS (vp_in_nI (by omega) (by omega)) dL_law_664 ?_
        refine n_eq (y := xs (i + 1)) (by rw [k_toNat (by omega)]) ?_
        refine lv_aload_n hx hb dL_law_665 rfl (lv_at hl 0 rfl) ?_
        refine lv_iload_n hx hb dL_law_666 rfl (lv_at hl 3 rfl) ?_
        refine n_iconst 2 hx hb dL_law_667 ?_
        refine n_iadd hx hb dL_law_668 ?_
        refine va_sld hx hb hX hbl hbA hS (vp_in_nI (by omega) (by omega)) dL_law_669 ?_
        refine n_eq (y := xs (i + 2)) (by rw [k_toNat (by omega)]) ?_
        refine g_callV (0) (C := RX2) (T := TX2) (N := 7) (ci := 1) (As := [.int (xs (i + 1)), .int (xs (i + 2))]) (rest := []) (c_X2_gives l hI hWt hMt hV.1) (cwV 2 hts gL_law_X2_gives rfl rfl rfl (by decide +kernel) ⟨Nat.le_of_ble_eq_true rfl, Nat.le_of_ble_eq_true rfl⟩) hx hb hml hown hts hK hP  (by decide) rfl rfl rfl hl.1 rfl (Nat.le_of_ble_eq_true rfl) (Nat.le_of_ble_eq_true rfl) (Nat.le_of_ble_eq_true rfl) dL_law_670 ?_
        refine lv_aload_n hx hb dL_law_673 rfl (lv_at hl 2 rfl) ?_
        refine lv_aload_n hx hb dL_law_674 rfl (lv_at hl 0 rfl) ?_
        refine lv_iload_n hx hb dL_law_675 rfl (lv_at hl 3 rfl) ?_
        refine n_iconst 1 hx hb dL_law_676 ?_
        refine n_iadd hx hb dL_law_677 ?_
        refine va_sld hx hb hX hbl hbA hS (vp_in_nI (by omega) (by omega)) dL_law_678 ?_
        refine n_eq (y := xs (i + 1)) (by rw [k_toNat (by omega)]) ?_
        refine lv_aload_n hx hb dL_law_679 rfl (lv_at hl 0 rfl) ?_
        refine lv_iload_n hx hb dL_law_680 rfl (lv_at hl 3 rfl) ?_
        refine n_iconst 2 hx hb dL_law_681 ?_
        refine n_iadd hx hb dL_law_682 ?_
        refine va_sld hx hb hX hbl hbA hS (vp_in_nI (by omega) (by omega)) dL_law_683 ?_
        refine n_eq (y := xs (i + 2)) (by rw [k_toNat (by omega)]) ?_
        refine g_callV (25) (C := RX3) (T := TX3) (N := 7) (ci := 2) (As := [.int (xs (i + 1)), .int (xs (i + 2))]) (rest := [.int (sC_gives (cM_ S) (xs (i + 1)) (xs (i + 2)))]) (c_X3_gives l hI (S := S) hV.RF) (cwV 2 hts gL_law_X3_gives rfl rfl rfl (by decide +kernel) ⟨Nat.le_of_ble_eq_true rfl, Nat.le_of_ble_eq_true rfl⟩) hx hb hml hown hts hK hP  (by decide) rfl rfl rfl hl.1 rfl (Nat.le_of_ble_eq_true rfl) (Nat.le_of_ble_eq_true rfl) (Nat.le_of_ble_eq_true rfl) dL_law_684 ?_
        refine lv_icmp_eq (tgt := 1065) hx hb dL_law_687 (by decide) (fun hq9 => ?_) (fun hq9 => absurd (Eq.symm (e_gives hV)) hq9)
        refine n_iinc 3 5 (lv' := [(3, .int (nI (i + 5))), (0, .ref (b)), (1, .ref (ad (0))), (2, .ref (ad (25)))]) hx hb dL_law_1065 hl rfl (by decide) rfl (fun ls hl => ?_)
        refine n_goto 18 hx hb dL_law_1068 (by decide) ?_
        exact ih (i + 5) (by omega) (by omega) _ hV _ _ hP hS ls (lv_sub hl [1, 2, 3, 0] rfl)
      · subst e9
        refine lv_tableIn (off := 660) (tgt := 692) hx hb dL_law_32 (by decide) (by decide) (by decide) (by decide) ?_
        refine lv_aload_n hx hb dL_law_692 rfl (lv_at hl 1 rfl) ?_
        refine lv_aload_n hx hb dL_law_693 rfl (lv_at hl 0 rfl) ?_
        refine lv_iload_n hx hb dL_law_694 rfl (lv_at hl 3 rfl) ?_
        refine n_iconst 1 hx hb dL_law_695 ?_
        refine n_iadd hx hb dL_law_696 ?_
        refine va_sld hx hb hX hbl hbA hS (vp_in_nI (by omega) (by omega)) dL_law_697 ?_
        refine n_eq (y := xs (i + 1)) (by rw [k_toNat (by omega)]) ?_
        refine lv_aload_n hx hb dL_law_698 rfl (lv_at hl 0 rfl) ?_
        refine lv_iload_n hx hb dL_law_699 rfl (lv_at hl 3 rfl) ?_
        refine n_iconst 2 hx hb dL_law_700 ?_
        refine n_iadd hx hb dL_law_701 ?_
        refine va_sld hx hb hX hbl hbA hS (vp_in_nI (by omega) (by omega)) dL_law_702 ?_
        refine n_eq (y := xs (i + 2)) (by rw [k_toNat (by omega)]) ?_
        refine g_callV (0) (C := RX2) (T := TX2) (N := 7) (ci := 1) (As := [.int (xs (i + 1)), .int (xs (i + 2))]) (rest := []) (c_X2_fits l hI hWt hMt hV.1) (cwV 2 hts gL_law_X2_fits rfl rfl rfl (by decide +kernel) ⟨Nat.le_of_ble_eq_true rfl, Nat.le_of_ble_eq_true rfl⟩) hx hb hml hown hts hK hP  (by decide) rfl rfl rfl hl.1 rfl (Nat.le_of_ble_eq_true rfl) (Nat.le_of_ble_eq_true rfl) (Nat.le_of_ble_eq_true rfl) dL_law_703 ?_
        refine lv_aload_n hx hb dL_law_706 rfl (lv_at hl 2 rfl) ?_
        refine lv_aload_n hx hb dL_law_707 rfl (lv_at hl 0 rfl) ?_
        refine lv_iload_n hx hb dL_law_708 rfl (lv_at hl 3 rfl) ?_
        refine n_iconst 1 hx hb dL_law_709 ?_
        refine n_iadd hx hb dL_law_710 ?_
        refine va_sld hx hb hX hbl hbA hS (vp_in_nI (by omega) (by omega)) dL_law_711 ?_
        refine n_eq (y := xs (i + 1)) (by rw [k_toNat (by omega)]) ?_
        refine lv_aload_n hx hb dL_law_712 rfl (lv_at hl 0 rfl) ?_
        refine lv_iload_n hx hb dL_law_713 rfl (lv_at hl 3 rfl) ?_
        refine n_iconst 2 hx hb dL_law_714 ?_
        refine n_iadd hx hb dL_law_715 ?_
        refine va_sld hx hb hX hbl hbA hS (vp_in_nI (by omega) (by omega)) dL_law_716 ?_
        refine n_eq (y := xs (i + 2)) (by rw [k_toNat (by omega)]) ?_
        refine g_callV (25) (C := RX3) (T := TX3) (N := 7) (ci := 2) (As := [.int (xs (i + 1)), .int (xs (i + 2))]) (rest := [.int (sC_fits (cM_ S) (xs (i + 1)) (xs (i + 2)))]) (c_X3_fits l hI (S := S) hV.RF) (cwV 2 hts gL_law_X3_fits rfl rfl rfl (by decide +kernel) ⟨Nat.le_of_ble_eq_true rfl, Nat.le_of_ble_eq_true rfl⟩) hx hb hml hown hts hK hP  (by decide) rfl rfl rfl hl.1 rfl (Nat.le_of_ble_eq_true rfl) (Nat.le_of_ble_eq_true rfl) (Nat.le_of_ble_eq_true rfl) dL_law_717 ?_
        refine lv_icmp_eq (tgt := 1065) hx hb dL_law_720 (by decide) (fun hq9 => ?_) (fun hq9 => absurd (Eq.symm (e_fits hV)) hq9)
        refine n_iinc 3 5 (lv' := [(3, .int (nI (i + 5))), (0, .ref (b)), (1, .ref (ad (0))), (2, .ref (ad (25)))]) hx hb dL_law_1065 hl rfl (by decide) rfl (fun ls hl => ?_)
        refine n_goto 18 hx hb dL_law_1068 (by decide) ?_
        exact ih (i + 5) (by omega) (by omega) _ hV _ _ hP hS ls (lv_sub hl [1, 2, 3, 0] rfl)
      · subst e9
        refine lv_tableIn (off := 693) (tgt := 725) hx hb dL_law_32 (by decide) (by decide) (by decide) (by decide) ?_
        refine lv_aload_n hx hb dL_law_725 rfl (lv_at hl 1 rfl) ?_
        refine lv_aload_n hx hb dL_law_726 rfl (lv_at hl 0 rfl) ?_
        refine lv_iload_n hx hb dL_law_727 rfl (lv_at hl 3 rfl) ?_
        refine n_iconst 1 hx hb dL_law_728 ?_
        refine n_iadd hx hb dL_law_729 ?_
        refine va_sld hx hb hX hbl hbA hS (vp_in_nI (by omega) (by omega)) dL_law_730 ?_
        refine n_eq (y := xs (i + 1)) (by rw [k_toNat (by omega)]) ?_
        refine lv_aload_n hx hb dL_law_731 rfl (lv_at hl 0 rfl) ?_
        refine lv_iload_n hx hb dL_law_732 rfl (lv_at hl 3 rfl) ?_
        refine n_iconst 2 hx hb dL_law_733 ?_
        refine n_iadd hx hb dL_law_734 ?_
        refine va_sld hx hb hX hbl hbA hS (vp_in_nI (by omega) (by omega)) dL_law_735 ?_
        refine n_eq (y := xs (i + 2)) (by rw [k_toNat (by omega)]) ?_
        refine g_callV (0) (C := RX2) (T := TX2) (N := 7) (ci := 1) (As := [.int (xs (i + 1)), .int (xs (i + 2))]) (rest := []) (c_X2_alike l hI hWt hMt hV.1) (cwV 2 hts gL_law_X2_alike rfl rfl rfl (by decide +kernel) ⟨Nat.le_of_ble_eq_true rfl, Nat.le_of_ble_eq_true rfl⟩) hx hb hml hown hts hK hP  (by decide) rfl rfl rfl hl.1 rfl (Nat.le_of_ble_eq_true rfl) (Nat.le_of_ble_eq_true rfl) (Nat.le_of_ble_eq_true rfl) dL_law_736 ?_
        refine lv_aload_n hx hb dL_law_739 rfl (lv_at hl 2 rfl) ?_
        refine lv_aload_n hx hb dL_law_740 rfl (lv_at hl 0 rfl) ?_
        refine lv_iload_n hx hb dL_law_741 rfl (lv_at hl 3 rfl) ?_
        refine n_iconst 1 hx hb dL_law_742 ?_
        refine n_iadd hx hb dL_law_743 ?_
        refine va_sld hx hb hX hbl hbA hS (vp_in_nI (by omega) (by omega)) dL_law_744 ?_
        refine n_eq (y := xs (i + 1)) (by rw [k_toNat (by omega)]) ?_
        refine lv_aload_n hx hb dL_law_745 rfl (lv_at hl 0 rfl) ?_
        refine lv_iload_n hx hb dL_law_746 rfl (lv_at hl 3 rfl) ?_
        refine n_iconst 2 hx hb dL_law_747 ?_
        refine n_iadd hx hb dL_law_748 ?_
        refine va_sld hx hb hX hbl hbA hS (vp_in_nI (by omega) (by omega)) dL_law_749 ?_
        refine n_eq (y := xs (i + 2)) (by rw [k_toNat (by omega)]) ?_
        refine g_callV (25) (C := RX3) (T := TX3) (N := 7) (ci := 2) (As := [.int (xs (i + 1)), .int (xs (i + 2))]) (rest := [.int (sC_alike (cN S) (cC S) (cM_ S) (xs (i + 1)) (xs (i + 2)))]) (c_X3_alike l hI (S := S) hV.RF) (cwV 2 hts gL_law_X3_alike rfl rfl rfl (by decide +kernel) ⟨Nat.le_of_ble_eq_true rfl, Nat.le_of_ble_eq_true rfl⟩) hx hb hml hown hts hK hP  (by decide) rfl rfl rfl hl.1 rfl (Nat.le_of_ble_eq_true rfl) (Nat.le_of_ble_eq_true rfl) (Nat.le_of_ble_eq_true rfl) dL_law_750 ?_
        refine lv_icmp_eq (tgt := 1065) hx hb dL_law_753 (by decide) (fun hq9 => ?_) (fun hq9 => absurd (Eq.symm (e_alike hV)) hq9)
        refine n_iinc 3 5 (lv' := [(3, .int (nI (i + 5))), (0, .ref (b)), (1, .ref (ad (0))), (2, .ref (ad (25)))]) hx hb dL_law_1065 hl rfl (by decide) rfl (fun ls hl => ?_)
        refine n_goto 18 hx hb dL_law_1068 (by decide) ?_
        exact ih (i + 5) (by omega) (by omega) _ hV _ _ hP hS ls (lv_sub hl [1, 2, 3, 0] rfl)
      · subst e9
        refine lv_tableIn (off := 726) (tgt := 758) hx hb dL_law_32 (by decide) (by decide) (by decide) (by decide) ?_
        refine lv_aload_n hx hb dL_law_758 rfl (lv_at hl 1 rfl) ?_
        refine lv_aload_n hx hb dL_law_759 rfl (lv_at hl 0 rfl) ?_
        refine lv_iload_n hx hb dL_law_760 rfl (lv_at hl 3 rfl) ?_
        refine n_iconst 1 hx hb dL_law_761 ?_
        refine n_iadd hx hb dL_law_762 ?_
        refine va_sld hx hb hX hbl hbA hS (vp_in_nI (by omega) (by omega)) dL_law_763 ?_
        refine n_eq (y := xs (i + 1)) (by rw [k_toNat (by omega)]) ?_
        refine lv_aload_n hx hb dL_law_764 rfl (lv_at hl 0 rfl) ?_
        refine lv_iload_n hx hb dL_law_765 rfl (lv_at hl 3 rfl) ?_
        refine n_iconst 2 hx hb dL_law_766 ?_
        refine n_iadd hx hb dL_law_767 ?_
        refine va_sld hx hb hX hbl hbA hS (vp_in_nI (by omega) (by omega)) dL_law_768 ?_
        refine n_eq (y := xs (i + 2)) (by rw [k_toNat (by omega)]) ?_
        refine g_callVW (0) (C := RX2) (T := TX2) (N := 7) (ci := 1) (As := [.int (xs (i + 1)), .int (xs (i + 2))]) (rest := []) (c_X2_carry l hI hWt hMt hV.1) (cwV 2 hts gL_law_X2_carry rfl rfl rfl (by decide +kernel) ⟨Nat.le_of_ble_eq_true rfl, Nat.le_of_ble_eq_true rfl⟩) hx hb hml hown hts hK hP (pic_D _ hD) hS  (by decide) rfl rfl rfl hl.1 rfl (Nat.le_of_ble_eq_true rfl) (Nat.le_of_ble_eq_true rfl) (Nat.le_of_ble_eq_true rfl) dL_law_769 (fun H locs hP hS => ?_)
        have cc25 : ∀ q9, 25 ≤ q9 → (nC_carry S (xs (i + 1)) (xs (i + 2))) q9 = S q9 := c25_carry
        refine lv_aload_n hx hb dL_law_772 rfl (lv_at hl 2 rfl) ?_
        refine lv_aload_n hx hb dL_law_773 rfl (lv_at hl 0 rfl) ?_
        refine lv_iload_n hx hb dL_law_774 rfl (lv_at hl 3 rfl) ?_
        refine n_iconst 1 hx hb dL_law_775 ?_
        refine n_iadd hx hb dL_law_776 ?_
        refine va_sld hx hb hX hbl hbA hS (vp_in_nI (by omega) (by omega)) dL_law_777 ?_
        refine n_eq (y := xs (i + 1)) (by rw [k_toNat (by omega)]) ?_
        refine lv_aload_n hx hb dL_law_778 rfl (lv_at hl 0 rfl) ?_
        refine lv_iload_n hx hb dL_law_779 rfl (lv_at hl 3 rfl) ?_
        refine n_iconst 2 hx hb dL_law_780 ?_
        refine n_iadd hx hb dL_law_781 ?_
        refine va_sld hx hb hX hbl hbA hS (vp_in_nI (by omega) (by omega)) dL_law_782 ?_
        refine n_eq (y := xs (i + 2)) (by rw [k_toNat (by omega)]) ?_
        refine g_callVW (25) (C := RX3) (T := TX3) (N := 7) (ci := 2) (As := [.int (xs (i + 1)), .int (xs (i + 2))]) (rest := [.int (sC_carry (cN S) (cM_ S) (xs (i + 1)) (xs (i + 2)))]) (c_X3_carry l hI (S := nC_carry S (xs (i + 1)) (xs (i + 2))) (RF_same hV.RF cc25)) (cwV 2 hts gL_law_X3_carry rfl rfl rfl (by decide +kernel) ⟨Nat.le_of_ble_eq_true rfl, Nat.le_of_ble_eq_true rfl⟩) hx hb hml hown hts hK hP (pic_D _ hD) hS  (by decide) rfl rfl rfl hl.1 rfl (Nat.le_of_ble_eq_true rfl) (Nat.le_of_ble_eq_true rfl) (Nat.le_of_ble_eq_true rfl) dL_law_783 (fun H locs hP hS => ?_)
        refine lv_icmp_eq (tgt := 1065) hx hb dL_law_786 (by decide) (fun hq9 => ?_) (fun hq9 => absurd (Eq.symm (by rw [rN_same cc25, rM_same cc25]; exact e_carry hV)) hq9)
        refine n_iinc 3 5 (lv' := [(3, .int (nI (i + 5))), (0, .ref (b)), (1, .ref (ad (0))), (2, .ref (ad (25)))]) hx hb dL_law_1065 hl rfl (by decide) rfl (fun ls hl => ?_)
        refine n_goto 18 hx hb dL_law_1068 (by decide) ?_
        exact ih (i + 5) (by omega) (by omega) _ (st_carry hV) _ _ hP hS ls (lv_sub hl [1, 2, 3, 0] rfl)
      · subst e9
        refine lv_tableIn (off := 759) (tgt := 791) hx hb dL_law_32 (by decide) (by decide) (by decide) (by decide) ?_
        refine lv_aload_n hx hb dL_law_791 rfl (lv_at hl 1 rfl) ?_
        refine lv_aload_n hx hb dL_law_792 rfl (lv_at hl 0 rfl) ?_
        refine lv_iload_n hx hb dL_law_793 rfl (lv_at hl 3 rfl) ?_
        refine n_iconst 1 hx hb dL_law_794 ?_
        refine n_iadd hx hb dL_law_795 ?_
        refine va_sld hx hb hX hbl hbA hS (vp_in_nI (by omega) (by omega)) dL_law_796 ?_
        refine n_eq (y := xs (i + 1)) (by rw [k_toNat (by omega)]) ?_
        refine lv_aload_n hx hb dL_law_797 rfl (lv_at hl 0 rfl) ?_
        refine lv_iload_n hx hb dL_law_798 rfl (lv_at hl 3 rfl) ?_
        refine n_iconst 2 hx hb dL_law_799 ?_
        refine n_iadd hx hb dL_law_800 ?_
        refine va_sld hx hb hX hbl hbA hS (vp_in_nI (by omega) (by omega)) dL_law_801 ?_
        refine n_eq (y := xs (i + 2)) (by rw [k_toNat (by omega)]) ?_
        refine g_callVW (0) (C := RX2) (T := TX2) (N := 7) (ci := 1) (As := [.int (xs (i + 1)), .int (xs (i + 2))]) (rest := []) (c_X2_ways l hI hWt hMt hV.1) (cwV 2 hts gL_law_X2_ways rfl rfl rfl (by decide +kernel) ⟨Nat.le_of_ble_eq_true rfl, Nat.le_of_ble_eq_true rfl⟩) hx hb hml hown hts hK hP (pic_D _ hD) hS  (by decide) rfl rfl rfl hl.1 rfl (Nat.le_of_ble_eq_true rfl) (Nat.le_of_ble_eq_true rfl) (Nat.le_of_ble_eq_true rfl) dL_law_802 (fun H locs hP hS => ?_)
        have cc25 : ∀ q9, 25 ≤ q9 → (nC_ways S (xs (i + 1)) (xs (i + 2))) q9 = S q9 := c25_ways
        refine lv_aload_n hx hb dL_law_805 rfl (lv_at hl 2 rfl) ?_
        refine lv_aload_n hx hb dL_law_806 rfl (lv_at hl 0 rfl) ?_
        refine lv_iload_n hx hb dL_law_807 rfl (lv_at hl 3 rfl) ?_
        refine n_iconst 1 hx hb dL_law_808 ?_
        refine n_iadd hx hb dL_law_809 ?_
        refine va_sld hx hb hX hbl hbA hS (vp_in_nI (by omega) (by omega)) dL_law_810 ?_
        refine n_eq (y := xs (i + 1)) (by rw [k_toNat (by omega)]) ?_
        refine lv_aload_n hx hb dL_law_811 rfl (lv_at hl 0 rfl) ?_
        refine lv_iload_n hx hb dL_law_812 rfl (lv_at hl 3 rfl) ?_
        refine n_iconst 2 hx hb dL_law_813 ?_
        refine n_iadd hx hb dL_law_814 ?_
        refine va_sld hx hb hX hbl hbA hS (vp_in_nI (by omega) (by omega)) dL_law_815 ?_
        refine n_eq (y := xs (i + 2)) (by rw [k_toNat (by omega)]) ?_
        refine g_callVW (25) (C := RX3) (T := TX3) (N := 7) (ci := 2) (As := [.int (xs (i + 1)), .int (xs (i + 2))]) (rest := [.int (sC_ways (cN S) (cC S) (xs (i + 1)) (xs (i + 2)))]) (c_X3_ways l hI (S := nC_ways S (xs (i + 1)) (xs (i + 2))) (RF_same hV.RF cc25)) (cwV 2 hts gL_law_X3_ways rfl rfl rfl (by decide +kernel) ⟨Nat.le_of_ble_eq_true rfl, Nat.le_of_ble_eq_true rfl⟩) hx hb hml hown hts hK hP (pic_D _ hD) hS  (by decide) rfl rfl rfl hl.1 rfl (Nat.le_of_ble_eq_true rfl) (Nat.le_of_ble_eq_true rfl) (Nat.le_of_ble_eq_true rfl) dL_law_816 (fun H locs hP hS => ?_)
        refine lv_icmp_eq (tgt := 1065) hx hb dL_law_819 (by decide) (fun hq9 => ?_) (fun hq9 => absurd (Eq.symm (by rw [rN_same cc25, rC_same cc25]; exact e_ways hV)) hq9)
        refine n_iinc 3 5 (lv' := [(3, .int (nI (i + 5))), (0, .ref (b)), (1, .ref (ad (0))), (2, .ref (ad (25)))]) hx hb dL_law_1065 hl rfl (by decide) rfl (fun ls hl => ?_)
        refine n_goto 18 hx hb dL_law_1068 (by decide) ?_
        exact ih (i + 5) (by omega) (by omega) _ (st_ways hV) _ _ hP hS ls (lv_sub hl [1, 2, 3, 0] rfl)
      · subst e9
        refine lv_tableIn (off := 792) (tgt := 824) hx hb dL_law_32 (by decide) (by decide) (by decide) (by decide) ?_
        refine lv_aload_n hx hb dL_law_824 rfl (lv_at hl 1 rfl) ?_
        refine lv_aload_n hx hb dL_law_825 rfl (lv_at hl 0 rfl) ?_
        refine lv_iload_n hx hb dL_law_826 rfl (lv_at hl 3 rfl) ?_
        refine n_iconst 1 hx hb dL_law_827 ?_
        refine n_iadd hx hb dL_law_828 ?_
        refine va_sld hx hb hX hbl hbA hS (vp_in_nI (by omega) (by omega)) dL_law_829 ?_
        refine n_eq (y := xs (i + 1)) (by rw [k_toNat (by omega)]) ?_
        refine lv_aload_n hx hb dL_law_830 rfl (lv_at hl 0 rfl) ?_
        refine lv_iload_n hx hb dL_law_831 rfl (lv_at hl 3 rfl) ?_
        refine n_iconst 2 hx hb dL_law_832 ?_
        refine n_iadd hx hb dL_law_833 ?_
        refine va_sld hx hb hX hbl hbA hS (vp_in_nI (by omega) (by omega)) dL_law_834 ?_
        refine n_eq (y := xs (i + 2)) (by rw [k_toNat (by omega)]) ?_
        refine lv_aload_n hx hb dL_law_835 rfl (lv_at hl 0 rfl) ?_
        refine lv_iload_n hx hb dL_law_836 rfl (lv_at hl 3 rfl) ?_
        refine n_iconst 3 hx hb dL_law_837 ?_
        refine n_iadd hx hb dL_law_838 ?_
        refine va_sld hx hb hX hbl hbA hS (vp_in_nI (by omega) (by omega)) dL_law_839 ?_
        refine n_eq (y := xs (i + 3)) (by rw [k_toNat (by omega)]) ?_
        refine g_callV (0) (C := RX2) (T := TX2) (N := 7) (ci := 1) (As := [.int (xs (i + 1)), .int (xs (i + 2)), .int (xs (i + 3))]) (rest := []) (c_X2_on l hI hWt hMt hV.1) (cwV 3 hts gL_law_X2_on rfl rfl rfl (by decide +kernel) ⟨Nat.le_of_ble_eq_true rfl, Nat.le_of_ble_eq_true rfl⟩) hx hb hml hown hts hK hP  (by decide) rfl rfl rfl hl.1 rfl (Nat.le_of_ble_eq_true rfl) (Nat.le_of_ble_eq_true rfl) (Nat.le_of_ble_eq_true rfl) dL_law_840 ?_
        refine lv_aload_n hx hb dL_law_843 rfl (lv_at hl 2 rfl) ?_
        refine lv_aload_n hx hb dL_law_844 rfl (lv_at hl 0 rfl) ?_
        refine lv_iload_n hx hb dL_law_845 rfl (lv_at hl 3 rfl) ?_
        refine n_iconst 1 hx hb dL_law_846 ?_
        refine n_iadd hx hb dL_law_847 ?_
        refine va_sld hx hb hX hbl hbA hS (vp_in_nI (by omega) (by omega)) dL_law_848 ?_
        refine n_eq (y := xs (i + 1)) (by rw [k_toNat (by omega)]) ?_
        refine lv_aload_n hx hb dL_law_849 rfl (lv_at hl 0 rfl) ?_
        refine lv_iload_n hx hb dL_law_850 rfl (lv_at hl 3 rfl) ?_
        refine n_iconst 2 hx hb dL_law_851 ?_
        refine n_iadd hx hb dL_law_852 ?_
        refine va_sld hx hb hX hbl hbA hS (vp_in_nI (by omega) (by omega)) dL_law_853 ?_
        refine n_eq (y := xs (i + 2)) (by rw [k_toNat (by omega)]) ?_
        refine lv_aload_n hx hb dL_law_854 rfl (lv_at hl 0 rfl) ?_
        refine lv_iload_n hx hb dL_law_855 rfl (lv_at hl 3 rfl) ?_
        refine n_iconst 3 hx hb dL_law_856 ?_
        refine n_iadd hx hb dL_law_857 ?_
        refine va_sld hx hb hX hbl hbA hS (vp_in_nI (by omega) (by omega)) dL_law_858 ?_
        refine n_eq (y := xs (i + 3)) (by rw [k_toNat (by omega)]) ?_
        refine g_callV (25) (C := RX3) (T := TX3) (N := 7) (ci := 2) (As := [.int (xs (i + 1)), .int (xs (i + 2)), .int (xs (i + 3))]) (rest := [.int (sC_on (cN S) (cC S) (xs (i + 1)) (xs (i + 2)) (xs (i + 3)))]) (c_X3_on l hI (S := S) hV.RF) (cwV 3 hts gL_law_X3_on rfl rfl rfl (by decide +kernel) ⟨Nat.le_of_ble_eq_true rfl, Nat.le_of_ble_eq_true rfl⟩) hx hb hml hown hts hK hP  (by decide) rfl rfl rfl hl.1 rfl (Nat.le_of_ble_eq_true rfl) (Nat.le_of_ble_eq_true rfl) (Nat.le_of_ble_eq_true rfl) dL_law_859 ?_
        refine lv_icmp_eq (tgt := 1065) hx hb dL_law_862 (by decide) (fun hq9 => ?_) (fun hq9 => absurd (Eq.symm (e_on hV)) hq9)
        refine n_iinc 3 5 (lv' := [(3, .int (nI (i + 5))), (0, .ref (b)), (1, .ref (ad (0))), (2, .ref (ad (25)))]) hx hb dL_law_1065 hl rfl (by decide) rfl (fun ls hl => ?_)
        refine n_goto 18 hx hb dL_law_1068 (by decide) ?_
        exact ih (i + 5) (by omega) (by omega) _ hV _ _ hP hS ls (lv_sub hl [1, 2, 3, 0] rfl)
      · subst e9
        refine lv_tableIn (off := 835) (tgt := 867) hx hb dL_law_32 (by decide) (by decide) (by decide) (by decide) ?_
        refine lv_aload_n hx hb dL_law_867 rfl (lv_at hl 1 rfl) ?_
        refine lv_aload_n hx hb dL_law_868 rfl (lv_at hl 0 rfl) ?_
        refine lv_iload_n hx hb dL_law_869 rfl (lv_at hl 3 rfl) ?_
        refine n_iconst 1 hx hb dL_law_870 ?_
        refine n_iadd hx hb dL_law_871 ?_
        refine va_sld hx hb hX hbl hbA hS (vp_in_nI (by omega) (by omega)) dL_law_872 ?_
        refine n_eq (y := xs (i + 1)) (by rw [k_toNat (by omega)]) ?_
        refine lv_aload_n hx hb dL_law_873 rfl (lv_at hl 0 rfl) ?_
        refine lv_iload_n hx hb dL_law_874 rfl (lv_at hl 3 rfl) ?_
        refine n_iconst 2 hx hb dL_law_875 ?_
        refine n_iadd hx hb dL_law_876 ?_
        refine va_sld hx hb hX hbl hbA hS (vp_in_nI (by omega) (by omega)) dL_law_877 ?_
        refine n_eq (y := xs (i + 2)) (by rw [k_toNat (by omega)]) ?_
        refine lv_aload_n hx hb dL_law_878 rfl (lv_at hl 0 rfl) ?_
        refine lv_iload_n hx hb dL_law_879 rfl (lv_at hl 3 rfl) ?_
        refine n_iconst 3 hx hb dL_law_880 ?_
        refine n_iadd hx hb dL_law_881 ?_
        refine va_sld hx hb hX hbl hbA hS (vp_in_nI (by omega) (by omega)) dL_law_882 ?_
        refine n_eq (y := xs (i + 3)) (by rw [k_toNat (by omega)]) ?_
        refine g_callV (0) (C := RX2) (T := TX2) (N := 7) (ci := 1) (As := [.int (xs (i + 1)), .int (xs (i + 2)), .int (xs (i + 3))]) (rest := []) (c_X2_join l hI hWt hMt hV.1) (cwV 3 hts gL_law_X2_join rfl rfl rfl (by decide +kernel) ⟨Nat.le_of_ble_eq_true rfl, Nat.le_of_ble_eq_true rfl⟩) hx hb hml hown hts hK hP  (by decide) rfl rfl rfl hl.1 rfl (Nat.le_of_ble_eq_true rfl) (Nat.le_of_ble_eq_true rfl) (Nat.le_of_ble_eq_true rfl) dL_law_883 ?_
        refine lv_aload_n hx hb dL_law_886 rfl (lv_at hl 2 rfl) ?_
        refine lv_aload_n hx hb dL_law_887 rfl (lv_at hl 0 rfl) ?_
        refine lv_iload_n hx hb dL_law_888 rfl (lv_at hl 3 rfl) ?_
        refine n_iconst 1 hx hb dL_law_889 ?_
        refine n_iadd hx hb dL_law_890 ?_
        refine va_sld hx hb hX hbl hbA hS (vp_in_nI (by omega) (by omega)) dL_law_891 ?_
        refine n_eq (y := xs (i + 1)) (by rw [k_toNat (by omega)]) ?_
        refine lv_aload_n hx hb dL_law_892 rfl (lv_at hl 0 rfl) ?_
        refine lv_iload_n hx hb dL_law_893 rfl (lv_at hl 3 rfl) ?_
        refine n_iconst 2 hx hb dL_law_894 ?_
        refine n_iadd hx hb dL_law_895 ?_
        refine va_sld hx hb hX hbl hbA hS (vp_in_nI (by omega) (by omega)) dL_law_896 ?_
        refine n_eq (y := xs (i + 2)) (by rw [k_toNat (by omega)]) ?_
        refine lv_aload_n hx hb dL_law_897 rfl (lv_at hl 0 rfl) ?_
        refine lv_iload_n hx hb dL_law_898 rfl (lv_at hl 3 rfl) ?_
        refine n_iconst 3 hx hb dL_law_899 ?_
        refine n_iadd hx hb dL_law_900 ?_
        refine va_sld hx hb hX hbl hbA hS (vp_in_nI (by omega) (by omega)) dL_law_901 ?_
        refine n_eq (y := xs (i + 3)) (by rw [k_toNat (by omega)]) ?_
        refine g_callV (25) (C := RX3) (T := TX3) (N := 7) (ci := 2) (As := [.int (xs (i + 1)), .int (xs (i + 2)), .int (xs (i + 3))]) (rest := [.int (sC_join (cN S) (cC S) (xs (i + 1)) (xs (i + 2)) (xs (i + 3)))]) (c_X3_join l hI (S := S) hV.RF) (cwV 3 hts gL_law_X3_join rfl rfl rfl (by decide +kernel) ⟨Nat.le_of_ble_eq_true rfl, Nat.le_of_ble_eq_true rfl⟩) hx hb hml hown hts hK hP  (by decide) rfl rfl rfl hl.1 rfl (Nat.le_of_ble_eq_true rfl) (Nat.le_of_ble_eq_true rfl) (Nat.le_of_ble_eq_true rfl) dL_law_902 ?_
        refine lv_icmp_eq (tgt := 1065) hx hb dL_law_905 (by decide) (fun hq9 => ?_) (fun hq9 => absurd (Eq.symm (e_join hV)) hq9)
        refine n_iinc 3 5 (lv' := [(3, .int (nI (i + 5))), (0, .ref (b)), (1, .ref (ad (0))), (2, .ref (ad (25)))]) hx hb dL_law_1065 hl rfl (by decide) rfl (fun ls hl => ?_)
        refine n_goto 18 hx hb dL_law_1068 (by decide) ?_
        exact ih (i + 5) (by omega) (by omega) _ hV _ _ hP hS ls (lv_sub hl [1, 2, 3, 0] rfl)
      · subst e9
        refine lv_tableIn (off := 878) (tgt := 910) hx hb dL_law_32 (by decide) (by decide) (by decide) (by decide) ?_
        refine lv_aload_n hx hb dL_law_910 rfl (lv_at hl 1 rfl) ?_
        refine lv_aload_n hx hb dL_law_911 rfl (lv_at hl 0 rfl) ?_
        refine lv_iload_n hx hb dL_law_912 rfl (lv_at hl 3 rfl) ?_
        refine n_iconst 1 hx hb dL_law_913 ?_
        refine n_iadd hx hb dL_law_914 ?_
        refine va_sld hx hb hX hbl hbA hS (vp_in_nI (by omega) (by omega)) dL_law_915 ?_
        refine n_eq (y := xs (i + 1)) (by rw [k_toNat (by omega)]) ?_
        refine lv_aload_n hx hb dL_law_916 rfl (lv_at hl 0 rfl) ?_
        refine lv_iload_n hx hb dL_law_917 rfl (lv_at hl 3 rfl) ?_
        refine n_iconst 2 hx hb dL_law_918 ?_
        refine n_iadd hx hb dL_law_919 ?_
        refine va_sld hx hb hX hbl hbA hS (vp_in_nI (by omega) (by omega)) dL_law_920 ?_
        refine n_eq (y := xs (i + 2)) (by rw [k_toNat (by omega)]) ?_
        refine lv_aload_n hx hb dL_law_921 rfl (lv_at hl 0 rfl) ?_
        refine lv_iload_n hx hb dL_law_922 rfl (lv_at hl 3 rfl) ?_
        refine n_iconst 3 hx hb dL_law_923 ?_
        refine n_iadd hx hb dL_law_924 ?_
        refine va_sld hx hb hX hbl hbA hS (vp_in_nI (by omega) (by omega)) dL_law_925 ?_
        refine n_eq (y := xs (i + 3)) (by rw [k_toNat (by omega)]) ?_
        refine g_callV (0) (C := RX2) (T := TX2) (N := 7) (ci := 1) (As := [.int (xs (i + 1)), .int (xs (i + 2)), .int (xs (i + 3))]) (rest := []) (c_X2_meet l hI hWt hMt hV.1) (cwV 3 hts gL_law_X2_meet rfl rfl rfl (by decide +kernel) ⟨Nat.le_of_ble_eq_true rfl, Nat.le_of_ble_eq_true rfl⟩) hx hb hml hown hts hK hP  (by decide) rfl rfl rfl hl.1 rfl (Nat.le_of_ble_eq_true rfl) (Nat.le_of_ble_eq_true rfl) (Nat.le_of_ble_eq_true rfl) dL_law_926 ?_
        refine lv_aload_n hx hb dL_law_929 rfl (lv_at hl 2 rfl) ?_
        refine lv_aload_n hx hb dL_law_930 rfl (lv_at hl 0 rfl) ?_
        refine lv_iload_n hx hb dL_law_931 rfl (lv_at hl 3 rfl) ?_
        refine n_iconst 1 hx hb dL_law_932 ?_
        refine n_iadd hx hb dL_law_933 ?_
        refine va_sld hx hb hX hbl hbA hS (vp_in_nI (by omega) (by omega)) dL_law_934 ?_
        refine n_eq (y := xs (i + 1)) (by rw [k_toNat (by omega)]) ?_
        refine lv_aload_n hx hb dL_law_935 rfl (lv_at hl 0 rfl) ?_
        refine lv_iload_n hx hb dL_law_936 rfl (lv_at hl 3 rfl) ?_
        refine n_iconst 2 hx hb dL_law_937 ?_
        refine n_iadd hx hb dL_law_938 ?_
        refine va_sld hx hb hX hbl hbA hS (vp_in_nI (by omega) (by omega)) dL_law_939 ?_
        refine n_eq (y := xs (i + 2)) (by rw [k_toNat (by omega)]) ?_
        refine lv_aload_n hx hb dL_law_940 rfl (lv_at hl 0 rfl) ?_
        refine lv_iload_n hx hb dL_law_941 rfl (lv_at hl 3 rfl) ?_
        refine n_iconst 3 hx hb dL_law_942 ?_
        refine n_iadd hx hb dL_law_943 ?_
        refine va_sld hx hb hX hbl hbA hS (vp_in_nI (by omega) (by omega)) dL_law_944 ?_
        refine n_eq (y := xs (i + 3)) (by rw [k_toNat (by omega)]) ?_
        refine g_callV (25) (C := RX3) (T := TX3) (N := 7) (ci := 2) (As := [.int (xs (i + 1)), .int (xs (i + 2)), .int (xs (i + 3))]) (rest := [.int (sC_meet (cN S) (cC S) (xs (i + 1)) (xs (i + 2)) (xs (i + 3)))]) (c_X3_meet l hI (S := S) hV.RF) (cwV 3 hts gL_law_X3_meet rfl rfl rfl (by decide +kernel) ⟨Nat.le_of_ble_eq_true rfl, Nat.le_of_ble_eq_true rfl⟩) hx hb hml hown hts hK hP  (by decide) rfl rfl rfl hl.1 rfl (Nat.le_of_ble_eq_true rfl) (Nat.le_of_ble_eq_true rfl) (Nat.le_of_ble_eq_true rfl) dL_law_945 ?_
        refine lv_icmp_eq (tgt := 1065) hx hb dL_law_948 (by decide) (fun hq9 => ?_) (fun hq9 => absurd (Eq.symm (e_meet hV)) hq9)
        refine n_iinc 3 5 (lv' := [(3, .int (nI (i + 5))), (0, .ref (b)), (1, .ref (ad (0))), (2, .ref (ad (25)))]) hx hb dL_law_1065 hl rfl (by decide) rfl (fun ls hl => ?_)
        refine n_goto 18 hx hb dL_law_1068 (by decide) ?_
        exact ih (i + 5) (by omega) (by omega) _ hV _ _ hP hS ls (lv_sub hl [1, 2, 3, 0] rfl)
      · subst e9
        refine lv_tableIn (off := 921) (tgt := 953) hx hb dL_law_32 (by decide) (by decide) (by decide) (by decide) ?_
        refine lv_aload_n hx hb dL_law_953 rfl (lv_at hl 1 rfl) ?_
        refine lv_aload_n hx hb dL_law_954 rfl (lv_at hl 0 rfl) ?_
        refine lv_iload_n hx hb dL_law_955 rfl (lv_at hl 3 rfl) ?_
        refine n_iconst 1 hx hb dL_law_956 ?_
        refine n_iadd hx hb dL_law_957 ?_
        refine va_sld hx hb hX hbl hbA hS (vp_in_nI (by omega) (by omega)) dL_law_958 ?_
        refine n_eq (y := xs (i + 1)) (by rw [k_toNat (by omega)]) ?_
        refine g_callV (0) (C := RX2) (T := TX2) (N := 7) (ci := 1) (As := [.int (xs (i + 1))]) (rest := []) (c_X2_bad l hI hWt hMt hV.1) (cwV 1 hts gL_law_X2_bad rfl rfl rfl (by decide +kernel) ⟨Nat.le_of_ble_eq_true rfl, Nat.le_of_ble_eq_true rfl⟩) hx hb hml hown hts hK hP  (by decide) rfl rfl rfl hl.1 rfl (Nat.le_of_ble_eq_true rfl) (Nat.le_of_ble_eq_true rfl) (Nat.le_of_ble_eq_true rfl) dL_law_959 ?_
        refine lv_aload_n hx hb dL_law_962 rfl (lv_at hl 2 rfl) ?_
        refine lv_aload_n hx hb dL_law_963 rfl (lv_at hl 0 rfl) ?_
        refine lv_iload_n hx hb dL_law_964 rfl (lv_at hl 3 rfl) ?_
        refine n_iconst 1 hx hb dL_law_965 ?_
        refine n_iadd hx hb dL_law_966 ?_
        refine va_sld hx hb hX hbl hbA hS (vp_in_nI (by omega) (by omega)) dL_law_967 ?_
        refine n_eq (y := xs (i + 1)) (by rw [k_toNat (by omega)]) ?_
        refine g_callV (25) (C := RX3) (T := TX3) (N := 7) (ci := 2) (As := [.int (xs (i + 1))]) (rest := [.int (sC_bad (cN S) (cC S) (xs (i + 1)))]) (c_X3_bad l hI (S := S) hV.RF) (cwV 1 hts gL_law_X3_bad rfl rfl rfl (by decide +kernel) ⟨Nat.le_of_ble_eq_true rfl, Nat.le_of_ble_eq_true rfl⟩) hx hb hml hown hts hK hP  (by decide) rfl rfl rfl hl.1 rfl (Nat.le_of_ble_eq_true rfl) (Nat.le_of_ble_eq_true rfl) (Nat.le_of_ble_eq_true rfl) dL_law_968 ?_
        refine lv_icmp_eq (tgt := 1065) hx hb dL_law_971 (by decide) (fun hq9 => ?_) (fun hq9 => absurd (Eq.symm (e_bad hV)) hq9)
        refine n_iinc 3 5 (lv' := [(3, .int (nI (i + 5))), (0, .ref (b)), (1, .ref (ad (0))), (2, .ref (ad (25)))]) hx hb dL_law_1065 hl rfl (by decide) rfl (fun ls hl => ?_)
        refine n_goto 18 hx hb dL_law_1068 (by decide) ?_
        exact ih (i + 5) (by omega) (by omega) _ hV _ _ hP hS ls (lv_sub hl [1, 2, 3, 0] rfl)
      · subst e9
        refine lv_tableIn (off := 944) (tgt := 976) hx hb dL_law_32 (by decide) (by decide) (by decide) (by decide) ?_
        refine lv_aload_n hx hb dL_law_976 rfl (lv_at hl 1 rfl) ?_
        refine lv_aload_n hx hb dL_law_977 rfl (lv_at hl 0 rfl) ?_
        refine lv_iload_n hx hb dL_law_978 rfl (lv_at hl 3 rfl) ?_
        refine n_iconst 1 hx hb dL_law_979 ?_
        refine n_iadd hx hb dL_law_980 ?_
        refine va_sld hx hb hX hbl hbA hS (vp_in_nI (by omega) (by omega)) dL_law_981 ?_
        refine n_eq (y := xs (i + 1)) (by rw [k_toNat (by omega)]) ?_
        refine lv_aload_n hx hb dL_law_982 rfl (lv_at hl 0 rfl) ?_
        refine lv_iload_n hx hb dL_law_983 rfl (lv_at hl 3 rfl) ?_
        refine n_iconst 2 hx hb dL_law_984 ?_
        refine n_iadd hx hb dL_law_985 ?_
        refine va_sld hx hb hX hbl hbA hS (vp_in_nI (by omega) (by omega)) dL_law_986 ?_
        refine n_eq (y := xs (i + 2)) (by rw [k_toNat (by omega)]) ?_
        refine g_callV (0) (C := RX2) (T := TX2) (N := 7) (ci := 1) (As := [.int (xs (i + 1)), .int (xs (i + 2))]) (rest := []) (c_X2_rank l hI hWt hMt hV.1) (cwV 2 hts gL_law_X2_rank rfl rfl rfl (by decide +kernel) ⟨Nat.le_of_ble_eq_true rfl, Nat.le_of_ble_eq_true rfl⟩) hx hb hml hown hts hK hP  (by decide) rfl rfl rfl hl.1 rfl (Nat.le_of_ble_eq_true rfl) (Nat.le_of_ble_eq_true rfl) (Nat.le_of_ble_eq_true rfl) dL_law_987 ?_
        refine lv_aload_n hx hb dL_law_990 rfl (lv_at hl 2 rfl) ?_
        refine lv_aload_n hx hb dL_law_991 rfl (lv_at hl 0 rfl) ?_
        refine lv_iload_n hx hb dL_law_992 rfl (lv_at hl 3 rfl) ?_
        refine n_iconst 1 hx hb dL_law_993 ?_
        refine n_iadd hx hb dL_law_994 ?_
        refine va_sld hx hb hX hbl hbA hS (vp_in_nI (by omega) (by omega)) dL_law_995 ?_
        refine n_eq (y := xs (i + 1)) (by rw [k_toNat (by omega)]) ?_
        refine lv_aload_n hx hb dL_law_996 rfl (lv_at hl 0 rfl) ?_
        refine lv_iload_n hx hb dL_law_997 rfl (lv_at hl 3 rfl) ?_
        refine n_iconst 2 hx hb dL_law_998 ?_
        refine n_iadd hx hb dL_law_999 ?_
        refine va_sld hx hb hX hbl hbA hS (vp_in_nI (by omega) (by omega)) dL_law_1000 ?_
        refine n_eq (y := xs (i + 2)) (by rw [k_toNat (by omega)]) ?_
        refine g_callV (25) (C := RX3) (T := TX3) (N := 7) (ci := 2) (As := [.int (xs (i + 1)), .int (xs (i + 2))]) (rest := [.int (sC_rank (cN S) (cC S) (xs (i + 1)) (xs (i + 2)))]) (c_X3_rank l hI (S := S) hV.RF) (cwV 2 hts gL_law_X3_rank rfl rfl rfl (by decide +kernel) ⟨Nat.le_of_ble_eq_true rfl, Nat.le_of_ble_eq_true rfl⟩) hx hb hml hown hts hK hP  (by decide) rfl rfl rfl hl.1 rfl (Nat.le_of_ble_eq_true rfl) (Nat.le_of_ble_eq_true rfl) (Nat.le_of_ble_eq_true rfl) dL_law_1001 ?_
        refine lv_icmp_eq (tgt := 1065) hx hb dL_law_1004 (by decide) (fun hq9 => ?_) (fun hq9 => absurd (Eq.symm (e_rank hV)) hq9)
        refine n_iinc 3 5 (lv' := [(3, .int (nI (i + 5))), (0, .ref (b)), (1, .ref (ad (0))), (2, .ref (ad (25)))]) hx hb dL_law_1065 hl rfl (by decide) rfl (fun ls hl => ?_)
        refine n_goto 18 hx hb dL_law_1068 (by decide) ?_
        exact ih (i + 5) (by omega) (by omega) _ hV _ _ hP hS ls (lv_sub hl [1, 2, 3, 0] rfl)
      · subst e9
        refine lv_tableIn (off := 977) (tgt := 1009) hx hb dL_law_32 (by decide) (by decide) (by decide) (by decide) ?_
        refine lv_aload_n hx hb dL_law_1009 rfl (lv_at hl 1 rfl) ?_
        refine lv_aload_n hx hb dL_law_1010 rfl (lv_at hl 0 rfl) ?_
        refine lv_iload_n hx hb dL_law_1011 rfl (lv_at hl 3 rfl) ?_
        refine n_iconst 1 hx hb dL_law_1012 ?_
        refine n_iadd hx hb dL_law_1013 ?_
        refine va_sld hx hb hX hbl hbA hS (vp_in_nI (by omega) (by omega)) dL_law_1014 ?_
        refine n_eq (y := xs (i + 1)) (by rw [k_toNat (by omega)]) ?_
        refine lv_aload_n hx hb dL_law_1015 rfl (lv_at hl 0 rfl) ?_
        refine lv_iload_n hx hb dL_law_1016 rfl (lv_at hl 3 rfl) ?_
        refine n_iconst 2 hx hb dL_law_1017 ?_
        refine n_iadd hx hb dL_law_1018 ?_
        refine va_sld hx hb hX hbl hbA hS (vp_in_nI (by omega) (by omega)) dL_law_1019 ?_
        refine n_eq (y := xs (i + 2)) (by rw [k_toNat (by omega)]) ?_
        refine g_callV (0) (C := RX2) (T := TX2) (N := 7) (ci := 1) (As := [.int (xs (i + 1)), .int (xs (i + 2))]) (rest := []) (c_X2_ranks l hI hWt hMt hV.1) (cwV 2 hts gL_law_X2_ranks rfl rfl rfl (by decide +kernel) ⟨Nat.le_of_ble_eq_true rfl, Nat.le_of_ble_eq_true rfl⟩) hx hb hml hown hts hK hP  (by decide) rfl rfl rfl hl.1 rfl (Nat.le_of_ble_eq_true rfl) (Nat.le_of_ble_eq_true rfl) (Nat.le_of_ble_eq_true rfl) dL_law_1020 ?_
        refine lv_aload_n hx hb dL_law_1023 rfl (lv_at hl 2 rfl) ?_
        refine lv_aload_n hx hb dL_law_1024 rfl (lv_at hl 0 rfl) ?_
        refine lv_iload_n hx hb dL_law_1025 rfl (lv_at hl 3 rfl) ?_
        refine n_iconst 1 hx hb dL_law_1026 ?_
        refine n_iadd hx hb dL_law_1027 ?_
        refine va_sld hx hb hX hbl hbA hS (vp_in_nI (by omega) (by omega)) dL_law_1028 ?_
        refine n_eq (y := xs (i + 1)) (by rw [k_toNat (by omega)]) ?_
        refine lv_aload_n hx hb dL_law_1029 rfl (lv_at hl 0 rfl) ?_
        refine lv_iload_n hx hb dL_law_1030 rfl (lv_at hl 3 rfl) ?_
        refine n_iconst 2 hx hb dL_law_1031 ?_
        refine n_iadd hx hb dL_law_1032 ?_
        refine va_sld hx hb hX hbl hbA hS (vp_in_nI (by omega) (by omega)) dL_law_1033 ?_
        refine n_eq (y := xs (i + 2)) (by rw [k_toNat (by omega)]) ?_
        refine g_callV (25) (C := RX3) (T := TX3) (N := 7) (ci := 2) (As := [.int (xs (i + 1)), .int (xs (i + 2))]) (rest := [.int (sC_ranks (cN S) (cC S) (xs (i + 1)) (xs (i + 2)))]) (c_X3_ranks l hI (S := S) hV.RF) (cwV 2 hts gL_law_X3_ranks rfl rfl rfl (by decide +kernel) ⟨Nat.le_of_ble_eq_true rfl, Nat.le_of_ble_eq_true rfl⟩) hx hb hml hown hts hK hP  (by decide) rfl rfl rfl hl.1 rfl (Nat.le_of_ble_eq_true rfl) (Nat.le_of_ble_eq_true rfl) (Nat.le_of_ble_eq_true rfl) dL_law_1034 ?_
        refine lv_icmp_eq (tgt := 1065) hx hb dL_law_1037 (by decide) (fun hq9 => ?_) (fun hq9 => absurd (Eq.symm (e_ranks hV)) hq9)
        refine n_iinc 3 5 (lv' := [(3, .int (nI (i + 5))), (0, .ref (b)), (1, .ref (ad (0))), (2, .ref (ad (25)))]) hx hb dL_law_1065 hl rfl (by decide) rfl (fun ls hl => ?_)
        refine n_goto 18 hx hb dL_law_1068 (by decide) ?_
        exact ih (i + 5) (by omega) (by omega) _ hV _ _ hP hS ls (lv_sub hl [1, 2, 3, 0] rfl)
      · subst e9
        refine lv_tableIn (off := 1010) (tgt := 1042) hx hb dL_law_32 (by decide) (by decide) (by decide) (by decide) ?_
        refine lv_aload_n hx hb dL_law_1042 rfl (lv_at hl 1 rfl) ?_
        refine lv_aload_n hx hb dL_law_1043 rfl (lv_at hl 0 rfl) ?_
        refine lv_iload_n hx hb dL_law_1044 rfl (lv_at hl 3 rfl) ?_
        refine n_iconst 1 hx hb dL_law_1045 ?_
        refine n_iadd hx hb dL_law_1046 ?_
        refine va_sld hx hb hX hbl hbA hS (vp_in_nI (by omega) (by omega)) dL_law_1047 ?_
        refine n_eq (y := xs (i + 1)) (by rw [k_toNat (by omega)]) ?_
        refine g_callVW (0) (C := RX2) (T := TX2) (N := 7) (ci := 1) (As := [.int (xs (i + 1))]) (rest := []) (c_X2_cubes l hI hWt hMt hV.1) (cwV 1 hts gL_law_X2_cubes rfl rfl rfl (by decide +kernel) ⟨Nat.le_of_ble_eq_true rfl, Nat.le_of_ble_eq_true rfl⟩) hx hb hml hown hts hK hP (pic_D _ hD) hS  (by decide) rfl rfl rfl hl.1 rfl (Nat.le_of_ble_eq_true rfl) (Nat.le_of_ble_eq_true rfl) (Nat.le_of_ble_eq_true rfl) dL_law_1048 (fun H locs hP hS => ?_)
        have cc25 : ∀ q9, 25 ≤ q9 → (nC_cubes S (xs (i + 1))) q9 = S q9 := c25_cubes
        refine lv_aload_n hx hb dL_law_1051 rfl (lv_at hl 2 rfl) ?_
        refine lv_aload_n hx hb dL_law_1052 rfl (lv_at hl 0 rfl) ?_
        refine lv_iload_n hx hb dL_law_1053 rfl (lv_at hl 3 rfl) ?_
        refine n_iconst 1 hx hb dL_law_1054 ?_
        refine n_iadd hx hb dL_law_1055 ?_
        refine va_sld hx hb hX hbl hbA hS (vp_in_nI (by omega) (by omega)) dL_law_1056 ?_
        refine n_eq (y := xs (i + 1)) (by rw [k_toNat (by omega)]) ?_
        refine g_callVW (25) (C := RX3) (T := TX3) (N := 7) (ci := 2) (As := [.int (xs (i + 1))]) (rest := [.int (sC_cubes (xs (i + 1)))]) (c_X3_cubes l hI (S := nC_cubes S (xs (i + 1))) (RF_same hV.RF cc25)) (cwV 1 hts gL_law_X3_cubes rfl rfl rfl (by decide +kernel) ⟨Nat.le_of_ble_eq_true rfl, Nat.le_of_ble_eq_true rfl⟩) hx hb hml hown hts hK hP (pic_D _ hD) hS  (by decide) rfl rfl rfl hl.1 rfl (Nat.le_of_ble_eq_true rfl) (Nat.le_of_ble_eq_true rfl) (Nat.le_of_ble_eq_true rfl) dL_law_1057 (fun H locs hP hS => ?_)
        refine lv_icmp_eq (tgt := 1065) hx hb dL_law_1060 (by decide) (fun hq9 => ?_) (fun hq9 => absurd (Eq.symm (rfl)) hq9)
        refine n_iinc 3 5 (lv' := [(3, .int (nI (i + 5))), (0, .ref (b)), (1, .ref (ad (0))), (2, .ref (ad (25)))]) hx hb dL_law_1065 hl rfl (by decide) rfl (fun ls hl => ?_)
        refine n_goto 18 hx hb dL_law_1068 (by decide) ?_
        exact ih (i + 5) (by omega) (by omega) _ (st_cubes hV) _ _ hP hS ls (lv_sub hl [1, 2, 3, 0] rfl)
      · subst e9
        refine lv_tableOut (tgt := 1065) hx hb dL_law_32 (by decide) (by decide) ?_
        refine n_iinc 3 5 (lv' := [(3, .int (nI (i + 5))), (0, .ref (b)), (1, .ref (ad (0))), (2, .ref (ad (25)))]) hx hb dL_law_1065 hl rfl (by decide) rfl (fun ls hl => ?_)
        refine n_goto 18 hx hb dL_law_1068 (by decide) ?_
        exact ih (i + 5) (by omega) (by omega) _ hV _ _ hP hS ls (lv_sub hl [1, 2, 3, 0] rfl)
      · subst e9
        refine lv_tableOut (tgt := 1065) hx hb dL_law_32 (by decide) (by decide) ?_
        refine n_iinc 3 5 (lv' := [(3, .int (nI (i + 5))), (0, .ref (b)), (1, .ref (ad (0))), (2, .ref (ad (25)))]) hx hb dL_law_1065 hl rfl (by decide) rfl (fun ls hl => ?_)
        refine n_goto 18 hx hb dL_law_1068 (by decide) ?_
        exact ih (i + 5) (by omega) (by omega) _ hV _ _ hP hS ls (lv_sub hl [1, 2, 3, 0] rfl)
      · subst e9
        refine lv_tableOut (tgt := 1065) hx hb dL_law_32 (by decide) (by decide) ?_
        refine n_iinc 3 5 (lv' := [(3, .int (nI (i + 5))), (0, .ref (b)), (1, .ref (ad (0))), (2, .ref (ad (25)))]) hx hb dL_law_1065 hl rfl (by decide) rfl (fun ls hl => ?_)
        refine n_goto 18 hx hb dL_law_1068 (by decide) ?_
        exact ih (i + 5) (by omega) (by omega) _ hV _ _ hP hS ls (lv_sub hl [1, 2, 3, 0] rfl)
      · subst e9
        refine lv_tableOut (tgt := 1065) hx hb dL_law_32 (by decide) (by decide) ?_
        refine n_iinc 3 5 (lv' := [(3, .int (nI (i + 5))), (0, .ref (b)), (1, .ref (ad (0))), (2, .ref (ad (25)))]) hx hb dL_law_1065 hl rfl (by decide) rfl (fun ls hl => ?_)
        refine n_goto 18 hx hb dL_law_1068 (by decide) ?_
        exact ih (i + 5) (by omega) (by omega) _ hV _ _ hP hS ls (lv_sub hl [1, 2, 3, 0] rfl)
      · subst e9
        refine lv_tableOut (tgt := 1065) hx hb dL_law_32 (by decide) (by decide) ?_
        refine n_iinc 3 5 (lv' := [(3, .int (nI (i + 5))), (0, .ref (b)), (1, .ref (ad (0))), (2, .ref (ad (25)))]) hx hb dL_law_1065 hl rfl (by decide) rfl (fun ls hl => ?_)
        refine n_goto 18 hx hb dL_law_1068 (by decide) ?_
        exact ih (i + 5) (by omega) (by omega) _ hV _ _ hP hS ls (lv_sub hl [1, 2, 3, 0] rfl)
      · subst e9
        refine lv_tableOut (tgt := 1065) hx hb dL_law_32 (by decide) (by decide) ?_
        refine n_iinc 3 5 (lv' := [(3, .int (nI (i + 5))), (0, .ref (b)), (1, .ref (ad (0))), (2, .ref (ad (25)))]) hx hb dL_law_1065 hl rfl (by decide) rfl (fun ls hl => ?_)
        refine n_goto 18 hx hb dL_law_1068 (by decide) ?_
        exact ih (i + 5) (by omega) (by omega) _ hV _ _ hP hS ls (lv_sub hl [1, 2, 3, 0] rfl)
      · subst e9
        refine lv_tableOut (tgt := 1065) hx hb dL_law_32 (by decide) (by decide) ?_
        refine n_iinc 3 5 (lv' := [(3, .int (nI (i + 5))), (0, .ref (b)), (1, .ref (ad (0))), (2, .ref (ad (25)))]) hx hb dL_law_1065 hl rfl (by decide) rfl (fun ls hl => ?_)
        refine n_goto 18 hx hb dL_law_1068 (by decide) ?_
        exact ih (i + 5) (by omega) (by omega) _ hV _ _ hP hS ls (lv_sub hl [1, 2, 3, 0] rfl)
