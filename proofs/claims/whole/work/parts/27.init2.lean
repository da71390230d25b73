/-! CubeWorlds and CubeWorldsModel: made -/
section RWD
variable {p : Program} {l : Launch} {e : Env} {R : Room} {s : State} {m : MethodId} {args : Array Value} {below : List Frame} {meth : Method} {c : Code} {H : Heap} {locs : List Loc} {cells slots : Nat} {Q : State → Prop}
variable {cc : ByteArray} {pc : Nat} {ls : Array Slot} {rest : List Value} {D : va_G} {tys : List (ClassId × FieldType)} {n : Nat} {ad : Nat → Nat} {E : Nat → va_E} {A : Nat → Prop} {H0 : Heap}
theorem g_astq (i k j : Nat) {t0 ci : Nat} {cA : ClassId} {r : vw_C} {len : Nat} {f : Nat → Option Nat} {vs : List Value} (hx : p.tables.exec = Jvm.exec) (hb : c.code = cc) (hK : KN D tys s) (hP : va_P D vwCl (pic n ad E) H) (hD : va_D A (pic n ad E)) (hS : va_S A H0 H locs) (hi : i < n) (hE : E i = .inl (cA, len, .inr (.inr (.inr (.inr f))))) (ht : tys[t0]? = some (cA, .object r.1)) (hk : k < n) (hEk : E k = .inr (ci, vs)) (hc : vwCl[ci]? = some r) (hj : j < len) (hlen : len < 2 ^ 31) (hdg : decode cc pc = .ok (.aastore, 1))
    (kk : ∀ (H1 : Heap) (locs1 : List Loc), va_P D vwCl (pic n ad (va_up E i (.inl (cA, len, .inr (.inr (.inr (.inr (va_up f j (some (ad k))))))))))  H1 → va_S A H0 H1 locs1 → W p l e R s m args below meth c H1 locs1 cells slots Q (F0 m (pc + 1) ls rest)) : W p l e R s m args below meth c H locs cells slots Q (F0 m pc ls (.ref (ad k) :: .int (nI j) :: .ref (ad i) :: rest)) := by
  refine va_astq hx hb hK.1 hP hD hS i t0 k ci (pic_get hi hE) ht (pic_get hk hEk) hc (vp_in_nI hj hlen) hdg (fun H1 locs1 hP1 _ hS1 => kk H1 locs1 ?_ hS1)
  rw [pic_set _ hi, k_toNat (Nat.lt_trans hj hlen)] at hP1
  exact hP1
end RWD
theorem app3 {α : Type} (X : List α) (a b c : α) : X ++ [a, b, c] = ((X ++ [a]) ++ [b]) ++ [c] := by simp
theorem rows3 (f : Nat → va_E) (r : Nat → Nat) (v : va_E) : va_pl ([] ++ (List.range 3).map r) (vr_up f ((List.range 3).map r) v) = [(r 0, v), (r 1, v), (r 2, v)] := by
  have e : (List.range 3).map r = [r 0, r 1, r 2] := rfl
  rw [List.nil_append, e]
  unfold va_pl vr_up
  simp
def oneC : Nat → Nat := va_up (fun _ => 0) (4 * 0 + 0) 1
def S2 (i : Nat) : Nat → Nat := if isO i then obS 1 (2 ^ 1) else if i = 7 ∨ i = 14 ∨ i = 17 ∨ i = 20 ∨ i = 23 then oneC else if i = 8 ∨ i = 15 ∨ i = 18 ∨ i = 21 ∨ i = 24 then pf 1 oneC (fun _ => 0) (2 ^ 1) 0 else fun _ => 0
def XO (U : State) : Prop := va_AO "CubeWorlds$World" U ∧ va_AOA .int U
theorem XO.moved {s U : State} (hW : s.WarmedH U.vm) (h : XO s) : XO U := by
  refine ⟨h.1.moved hW.alike, ?_⟩
  have h9 : (Cond.arrayOver (.array .int)).before #[] (s.setVm U.vm) = true := by
    rw [Cond.arrayOver_setVmC hW.alike]
    exact h.2
  exact h9
theorem XO.call {U : State} (g : JFrame) (mk : MethodId) (a : Array Value) (h : XO U) : XO (U.calling g mk a) := ⟨h.1.moved (u := U) (U := U.calling g mk a) (Vm.Alike.refl U.vm), h.2⟩

set_option maxHeartbeats 8000000 in
set_option maxRecDepth 100000 in
theorem c_X2_init (l : Launch) {D : va_G} {A : Nat → Prop} {ad : Nat → Nat} {E : Nat → va_E} (hE : E 0 = .inr (1, [.null, .null, .null, .null, .null, .null, .null])) : Met l yX2_init wsX2_init ({ frames := 6, cells := 24, slots := 1427, locals := 133 } : Room) (va_Pc [.ref (ad 0)] (PN D [] A XO 1 ad E)) (QW none (fun t => ∃ cI cW cM ad', ad' 0 = ad 0 ∧ PW D [(cI, .int), (cW, .object "CubeWorlds$World"), (cM, .array .int)] A 25 ad' (gE cI cW cM ad' S2) t) A) 24 1427 A := by
  refine g_init (cc := cX2_init) (maxL := 2) (by decide) rfl rfl (Nat.le_of_ble_eq_true rfl) ?_
  intro p e s m args below meth c hx hb hrt hts hown hlocks hml hname hP hK hD hA hX hS ls hl
  show W p l e ({ frames := 6, cells := 24, slots := 1427, locals := 133 } : Room) s m args below meth c s.heap [] 0 0 _ _
  have hl : lv_has ls 2 [(0, .ref (ad 0))] := hl
  obtain ⟨cI, hK0⟩ := arr_int (hts (.arrayClass .int) (by decide +kernel)) hK.1
  have hK : KN D [(cI, .int)] s := ⟨hK0, hK.2⟩
  have hcy : s.vm.findClass (FieldType.array .int).toString = some cI := (hK.1.2 0 _ rfl).2
  refine lv_aload_n hx hb dX2_init_0 rfl (lv_at hl 0 rfl) ?_
  refine W.objInit hx hb hown (hts (.methodLink RX2 1 objectInit) (by decide +kernel)) (hts (.instanceMethod objectInit) (by decide +kernel)) (hts (.code objectInit ⟨#[0xb1]⟩ 1 none) (List.mem_cons_of_mem _ (List.mem_append_left _ (List.mem_append_left _ (List.mem_append_left _ (List.mem_of_getElem? (i := 2) rfl)))))) rfl (by rw [hml]; exact hl.1) rfl dX2_init_1 (Nat.le_of_ble_eq_true rfl) (Nat.le_of_ble_eq_true rfl) ?_
  refine W.eq (g2 := F0 m 4 ls []) rfl ?_
  refine lv_aload_n hx hb dX2_init_4 rfl (lv_at hl 0 rfl) ?_
  refine n_iconst 4 hx hb dX2_init_5 ?_
  refine va_newq hx hb hown (hts (.classLink RX2 9 RX1) (by decide +kernel)) hX.1 hK.1 hP hD hS hA (nI_pos (by decide)) (N' := 4) (k_toNat (by decide)) (by decide) (Nat.le_of_ble_eq_true rfl) (Nat.le_of_ble_eq_true rfl) dX2_init_6 (fun q1 cW H hK1 hP hD hS => ?_)
  rw [pic_snoc] at hP hD
  have hK : KN D [(cI, .int), (cW, .object "CubeWorlds$World")] s := ⟨hK1, hK.2⟩
  refine W.widen (k := 1) (n := 4) (Nat.le_of_ble_eq_true rfl) (Nat.le_of_ble_eq_true rfl) ?_
  refine g_putF (n := 2) (ad := va_up ad 1 q1) 0 0 (C := RX2) (T := TX2) (N := 7) (ci := 1) (ref := "CubeWorlds") (v := .ref q1) (ty := .array (.object "CubeWorlds$World")) hx hb hts (by decide +kernel) tyX2 tyX2_ok nmX2 hown hname hK hP (pic_D _ hD) hS (by decide) hE rfl (by decide) (by decide +kernel) rfl rfl rfl (by decide +kernel) rfl rfl (Nat.le_of_ble_eq_true rfl) dX2_init_9 (fun H locs hP hS => ?_)
  refine lv_aload_n hx hb dX2_init_12 rfl (lv_at hl 0 rfl) ?_
  refine n_iconst 3 hx hb dX2_init_13 ?_
  refine n_iconst 4 hx hb dX2_init_14 ?_
  refine va_mna (L := []) (f := fun _ => .inr (0, [])) (ty := .int) (cy := cI) (N' := 3) (K' := 4) (z := (4, .inl (nF (fun _ => 0)))) hx hb hown (hts (.classLink RX2 15 "[[I") (by decide +kernel)) hX.2 (hts (.arrayClass .int) (by decide +kernel)) hcy hK.1 (by rw [show va_pl [] (fun _ => Sum.inr (0, [])) = [] from rfl, List.append_nil]; exact hP) (by rw [show va_pl [] (fun _ => Sum.inr (0, [])) = [] from rfl, List.append_nil]; exact pic_D _ hD) hS hA (nI_pos (by decide)) (nI_pos (by decide)) (k_toNat (by decide)) (k_toNat (by decide)) (by decide) (by decide) (by decide) rfl rfl (Nat.le_of_ble_eq_true rfl) (Nat.le_of_ble_eq_true rfl) (fun c => by rw [vp_cell_i]; show ({ cls := c, slots := Array.replicate 4 _, vm := .none } : Cell) = _; rw [arrV_new]; rfl) dX2_init_15 (fun q2 r cM H _ _ hK1 hP hD hS => ?_)
  rw [rows3, app3, pic_snoc, pic_snoc, pic_snoc, pic_snoc] at hP hD
  have hK : KN D [(cI, .int), (cW, .object "CubeWorlds$World"), (cM, .array .int)] s := ⟨hK1, hK.2⟩
  refine W.widen (k := 5) (n := 19) (Nat.le_of_ble_eq_true rfl) (Nat.le_of_ble_eq_true rfl) ?_
  refine g_putF (n := 6) (ad := va_up (va_up (va_up (va_up (va_up ad 1 q1) 2 q2) 3 (r 0)) 4 (r 1)) 5 (r 2)) 0 1 (C := RX2) (T := TX2) (N := 7) (ci := 1) (ref := "CubeWorlds") (v := .ref q2) (ty := .array (.array .int)) hx hb hts (by decide +kernel) tyX2 tyX2_ok nmX2 hown hname hK hP (pic_D _ hD) hS (by decide) (by rfl) rfl (by decide) (by decide +kernel) rfl rfl rfl (by decide +kernel) rfl rfl (Nat.le_of_ble_eq_true rfl) dX2_init_19 (fun H locs hP hS => ?_)
  refine lv_aload_n hx hb dX2_init_22 rfl (lv_at hl 0 rfl) ?_
  refine g_new (n := 6) (C := RX1) (T := TX1) (N := 4) (ci := 0) (fs := [.int 0, .int 0, .null, .null]) hx hb hts (by decide +kernel) tyX1 tyX1_ok hown (by decide +kernel) (by decide +kernel) (by decide +kernel) hK hP (pic_D _ hD) hS hA rfl (fun j hj => by rcases (show j = 0 ∨ j = 1 ∨ j = 2 ∨ j = 3 by omega) with rfl | rfl | rfl | rfl <;> rfl) (Nat.le_of_ble_eq_true rfl) (Nat.le_of_ble_eq_true rfl) dX2_init_23 (fun q6 H hP hD hS => ?_)
  refine W.widen (k := 6) (n := 23) (Nat.le_of_ble_eq_true rfl) (Nat.le_of_ble_eq_true rfl) ?_
  refine lv_dup hx hb dX2_init_26 rfl ?_
  refine g_callI (n := 7) (ad := va_up (va_up (va_up (va_up (va_up (va_up ad 1 q1) 2 q2) 3 (r 0)) 4 (r 1)) 5 (r 2)) 6 q6) 6 (rest := [.ref q6, .ref (ad 0)]) (c_X1_init l (b := 6) (t0 := 0) rfl (by rfl)) (cwI 0 hts gX2_init_X1_init rfl rfl rfl (hts (.initialized RX1) (by decide +kernel)) (hts (.methodLink RX2 20 yX1_init) (by decide +kernel)) (hts (.instanceMethod yX1_init) (by decide +kernel)) rfl (by decide +kernel) ⟨Nat.le_of_ble_eq_true rfl, Nat.le_of_ble_eq_true rfl⟩) hx hb hml hown hts hK hP hD hS hA (fun _ _ _ _ _ => trivial) (fun _ _ => trivial) hl.1 rfl (Nat.le_of_ble_eq_true rfl) (Nat.le_of_ble_eq_true rfl) (Nat.le_of_ble_eq_true rfl) dX2_init_27 (fun t H locs ht _ hB hS => ?_)
  obtain ⟨q6a, q6b, hP, -, hD⟩ := hB
  rw [ht] at hP
  refine W.widen (k := 8) (n := 295) (Nat.le_of_ble_eq_true rfl) (Nat.le_of_ble_eq_true rfl) ?_
  refine g_putF (n := 9) (ad := va_up (va_up (va_up (va_up (va_up (va_up (va_up (va_up ad 1 q1) 2 q2) 3 (r 0)) 4 (r 1)) 5 (r 2)) 6 q6) 7 q6a) 8 q6b) 0 2 (C := RX2) (T := TX2) (N := 7) (ci := 1) (ref := "CubeWorlds") (v := .ref q6) (ty := .object "CubeWorlds$World") hx hb hts (by decide +kernel) tyX2 tyX2_ok nmX2 hown hname hK hP (pic_D _ hD) hS (by decide) (by rfl) rfl (by decide) (by decide +kernel) rfl rfl rfl (by decide +kernel) rfl rfl (Nat.le_of_ble_eq_true rfl) dX2_init_30 (fun H locs hP hS => ?_)
  refine lv_aload_n hx hb dX2_init_33 rfl (lv_at hl 0 rfl) ?_
  refine lv_bipush (v := nI 16) hx hb dX2_init_34 (by decide) ?_
  refine g_newi (n := 9) 16 (t0 := 0) rfl hx hb (hts (.arrayClass .int) (by decide +kernel)) hK hP (pic_D _ hD) hS hA (by decide) (Nat.le_of_ble_eq_true rfl) (Nat.le_of_ble_eq_true rfl) dX2_init_36 (fun q9 H hP hD hS => ?_)
  refine W.widen (k := 9) (n := 311) (Nat.le_of_ble_eq_true rfl) (Nat.le_of_ble_eq_true rfl) ?_
  refine g_putF (n := 10) (ad := va_up (va_up (va_up (va_up (va_up (va_up (va_up (va_up (va_up ad 1 q1) 2 q2) 3 (r 0)) 4 (r 1)) 5 (r 2)) 6 q6) 7 q6a) 8 q6b) 9 q9) 0 3 (C := RX2) (T := TX2) (N := 7) (ci := 1) (ref := "CubeWorlds") (v := .ref q9) (ty := .array .int) hx hb hts (by decide +kernel) tyX2 tyX2_ok nmX2 hown hname hK hP (pic_D _ hD) hS (by decide) (by rfl) rfl (by decide) (by decide +kernel) rfl rfl rfl (by decide +kernel) rfl rfl (Nat.le_of_ble_eq_true rfl) dX2_init_38 (fun H locs hP hS => ?_)
  refine lv_aload_n hx hb dX2_init_41 rfl (lv_at hl 0 rfl) ?_
  refine n_iconst 4 hx hb dX2_init_42 ?_
  refine g_newi (n := 10) 4 (t0 := 0) rfl hx hb (hts (.arrayClass .int) (by decide +kernel)) hK hP (pic_D _ hD) hS hA (by decide) (Nat.le_of_ble_eq_true rfl) (Nat.le_of_ble_eq_true rfl) dX2_init_43 (fun q10 H hP hD hS => ?_)
  refine W.widen (k := 10) (n := 315) (Nat.le_of_ble_eq_true rfl) (Nat.le_of_ble_eq_true rfl) ?_
  refine g_putF (n := 11) (ad := va_up (va_up (va_up (va_up (va_up (va_up (va_up (va_up (va_up (va_up ad 1 q1) 2 q2) 3 (r 0)) 4 (r 1)) 5 (r 2)) 6 q6) 7 q6a) 8 q6b) 9 q9) 10 q10) 0 4 (C := RX2) (T := TX2) (N := 7) (ci := 1) (ref := "CubeWorlds") (v := .ref q10) (ty := .array .int) hx hb hts (by decide +kernel) tyX2 tyX2_ok nmX2 hown hname hK hP (pic_D _ hD) hS (by decide) (by rfl) rfl (by decide) (by decide +kernel) rfl rfl rfl (by decide +kernel) rfl rfl (Nat.le_of_ble_eq_true rfl) dX2_init_45 (fun H locs hP hS => ?_)
  refine lv_aload_n hx hb dX2_init_48 rfl (lv_at hl 0 rfl) ?_
  refine n_iconst 4 hx hb dX2_init_49 ?_
  refine g_newi (n := 11) 4 (t0 := 0) rfl hx hb (hts (.arrayClass .int) (by decide +kernel)) hK hP (pic_D _ hD) hS hA (by decide) (Nat.le_of_ble_eq_true rfl) (Nat.le_of_ble_eq_true rfl) dX2_init_50 (fun q11 H hP hD hS => ?_)
  refine W.widen (k := 11) (n := 319) (Nat.le_of_ble_eq_true rfl) (Nat.le_of_ble_eq_true rfl) ?_
  refine g_putF (n := 12) (ad := va_up (va_up (va_up (va_up (va_up (va_up (va_up (va_up (va_up (va_up (va_up ad 1 q1) 2 q2) 3 (r 0)) 4 (r 1)) 5 (r 2)) 6 q6) 7 q6a) 8 q6b) 9 q9) 10 q10) 11 q11) 0 5 (C := RX2) (T := TX2) (N := 7) (ci := 1) (ref := "CubeWorlds") (v := .ref q11) (ty := .array .int) hx hb hts (by decide +kernel) tyX2 tyX2_ok nmX2 hown hname hK hP (pic_D _ hD) hS (by decide) (by rfl) rfl (by decide) (by decide +kernel) rfl rfl rfl (by decide +kernel) rfl rfl (Nat.le_of_ble_eq_true rfl) dX2_init_52 (fun H locs hP hS => ?_)
  refine lv_aload_n hx hb dX2_init_55 rfl (lv_at hl 0 rfl) ?_
  refine n_iconst 4 hx hb dX2_init_56 ?_
  refine g_newi (n := 12) 4 (t0 := 0) rfl hx hb (hts (.arrayClass .int) (by decide +kernel)) hK hP (pic_D _ hD) hS hA (by decide) (Nat.le_of_ble_eq_true rfl) (Nat.le_of_ble_eq_true rfl) dX2_init_57 (fun q12 H hP hD hS => ?_)
  refine W.widen (k := 12) (n := 323) (Nat.le_of_ble_eq_true rfl) (Nat.le_of_ble_eq_true rfl) ?_
  refine g_putF (n := 13) (ad := va_up (va_up (va_up (va_up (va_up (va_up (va_up (va_up (va_up (va_up (va_up (va_up ad 1 q1) 2 q2) 3 (r 0)) 4 (r 1)) 5 (r 2)) 6 q6) 7 q6a) 8 q6b) 9 q9) 10 q10) 11 q11) 12 q12) 0 6 (C := RX2) (T := TX2) (N := 7) (ci := 1) (ref := "CubeWorlds") (v := .ref q12) (ty := .array .int) hx hb hts (by decide +kernel) tyX2 tyX2_ok nmX2 hown hname hK hP (pic_D _ hD) hS (by decide) (by rfl) rfl (by decide) (by decide +kernel) rfl rfl rfl (by decide +kernel) rfl rfl (Nat.le_of_ble_eq_true rfl) dX2_init_59 (fun H locs hP hS => ?_)
  refine n_iconst 0 hx hb dX2_init_62 ?_
  refine lv_istore_n (lv' := [(1, .int (nI 0)), (0, .ref (ad 0))]) hx hb dX2_init_63 rfl hl (by decide) rfl (fun ls hl => ?_)
  refine lv_iload_n hx hb dX2_init_64 rfl (lv_at hl 0 rfl) ?_
  refine lv_aload_n hx hb dX2_init_65 rfl (lv_at hl 1 rfl) ?_
  refine g_get (n := 13) (ad := va_up (va_up (va_up (va_up (va_up (va_up (va_up (va_up (va_up (va_up (va_up (va_up ad 1 q1) 2 q2) 3 (r 0)) 4 (r 1)) 5 (r 2)) 6 q6) 7 q6a) 8 q6b) 9 q9) 10 q10) 11 q11) 12 q12) 0 0 (C := RX2) (T := TX2) (N := 7) (ci := 1) (ref := "CubeWorlds") hx hb hts (by decide +kernel) hown hK hP (by decide) (by rfl) rfl (by decide) (by decide +kernel) rfl rfl dX2_init_66 ?_
  refine g_alen (n := 13) (ad := va_up (va_up (va_up (va_up (va_up (va_up (va_up (va_up (va_up (va_up (va_up (va_up ad 1 q1) 2 q2) 3 (r 0)) 4 (r 1)) 5 (r 2)) 6 q6) 7 q6a) 8 q6b) 9 q9) 10 q10) 11 q11) 12 q12) 1 (t0 := 1) hx hb hK hP (by decide) (by rfl) rfl dX2_init_69 ?_
  refine n_ge (a := 0) (b := 4) (tgt := 92) hx hb dX2_init_70 (by decide) (by decide) (by decide) (fun h_70 => absurd h_70 (by decide)) (fun h_70 => ?_)
  refine lv_aload_n hx hb dX2_init_73 rfl (lv_at hl 1 rfl) ?_
  refine g_get (n := 13) (ad := va_up (va_up (va_up (va_up (va_up (va_up (va_up (va_up (va_up (va_up (va_up (va_up ad 1 q1) 2 q2) 3 (r 0)) 4 (r 1)) 5 (r 2)) 6 q6) 7 q6a) 8 q6b) 9 q9) 10 q10) 11 q11) 12 q12) 0 0 (C := RX2) (T := TX2) (N := 7) (ci := 1) (ref := "CubeWorlds") hx hb hts (by decide +kernel) hown hK hP (by decide) (by rfl) rfl (by decide) (by decide +kernel) rfl rfl dX2_init_74 ?_
  refine lv_iload_n hx hb dX2_init_77 rfl (lv_at hl 0 rfl) ?_
  refine g_new (n := 13) (C := RX1) (T := TX1) (N := 4) (ci := 0) (fs := [.int 0, .int 0, .null, .null]) hx hb hts (by decide +kernel) tyX1 tyX1_ok hown (by decide +kernel) (by decide +kernel) (by decide +kernel) hK hP (pic_D _ hD) hS hA rfl (fun j hj => by rcases (show j = 0 ∨ j = 1 ∨ j = 2 ∨ j = 3 by omega) with rfl | rfl | rfl | rfl <;> rfl) (Nat.le_of_ble_eq_true rfl) (Nat.le_of_ble_eq_true rfl) dX2_init_78 (fun q13 H hP hD hS => ?_)
  refine W.widen (k := 13) (n := 327) (Nat.le_of_ble_eq_true rfl) (Nat.le_of_ble_eq_true rfl) ?_
  refine lv_dup hx hb dX2_init_81 rfl ?_
  refine g_callI (n := 14) (ad := va_up (va_up (va_up (va_up (va_up (va_up (va_up (va_up (va_up (va_up (va_up (va_up (va_up ad 1 q1) 2 q2) 3 (r 0)) 4 (r 1)) 5 (r 2)) 6 q6) 7 q6a) 8 q6b) 9 q9) 10 q10) 11 q11) 12 q12) 13 q13) 13 (rest := [.ref q13, .int (nI 0), .ref q1]) (c_X1_init l (b := 13) (t0 := 0) rfl (by rfl)) (cwI 0 hts gX2_init_X1_init rfl rfl rfl (hts (.initialized RX1) (by decide +kernel)) (hts (.methodLink RX2 20 yX1_init) (by decide +kernel)) (hts (.instanceMethod yX1_init) (by decide +kernel)) rfl (by decide +kernel) ⟨Nat.le_of_ble_eq_true rfl, Nat.le_of_ble_eq_true rfl⟩) hx hb hml hown hts hK hP hD hS hA (fun _ _ _ _ _ => trivial) (fun _ _ => trivial) hl.1 rfl (Nat.le_of_ble_eq_true rfl) (Nat.le_of_ble_eq_true rfl) (Nat.le_of_ble_eq_true rfl) dX2_init_82 (fun t H locs ht _ hB hS => ?_)
  obtain ⟨q13a, q13b, hP, -, hD⟩ := hB
  rw [ht] at hP
  refine W.widen (k := 15) (n := 599) (Nat.le_of_ble_eq_true rfl) (Nat.le_of_ble_eq_true rfl) ?_
  refine g_astq (n := 16) (ad := va_up (va_up (va_up (va_up (va_up (va_up (va_up (va_up (va_up (va_up (va_up (va_up (va_up (va_up (va_up ad 1 q1) 2 q2) 3 (r 0)) 4 (r 1)) 5 (r 2)) 6 q6) 7 q6a) 8 q6b) 9 q9) 10 q10) 11 q11) 12 q12) 13 q13) 14 q13a) 15 q13b) 1 13 0 (t0 := 1) (ci := 0) hx hb hK hP (pic_D _ hD) hS (by decide) (by rfl) rfl (by decide) (by rfl) rfl (by decide) (by decide) dX2_init_85 (fun H locs hP hS => ?_)
  refine n_iinc 0 1 (lv' := [(1, .int (nI 1)), (0, .ref (ad 0))]) hx hb dX2_init_86 hl rfl (by decide) rfl (fun ls hl => ?_)
  refine n_goto 64 hx hb dX2_init_89 (by decide) ?_
  refine lv_iload_n hx hb dX2_init_64 rfl (lv_at hl 0 rfl) ?_
  refine lv_aload_n hx hb dX2_init_65 rfl (lv_at hl 1 rfl) ?_
  refine g_get (n := 16) (ad := va_up (va_up (va_up (va_up (va_up (va_up (va_up (va_up (va_up (va_up (va_up (va_up (va_up (va_up (va_up ad 1 q1) 2 q2) 3 (r 0)) 4 (r 1)) 5 (r 2)) 6 q6) 7 q6a) 8 q6b) 9 q9) 10 q10) 11 q11) 12 q12) 13 q13) 14 q13a) 15 q13b) 0 0 (C := RX2) (T := TX2) (N := 7) (ci := 1) (ref := "CubeWorlds") hx hb hts (by decide +kernel) hown hK hP (by decide) (by rfl) rfl (by decide) (by decide +kernel) rfl rfl dX2_init_66 ?_
  refine g_alen (n := 16) (ad := va_up (va_up (va_up (va_up (va_up (va_up (va_up (va_up (va_up (va_up (va_up (va_up (va_up (va_up (va_up ad 1 q1) 2 q2) 3 (r 0)) 4 (r 1)) 5 (r 2)) 6 q6) 7 q6a) 8 q6b) 9 q9) 10 q10) 11 q11) 12 q12) 13 q13) 14 q13a) 15 q13b) 1 (t0 := 1) hx hb hK hP (by decide) (by rfl) rfl dX2_init_69 ?_
  refine n_ge (a := 1) (b := 4) (tgt := 92) hx hb dX2_init_70 (by decide) (by decide) (by decide) (fun h_70 => absurd h_70 (by decide)) (fun h_70 => ?_)
  refine lv_aload_n hx hb dX2_init_73 rfl (lv_at hl 1 rfl) ?_
  refine g_get (n := 16) (ad := va_up (va_up (va_up (va_up (va_up (va_up (va_up (va_up (va_up (va_up (va_up (va_up (va_up (va_up (va_up ad 1 q1) 2 q2) 3 (r 0)) 4 (r 1)) 5 (r 2)) 6 q6) 7 q6a) 8 q6b) 9 q9) 10 q10) 11 q11) 12 q12) 13 q13) 14 q13a) 15 q13b) 0 0 (C := RX2) (T := TX2) (N := 7) (ci := 1) (ref := "CubeWorlds") hx hb hts (by decide +kernel) hown hK hP (by decide) (by rfl) rfl (by decide) (by decide +kernel) rfl rfl dX2_init_74 ?_
  refine lv_iload_n hx hb dX2_init_77 rfl (lv_at hl 0 rfl) ?_
  refine g_new (n := 16) (C := RX1) (T := TX1) (N := 4) (ci := 0) (fs := [.int 0, .int 0, .null, .null]) hx hb hts (by decide +kernel) tyX1 tyX1_ok hown (by decide +kernel) (by decide +kernel) (by decide +kernel) hK hP (pic_D _ hD) hS hA rfl (fun j hj => by rcases (show j = 0 ∨ j = 1 ∨ j = 2 ∨ j = 3 by omega) with rfl | rfl | rfl | rfl <;> rfl) (Nat.le_of_ble_eq_true rfl) (Nat.le_of_ble_eq_true rfl) dX2_init_78 (fun q16 H hP hD hS => ?_)
  refine W.widen (k := 16) (n := 603) (Nat.le_of_ble_eq_true rfl) (Nat.le_of_ble_eq_true rfl) ?_
  refine lv_dup hx hb dX2_init_81 rfl ?_
  refine g_callI (n := 17) (ad := va_up (va_up (va_up (va_up (va_up (va_up (va_up (va_up (va_up (va_up (va_up (va_up (va_up (va_up (va_up (va_up ad 1 q1) 2 q2) 3 (r 0)) 4 (r 1)) 5 (r 2)) 6 q6) 7 q6a) 8 q6b) 9 q9) 10 q10) 11 q11) 12 q12) 13 q13) 14 q13a) 15 q13b) 16 q16) 16 (rest := [.ref q16, .int (nI 1), .ref q1]) (c_X1_init l (b := 16) (t0 := 0) rfl (by rfl)) (cwI 0 hts gX2_init_X1_init rfl rfl rfl (hts (.initialized RX1) (by decide +kernel)) (hts (.methodLink RX2 20 yX1_init) (by decide +kernel)) (hts (.instanceMethod yX1_init) (by decide +kernel)) rfl (by decide +kernel) ⟨Nat.le_of_ble_eq_true rfl, Nat.le_of_ble_eq_true rfl⟩) hx hb hml hown hts hK hP hD hS hA (fun _ _ _ _ _ => trivial) (fun _ _ => trivial) hl.1 rfl (Nat.le_of_ble_eq_true rfl) (Nat.le_of_ble_eq_true rfl) (Nat.le_of_ble_eq_true rfl) dX2_init_82 (fun t H locs ht _ hB hS => ?_)
  obtain ⟨q16a, q16b, hP, -, hD⟩ := hB
  rw [ht] at hP
  refine W.widen (k := 18) (n := 875) (Nat.le_of_ble_eq_true rfl) (Nat.le_of_ble_eq_true rfl) ?_
  refine g_astq (n := 19) (ad := va_up (va_up (va_up (va_up (va_up (va_up (va_up (va_up (va_up (va_up (va_up (va_up (va_up (va_up (va_up (va_up (va_up (va_up ad 1 q1) 2 q2) 3 (r 0)) 4 (r 1)) 5 (r 2)) 6 q6) 7 q6a) 8 q6b) 9 q9) 10 q10) 11 q11) 12 q12) 13 q13) 14 q13a) 15 q13b) 16 q16) 17 q16a) 18 q16b) 1 16 1 (t0 := 1) (ci := 0) hx hb hK hP (pic_D _ hD) hS (by decide) (by rfl) rfl (by decide) (by rfl) rfl (by decide) (by decide) dX2_init_85 (fun H locs hP hS => ?_)
  refine n_iinc 0 1 (lv' := [(1, .int (nI 2)), (0, .ref (ad 0))]) hx hb dX2_init_86 hl rfl (by decide) rfl (fun ls hl => ?_)
  refine n_goto 64 hx hb dX2_init_89 (by decide) ?_
  refine lv_iload_n hx hb dX2_init_64 rfl (lv_at hl 0 rfl) ?_
  refine lv_aload_n hx hb dX2_init_65 rfl (lv_at hl 1 rfl) ?_
  refine g_get (n := 19) (ad := va_up (va_up (va_up (va_up (va_up (va_up (va_up (va_up (va_up (va_up (va_up (va_up (va_up (va_up (va_up (va_up (va_up (va_up ad 1 q1) 2 q2) 3 (r 0)) 4 (r 1)) 5 (r 2)) 6 q6) 7 q6a) 8 q6b) 9 q9) 10 q10) 11 q11) 12 q12) 13 q13) 14 q13a) 15 q13b) 16 q16) 17 q16a) 18 q16b) 0 0 (C := RX2) (T := TX2) (N := 7) (ci := 1) (ref := "CubeWorlds") hx hb hts (by decide +kernel) hown hK hP (by decide) (by rfl) rfl (by decide) (by decide +kernel) rfl rfl dX2_init_66 ?_
  refine g_alen (n := 19) (ad := va_up (va_up (va_up (va_up (va_up (va_up (va_up (va_up (va_up (va_up (va_up (va_up (va_up (va_up (va_up (va_up (va_up (va_up ad 1 q1) 2 q2) 3 (r 0)) 4 (r 1)) 5 (r 2)) 6 q6) 7 q6a) 8 q6b) 9 q9) 10 q10) 11 q11) 12 q12) 13 q13) 14 q13a) 15 q13b) 16 q16) 17 q16a) 18 q16b) 1 (t0 := 1) hx hb hK hP (by decide) (by rfl) rfl dX2_init_69 ?_
  refine n_ge (a := 2) (b := 4) (tgt := 92) hx hb dX2_init_70 (by decide) (by decide) (by decide) (fun h_70 => absurd h_70 (by decide)) (fun h_70 => ?_)
  refine lv_aload_n hx hb dX2_init_73 rfl (lv_at hl 1 rfl) ?_
  refine g_get (n := 19) (ad := va_up (va_up (va_up (va_up (va_up (va_up (va_up (va_up (va_up (va_up (va_up (va_up (va_up (va_up (va_up (va_up (va_up (va_up ad 1 q1) 2 q2) 3 (r 0)) 4 (r 1)) 5 (r 2)) 6 q6) 7 q6a) 8 q6b) 9 q9) 10 q10) 11 q11) 12 q12) 13 q13) 14 q13a) 15 q13b) 16 q16) 17 q16a) 18 q16b) 0 0 (C := RX2) (T := TX2) (N := 7) (ci := 1) (ref := "CubeWorlds") hx hb hts (by decide +kernel) hown hK hP (by decide) (by rfl) rfl (by decide) (by decide +kernel) rfl rfl dX2_init_74 ?_
  refine lv_iload_n hx hb dX2_init_77 rfl (lv_at hl 0 rfl) ?_
  refine g_new (n := 19) (C := RX1) (T := TX1) (N := 4) (ci := 0) (fs := [.int 0, .int 0, .null, .null]) hx hb hts (by decide +kernel) tyX1 tyX1_ok hown (by decide +kernel) (by decide +kernel) (by decide +kernel) hK hP (pic_D _ hD) hS hA rfl (fun j hj => by rcases (show j = 0 ∨ j = 1 ∨ j = 2 ∨ j = 3 by omega) with rfl | rfl | rfl | rfl <;> rfl) (Nat.le_of_ble_eq_true rfl) (Nat.le_of_ble_eq_true rfl) dX2_init_78 (fun q19 H hP hD hS => ?_)
  refine W.widen (k := 19) (n := 879) (Nat.le_of_ble_eq_true rfl) (Nat.le_of_ble_eq_true rfl) ?_
  refine lv_dup hx hb dX2_init_81 rfl ?_
  refine g_callI (n := 20) (ad := va_up (va_up (va_up (va_up (va_up (va_up (va_up (va_up (va_up (va_up (va_up (va_up (va_up (va_up (va_up (va_up (va_up (va_up (va_up ad 1 q1) 2 q2) 3 (r 0)) 4 (r 1)) 5 (r 2)) 6 q6) 7 q6a) 8 q6b) 9 q9) 10 q10) 11 q11) 12 q12) 13 q13) 14 q13a) 15 q13b) 16 q16) 17 q16a) 18 q16b) 19 q19) 19 (rest := [.ref q19, .int (nI 2), .ref q1]) (c_X1_init l (b := 19) (t0 := 0) rfl (by rfl)) (cwI 0 hts gX2_init_X1_init rfl rfl rfl (hts (.initialized RX1) (by decide +kernel)) (hts (.methodLink RX2 20 yX1_init) (by decide +kernel)) (hts (.instanceMethod yX1_init) (by decide +kernel)) rfl (by decide +kernel) ⟨Nat.le_of_ble_eq_true rfl, Nat.le_of_ble_eq_true rfl⟩) hx hb hml hown hts hK hP hD hS hA (fun _ _ _ _ _ => trivial) (fun _ _ => trivial) hl.1 rfl (Nat.le_of_ble_eq_true rfl) (Nat.le_of_ble_eq_true rfl) (Nat.le_of_ble_eq_true rfl) dX2_init_82 (fun t H locs ht _ hB hS => ?_)
  obtain ⟨q19a, q19b, hP, -, hD⟩ := hB
  rw [ht] at hP
  refine W.widen (k := 21) (n := 1151) (Nat.le_of_ble_eq_true rfl) (Nat.le_of_ble_eq_true rfl) ?_
  refine g_astq (n := 22) (ad := va_up (va_up (va_up (va_up (va_up (va_up (va_up (va_up (va_up (va_up (va_up (va_up (va_up (va_up (va_up (va_up (va_up (va_up (va_up (va_up (va_up ad 1 q1) 2 q2) 3 (r 0)) 4 (r 1)) 5 (r 2)) 6 q6) 7 q6a) 8 q6b) 9 q9) 10 q10) 11 q11) 12 q12) 13 q13) 14 q13a) 15 q13b) 16 q16) 17 q16a) 18 q16b) 19 q19) 20 q19a) 21 q19b) 1 19 2 (t0 := 1) (ci := 0) hx hb hK hP (pic_D _ hD) hS (by decide) (by rfl) rfl (by decide) (by rfl) rfl (by decide) (by decide) dX2_init_85 (fun H locs hP hS => ?_)
  refine n_iinc 0 1 (lv' := [(1, .int (nI 3)), (0, .ref (ad 0))]) hx hb dX2_init_86 hl rfl (by decide) rfl (fun ls hl => ?_)
  refine n_goto 64 hx hb dX2_init_89 (by decide) ?_
  refine lv_iload_n hx hb dX2_init_64 rfl (lv_at hl 0 rfl) ?_
  refine lv_aload_n hx hb dX2_init_65 rfl (lv_at hl 1 rfl) ?_
  refine g_get (n := 22) (ad := va_up (va_up (va_up (va_up (va_up (va_up (va_up (va_up (va_up (va_up (va_up (va_up (va_up (va_up (va_up (va_up (va_up (va_up (va_up (va_up (va_up ad 1 q1) 2 q2) 3 (r 0)) 4 (r 1)) 5 (r 2)) 6 q6) 7 q6a) 8 q6b) 9 q9) 10 q10) 11 q11) 12 q12) 13 q13) 14 q13a) 15 q13b) 16 q16) 17 q16a) 18 q16b) 19 q19) 20 q19a) 21 q19b) 0 0 (C := RX2) (T := TX2) (N := 7) (ci := 1) (ref := "CubeWorlds") hx hb hts (by decide +kernel) hown hK hP (by decide) (by rfl) rfl (by decide) (by decide +kernel) rfl rfl dX2_init_66 ?_
  refine g_alen (n := 22) (ad := va_up (va_up (va_up (va_up (va_up (va_up (va_up (va_up (va_up (va_up (va_up (va_up (va_up (va_up (va_up (va_up (va_up (va_up (va_up (va_up (va_up ad 1 q1) 2 q2) 3 (r 0)) 4 (r 1)) 5 (r 2)) 6 q6) 7 q6a) 8 q6b) 9 q9) 10 q10) 11 q11) 12 q12) 13 q13) 14 q13a) 15 q13b) 16 q16) 17 q16a) 18 q16b) 19 q19) 20 q19a) 21 q19b) 1 (t0 := 1) hx hb hK hP (by decide) (by rfl) rfl dX2_init_69 ?_
  refine n_ge (a := 3) (b := 4) (tgt := 92) hx hb dX2_init_70 (by decide) (by decide) (by decide) (fun h_70 => absurd h_70 (by decide)) (fun h_70 => ?_)
  refine lv_aload_n hx hb dX2_init_73 rfl (lv_at hl 1 rfl) ?_
  refine g_get (n := 22) (ad := va_up (va_up (va_up (va_up (va_up (va_up (va_up (va_up (va_up (va_up (va_up (va_up (va_up (va_up (va_up (va_up (va_up (va_up (va_up (va_up (va_up ad 1 q1) 2 q2) 3 (r 0)) 4 (r 1)) 5 (r 2)) 6 q6) 7 q6a) 8 q6b) 9 q9) 10 q10) 11 q11) 12 q12) 13 q13) 14 q13a) 15 q13b) 16 q16) 17 q16a) 18 q16b) 19 q19) 20 q19a) 21 q19b) 0 0 (C := RX2) (T := TX2) (N := 7) (ci := 1) (ref := "CubeWorlds") hx hb hts (by decide +kernel) hown hK hP (by decide) (by rfl) rfl (by decide) (by decide +kernel) rfl rfl dX2_init_74 ?_
  refine lv_iload_n hx hb dX2_init_77 rfl (lv_at hl 0 rfl) ?_
  refine g_new (n := 22) (C := RX1) (T := TX1) (N := 4) (ci := 0) (fs := [.int 0, .int 0, .null, .null]) hx hb hts (by decide +kernel) tyX1 tyX1_ok hown (by decide +kernel) (by decide +kernel) (by decide +kernel) hK hP (pic_D _ hD) hS hA rfl (fun j hj => by rcases (show j = 0 ∨ j = 1 ∨ j = 2 ∨ j = 3 by omega) with rfl | rfl | rfl | rfl <;> rfl) (Nat.le_of_ble_eq_true rfl) (Nat.le_of_ble_eq_true rfl) dX2_init_78 (fun q22 H hP hD hS => ?_)
  refine W.widen (k := 22) (n := 1155) (Nat.le_of_ble_eq_true rfl) (Nat.le_of_ble_eq_true rfl) ?_
  refine lv_dup hx hb dX2_init_81 rfl ?_
  refine g_callI (n := 23) (ad := va_up (va_up (va_up (va_up (va_up (va_up (va_up (va_up (va_up (va_up (va_up (va_up (va_up (va_up (va_up (va_up (va_up (va_up (va_up (va_up (va_up (va_up ad 1 q1) 2 q2) 3 (r 0)) 4 (r 1)) 5 (r 2)) 6 q6) 7 q6a) 8 q6b) 9 q9) 10 q10) 11 q11) 12 q12) 13 q13) 14 q13a) 15 q13b) 16 q16) 17 q16a) 18 q16b) 19 q19) 20 q19a) 21 q19b) 22 q22) 22 (rest := [.ref q22, .int (nI 3), .ref q1]) (c_X1_init l (b := 22) (t0 := 0) rfl (by rfl)) (cwI 0 hts gX2_init_X1_init rfl rfl rfl (hts (.initialized RX1) (by decide +kernel)) (hts (.methodLink RX2 20 yX1_init) (by decide +kernel)) (hts (.instanceMethod yX1_init) (by decide +kernel)) rfl (by decide +kernel) ⟨Nat.le_of_ble_eq_true rfl, Nat.le_of_ble_eq_true rfl⟩) hx hb hml hown hts hK hP hD hS hA (fun _ _ _ _ _ => trivial) (fun _ _ => trivial) hl.1 rfl (Nat.le_of_ble_eq_true rfl) (Nat.le_of_ble_eq_true rfl) (Nat.le_of_ble_eq_true rfl) dX2_init_82 (fun t H locs ht _ hB hS => ?_)
  obtain ⟨q22a, q22b, hP, -, hD⟩ := hB
  rw [ht] at hP
  refine W.widen (k := 24) (n := 1427) (Nat.le_of_ble_eq_true rfl) (Nat.le_of_ble_eq_true rfl) ?_
  refine g_astq (n := 25) (ad := va_up (va_up (va_up (va_up (va_up (va_up (va_up (va_up (va_up (va_up (va_up (va_up (va_up (va_up (va_up (va_up (va_up (va_up (va_up (va_up (va_up (va_up (va_up (va_up ad 1 q1) 2 q2) 3 (r 0)) 4 (r 1)) 5 (r 2)) 6 q6) 7 q6a) 8 q6b) 9 q9) 10 q10) 11 q11) 12 q12) 13 q13) 14 q13a) 15 q13b) 16 q16) 17 q16a) 18 q16b) 19 q19) 20 q19a) 21 q19b) 22 q22) 23 q22a) 24 q22b) 1 22 3 (t0 := 1) (ci := 0) hx hb hK hP (pic_D _ hD) hS (by decide) (by rfl) rfl (by decide) (by rfl) rfl (by decide) (by decide) dX2_init_85 (fun H locs hP hS => ?_)
  refine n_iinc 0 1 (lv' := [(1, .int (nI 4)), (0, .ref (ad 0))]) hx hb dX2_init_86 hl rfl (by decide) rfl (fun ls hl => ?_)
  refine n_goto 64 hx hb dX2_init_89 (by decide) ?_
  refine lv_iload_n hx hb dX2_init_64 rfl (lv_at hl 0 rfl) ?_
  refine lv_aload_n hx hb dX2_init_65 rfl (lv_at hl 1 rfl) ?_
  refine g_get (n := 25) (ad := va_up (va_up (va_up (va_up (va_up (va_up (va_up (va_up (va_up (va_up (va_up (va_up (va_up (va_up (va_up (va_up (va_up (va_up (va_up (va_up (va_up (va_up (va_up (va_up ad 1 q1) 2 q2) 3 (r 0)) 4 (r 1)) 5 (r 2)) 6 q6) 7 q6a) 8 q6b) 9 q9) 10 q10) 11 q11) 12 q12) 13 q13) 14 q13a) 15 q13b) 16 q16) 17 q16a) 18 q16b) 19 q19) 20 q19a) 21 q19b) 22 q22) 23 q22a) 24 q22b) 0 0 (C := RX2) (T := TX2) (N := 7) (ci := 1) (ref := "CubeWorlds") hx hb hts (by decide +kernel) hown hK hP (by decide) (by rfl) rfl (by decide) (by decide +kernel) rfl rfl dX2_init_66 ?_
  refine g_alen (n := 25) (ad := va_up (va_up (va_up (va_up (va_up (va_up (va_up (va_up (va_up (va_up (va_up (va_up (va_up (va_up (va_up (va_up (va_up (va_up (va_up (va_up (va_up (va_up (va_up (va_up ad 1 q1) 2 q2) 3 (r 0)) 4 (r 1)) 5 (r 2)) 6 q6) 7 q6a) 8 q6b) 9 q9) 10 q10) 11 q11) 12 q12) 13 q13) 14 q13a) 15 q13b) 16 q16) 17 q16a) 18 q16b) 19 q19) 20 q19a) 21 q19b) 22 q22) 23 q22a) 24 q22b) 1 (t0 := 1) hx hb hK hP (by decide) (by rfl) rfl dX2_init_69 ?_
  refine n_ge (a := 4) (b := 4) (tgt := 92) hx hb dX2_init_70 (by decide) (by decide) (by decide) (fun h_70 => ?_) (fun h_70 => absurd h_70 (by decide))
  refine g_vretI hx hb hrt hlocks hS (fun t ht hW => ⟨cI, cW, cM, va_up (va_up (va_up (va_up (va_up (va_up (va_up (va_up (va_up (va_up (va_up (va_up (va_up (va_up (va_up (va_up (va_up (va_up (va_up (va_up (va_up (va_up (va_up (va_up ad 1 q1) 2 q2) 3 (r 0)) 4 (r 1)) 5 (r 2)) 6 q6) 7 q6a) 8 q6b) 9 q9) 10 q10) 11 q11) 12 q12) 13 q13) 14 q13a) 15 q13b) 16 q16) 17 q16a) 18 q16b) 19 q19) 20 q19a) 21 q19b) 22 q22) 23 q22a) 24 q22b, rfl, ?_, hK.moved hW, pic_D _ hD⟩) dX2_init_92
  rw [ht]
  refine Eq.mp (congrArg (fun w => va_P D vwCl w H) (pic_ext (fun i hi => ?_))) hP
  rcases (show i = 0 ∨ i = 1 ∨ i = 2 ∨ i = 3 ∨ i = 4 ∨ i = 5 ∨ i = 6 ∨ i = 7 ∨ i = 8 ∨ i = 9 ∨ i = 10 ∨ i = 11 ∨ i = 12 ∨ i = 13 ∨ i = 14 ∨ i = 15 ∨ i = 16 ∨ i = 17 ∨ i = 18 ∨ i = 19 ∨ i = 20 ∨ i = 21 ∨ i = 22 ∨ i = 23 ∨ i = 24 by omega) with h | h | h | h | h | h | h | h | h | h | h | h | h | h | h | h | h | h | h | h | h | h | h | h | h
  · subst h; rfl
  · subst h
    refine congrArg (fun f => (Sum.inl (cW, 4, Sum.inr (Sum.inr (Sum.inr (Sum.inr f)))) : va_E)) (funext fun k => ?_)
    rcases (show k = 0 ∨ k = 1 ∨ k = 2 ∨ k = 3 ∨ 4 ≤ k by omega) with h | h | h | h | h
    · subst h; rfl
    · subst h; rfl
    · subst h; rfl
    · subst h; rfl
    · rw [va_up_o (by omega), va_up_o (by omega), va_up_o (by omega), va_up_o (by omega), if_neg (by omega)]
  · subst h
    refine congrArg (fun f => (Sum.inl (cM, 3, Sum.inr (Sum.inr (Sum.inr (Sum.inr f)))) : va_E)) (funext fun k => ?_)
    rcases (show k = 0 ∨ k = 1 ∨ k = 2 ∨ 3 ≤ k by omega) with h | h | h | h
    · subst h; rfl
    · subst h; rfl
    · subst h; rfl
    · rw [if_neg (by omega), if_neg (by omega)]
  · subst h; rfl
  · subst h; rfl
  · subst h; rfl
  · subst h; rfl
  · subst h; rfl
  · subst h; rfl
  · subst h; rfl
  · subst h; rfl
  · subst h; rfl
  · subst h; rfl
  · subst h; rfl
  · subst h; rfl
  · subst h; rfl
  · subst h; rfl
  · subst h; rfl
  · subst h; rfl
  · subst h; rfl
  · subst h; rfl
  · subst h; rfl
  · subst h; rfl
  · subst h; rfl
  · subst h; rfl
def S3 (i : Nat) : Nat → Nat := if i = 26 then va_up (va_up (va_up (va_up (fun _ => 0) 0 1) 1 1) 2 1) 3 1 else if i = 27 then va_up (va_up (va_up (va_up (fun _ => 0) (16 * 0) 1) (16 * 1) 1) (16 * 2) 1) (16 * 3) 1 else fun _ => 0
def mE (cI : ClassId) (ad : Nat → Nat) (E : Nat → va_E) (i : Nat) : va_E := if i < 25 then E i else if i = 25 then .inr (2, [.ref (ad 26), .ref (ad 27), .ref (ad 28), .ref (ad 29), .ref (ad 30), .ref (ad 31), .ref (ad 32)]) else .inl (cI, ln i, .inl (nF (S3 i)))
set_option maxHeartbeats 8000000 in
set_option maxRecDepth 100000 in
theorem c_X3_init (l : Launch) {D : va_G} {tys : List (ClassId × FieldType)} {A : Nat → Prop} {ad : Nat → Nat} {E : Nat → va_E} {cI : ClassId} {t0 : Nat} (hI : tys[t0]? = some (cI, .int)) (hE : E 25 = .inr (2, [.null, .null, .null, .null, .null, .null, .null])) : Met l yX3_init wsX3_init ({ frames := 1, cells := 7, slots := 249, locals := 12 } : Room) (va_Pc [.ref (ad 25)] (PN D tys A (fun _ => True) 26 ad E)) (QW none (fun t => ∃ ad', (∀ i, i < 26 → ad' i = ad i) ∧ PW D tys A 33 ad' (mE cI ad' E) t) A) 7 249 A := by
  refine g_init (cc := cX3_init) (maxL := 2) (by decide) rfl rfl (Nat.le_of_ble_eq_true rfl) ?_
  intro p e s m args below meth c hx hb hrt hts hown hlocks hml hname hP hK hD hA hX hS ls hl
  show W p l e ({ frames := 1, cells := 7, slots := 249, locals := 12 } : Room) s m args below meth c s.heap [] 0 0 _ _
  have hl : lv_has ls 2 [(0, .ref (ad 25))] := hl
  refine lv_aload_n hx hb dX3_init_0 rfl (lv_at hl 0 rfl) ?_
  refine W.objInit hx hb hown (hts (.methodLink RX3 1 objectInit) (by decide +kernel)) (hts (.instanceMethod objectInit) (by decide +kernel)) (hts (.code objectInit ⟨#[0xb1]⟩ 1 none) (List.mem_cons_of_mem _ (List.mem_append_left _ (List.mem_of_getElem? (i := 2) rfl)))) rfl (by rw [hml]; exact hl.1) rfl dX3_init_1 (Nat.le_of_ble_eq_true rfl) (Nat.le_of_ble_eq_true rfl) ?_
  refine W.eq (g2 := F0 m 4 ls []) rfl ?_
  refine lv_aload_n hx hb dX3_init_4 rfl (lv_at hl 0 rfl) ?_
  refine n_iconst 5 hx hb dX3_init_5 ?_
  refine g_newi (n := 26) 5 hI hx hb (hts (.arrayClass .int) (by decide +kernel)) hK hP (pic_D _ hD) hS hA (by decide) (Nat.le_of_ble_eq_true rfl) (Nat.le_of_ble_eq_true rfl) dX3_init_6 (fun q26 H hP hD hS => ?_)
  refine W.widen (k := 1) (n := 5) (Nat.le_of_ble_eq_true rfl) (Nat.le_of_ble_eq_true rfl) ?_
  refine g_putF (n := 27) (ad := va_up ad 26 q26) 25 0 (C := RX3) (T := TX3) (N := 7) (ci := 2) (ref := "CubeWorldsModel") (v := .ref q26) (ty := .array .int) hx hb hts (by decide +kernel) tyX3 tyX3_ok nmX3 hown hname hK hP (pic_D _ hD) hS (by decide) hE rfl (by decide) (by decide +kernel) rfl rfl rfl (by decide +kernel) rfl rfl (Nat.le_of_ble_eq_true rfl) dX3_init_8 (fun H locs hP hS => ?_)
  refine lv_aload_n hx hb dX3_init_11 rfl (lv_at hl 0 rfl) ?_
  refine lv_bipush (v := nI 80) hx hb dX3_init_12 (by decide) ?_
  refine g_newi (n := 27) 80 hI hx hb (hts (.arrayClass .int) (by decide +kernel)) hK hP (pic_D _ hD) hS hA (by decide) (Nat.le_of_ble_eq_true rfl) (Nat.le_of_ble_eq_true rfl) dX3_init_14 (fun q27 H hP hD hS => ?_)
  refine W.widen (k := 2) (n := 85) (Nat.le_of_ble_eq_true rfl) (Nat.le_of_ble_eq_true rfl) ?_
  refine g_putF (n := 28) (ad := va_up (va_up ad 26 q26) 27 q27) 25 1 (C := RX3) (T := TX3) (N := 7) (ci := 2) (ref := "CubeWorldsModel") (v := .ref q27) (ty := .array .int) hx hb hts (by decide +kernel) tyX3 tyX3_ok nmX3 hown hname hK hP (pic_D _ hD) hS (by decide) (by rfl) rfl (by decide) (by decide +kernel) rfl rfl rfl (by decide +kernel) rfl rfl (Nat.le_of_ble_eq_true rfl) dX3_init_16 (fun H locs hP hS => ?_)
  refine lv_aload_n hx hb dX3_init_19 rfl (lv_at hl 0 rfl) ?_
  refine lv_bipush (v := nI 12) hx hb dX3_init_20 (by decide) ?_
  refine g_newi (n := 28) 12 hI hx hb (hts (.arrayClass .int) (by decide +kernel)) hK hP (pic_D _ hD) hS hA (by decide) (Nat.le_of_ble_eq_true rfl) (Nat.le_of_ble_eq_true rfl) dX3_init_22 (fun q28 H hP hD hS => ?_)
  refine W.widen (k := 3) (n := 97) (Nat.le_of_ble_eq_true rfl) (Nat.le_of_ble_eq_true rfl) ?_
  refine g_putF (n := 29) (ad := va_up (va_up (va_up ad 26 q26) 27 q27) 28 q28) 25 2 (C := RX3) (T := TX3) (N := 7) (ci := 2) (ref := "CubeWorldsModel") (v := .ref q28) (ty := .array .int) hx hb hts (by decide +kernel) tyX3 tyX3_ok nmX3 hown hname hK hP (pic_D _ hD) hS (by decide) (by rfl) rfl (by decide) (by decide +kernel) rfl rfl rfl (by decide +kernel) rfl rfl (Nat.le_of_ble_eq_true rfl) dX3_init_24 (fun H locs hP hS => ?_)
  refine lv_aload_n hx hb dX3_init_27 rfl (lv_at hl 0 rfl) ?_
  refine lv_sipush (v := nI 128) hx hb dX3_init_28 (by decide) ?_
  refine g_newi (n := 29) 128 hI hx hb (hts (.arrayClass .int) (by decide +kernel)) hK hP (pic_D _ hD) hS hA (by decide) (Nat.le_of_ble_eq_true rfl) (Nat.le_of_ble_eq_true rfl) dX3_init_31 (fun q29 H hP hD hS => ?_)
  refine W.widen (k := 4) (n := 225) (Nat.le_of_ble_eq_true rfl) (Nat.le_of_ble_eq_true rfl) ?_
  refine g_putF (n := 30) (ad := va_up (va_up (va_up (va_up ad 26 q26) 27 q27) 28 q28) 29 q29) 25 3 (C := RX3) (T := TX3) (N := 7) (ci := 2) (ref := "CubeWorldsModel") (v := .ref q29) (ty := .array .int) hx hb hts (by decide +kernel) tyX3 tyX3_ok nmX3 hown hname hK hP (pic_D _ hD) hS (by decide) (by rfl) rfl (by decide) (by decide +kernel) rfl rfl rfl (by decide +kernel) rfl rfl (Nat.le_of_ble_eq_true rfl) dX3_init_33 (fun H locs hP hS => ?_)
  refine lv_aload_n hx hb dX3_init_36 rfl (lv_at hl 0 rfl) ?_
  refine lv_bipush (v := nI 8) hx hb dX3_init_37 (by decide) ?_
  refine g_newi (n := 30) 8 hI hx hb (hts (.arrayClass .int) (by decide +kernel)) hK hP (pic_D _ hD) hS hA (by decide) (Nat.le_of_ble_eq_true rfl) (Nat.le_of_ble_eq_true rfl) dX3_init_39 (fun q30 H hP hD hS => ?_)
  refine W.widen (k := 5) (n := 233) (Nat.le_of_ble_eq_true rfl) (Nat.le_of_ble_eq_true rfl) ?_
  refine g_putF (n := 31) (ad := va_up (va_up (va_up (va_up (va_up ad 26 q26) 27 q27) 28 q28) 29 q29) 30 q30) 25 4 (C := RX3) (T := TX3) (N := 7) (ci := 2) (ref := "CubeWorldsModel") (v := .ref q30) (ty := .array .int) hx hb hts (by decide +kernel) tyX3 tyX3_ok nmX3 hown hname hK hP (pic_D _ hD) hS (by decide) (by rfl) rfl (by decide) (by decide +kernel) rfl rfl rfl (by decide +kernel) rfl rfl (Nat.le_of_ble_eq_true rfl) dX3_init_41 (fun H locs hP hS => ?_)
  refine lv_aload_n hx hb dX3_init_44 rfl (lv_at hl 0 rfl) ?_
  refine lv_bipush (v := nI 8) hx hb dX3_init_45 (by decide) ?_
  refine g_newi (n := 31) 8 hI hx hb (hts (.arrayClass .int) (by decide +kernel)) hK hP (pic_D _ hD) hS hA (by decide) (Nat.le_of_ble_eq_true rfl) (Nat.le_of_ble_eq_true rfl) dX3_init_47 (fun q31 H hP hD hS => ?_)
  refine W.widen (k := 6) (n := 241) (Nat.le_of_ble_eq_true rfl) (Nat.le_of_ble_eq_true rfl) ?_
  refine g_putF (n := 32) (ad := va_up (va_up (va_up (va_up (va_up (va_up ad 26 q26) 27 q27) 28 q28) 29 q29) 30 q30) 31 q31) 25 5 (C := RX3) (T := TX3) (N := 7) (ci := 2) (ref := "CubeWorldsModel") (v := .ref q31) (ty := .array .int) hx hb hts (by decide +kernel) tyX3 tyX3_ok nmX3 hown hname hK hP (pic_D _ hD) hS (by decide) (by rfl) rfl (by decide) (by decide +kernel) rfl rfl rfl (by decide +kernel) rfl rfl (Nat.le_of_ble_eq_true rfl) dX3_init_49 (fun H locs hP hS => ?_)
  refine lv_aload_n hx hb dX3_init_52 rfl (lv_at hl 0 rfl) ?_
  refine lv_bipush (v := nI 8) hx hb dX3_init_53 (by decide) ?_
  refine g_newi (n := 32) 8 hI hx hb (hts (.arrayClass .int) (by decide +kernel)) hK hP (pic_D _ hD) hS hA (by decide) (Nat.le_of_ble_eq_true rfl) (Nat.le_of_ble_eq_true rfl) dX3_init_55 (fun q32 H hP hD hS => ?_)
  refine W.widen (k := 7) (n := 249) (Nat.le_of_ble_eq_true rfl) (Nat.le_of_ble_eq_true rfl) ?_
  refine g_putF (n := 33) (ad := va_up (va_up (va_up (va_up (va_up (va_up (va_up ad 26 q26) 27 q27) 28 q28) 29 q29) 30 q30) 31 q31) 32 q32) 25 6 (C := RX3) (T := TX3) (N := 7) (ci := 2) (ref := "CubeWorldsModel") (v := .ref q32) (ty := .array .int) hx hb hts (by decide +kernel) tyX3 tyX3_ok nmX3 hown hname hK hP (pic_D _ hD) hS (by decide) (by rfl) rfl (by decide) (by decide +kernel) rfl rfl rfl (by decide +kernel) rfl rfl (Nat.le_of_ble_eq_true rfl) dX3_init_57 (fun H locs hP hS => ?_)
  refine n_iconst 0 hx hb dX3_init_60 ?_
  refine lv_istore_n (lv' := [(1, .int (nI 0)), (0, .ref (ad 25))]) hx hb dX3_init_61 rfl hl (by decide) rfl (fun ls hl => ?_)
  refine lv_iload_n hx hb dX3_init_62 rfl (lv_at hl 0 rfl) ?_
  refine n_iconst 4 hx hb dX3_init_63 ?_
  refine n_ge (a := 0) (b := 4) (tgt := 90) hx hb dX3_init_64 (by decide) (by decide) (by decide) (fun h_70 => absurd h_70 (by decide)) (fun h_70 => ?_)
  refine lv_aload_n hx hb dX3_init_67 rfl (lv_at hl 1 rfl) ?_
  refine g_get (n := 33) (ad := va_up (va_up (va_up (va_up (va_up (va_up (va_up ad 26 q26) 27 q27) 28 q28) 29 q29) 30 q30) 31 q31) 32 q32) 25 0 (C := RX3) (T := TX3) (N := 7) (ci := 2) (ref := "CubeWorldsModel") hx hb hts (by decide +kernel) hown hK hP (by decide) (by rfl) rfl (by decide) (by decide +kernel) rfl rfl dX3_init_68 ?_
  refine lv_iload_n hx hb dX3_init_71 rfl (lv_at hl 0 rfl) ?_
  refine n_iconst 1 hx hb dX3_init_72 ?_
  refine g_iast (n := 33) (ad := va_up (va_up (va_up (va_up (va_up (va_up (va_up ad 26 q26) 27 q27) 28 q28) 29 q29) 30 q30) 31 q31) 32 q32) 26 0 1 hx hb hK hP (pic_D _ hD) hS (by decide) (by rfl) hI (by decide) (by decide) dX3_init_73 (fun H locs hP hS => ?_)
  refine lv_aload_n hx hb dX3_init_74 rfl (lv_at hl 1 rfl) ?_
  refine g_get (n := 33) (ad := va_up (va_up (va_up (va_up (va_up (va_up (va_up ad 26 q26) 27 q27) 28 q28) 29 q29) 30 q30) 31 q31) 32 q32) 25 1 (C := RX3) (T := TX3) (N := 7) (ci := 2) (ref := "CubeWorldsModel") hx hb hts (by decide +kernel) hown hK hP (by decide) (by rfl) rfl (by decide) (by decide +kernel) rfl rfl dX3_init_75 ?_
  refine lv_bipush (v := nI 16) hx hb dX3_init_78 (by decide) ?_
  refine lv_iload_n hx hb dX3_init_80 rfl (lv_at hl 0 rfl) ?_
  refine n_imul hx hb dX3_init_81 ?_
  refine n_iconst 1 hx hb dX3_init_82 ?_
  refine g_iast (n := 33) (ad := va_up (va_up (va_up (va_up (va_up (va_up (va_up ad 26 q26) 27 q27) 28 q28) 29 q29) 30 q30) 31 q31) 32 q32) 27 (16 * 0) 1 hx hb hK hP (pic_D _ hD) hS (by decide) (by rfl) hI (by decide) (by decide) dX3_init_83 (fun H locs hP hS => ?_)
  refine n_iinc 0 1 (lv' := [(1, .int (nI 1)), (0, .ref (ad 25))]) hx hb dX3_init_84 hl rfl (by decide) rfl (fun ls hl => ?_)
  refine n_goto 62 hx hb dX3_init_87 (by decide) ?_
  refine lv_iload_n hx hb dX3_init_62 rfl (lv_at hl 0 rfl) ?_
  refine n_iconst 4 hx hb dX3_init_63 ?_
  refine n_ge (a := 1) (b := 4) (tgt := 90) hx hb dX3_init_64 (by decide) (by decide) (by decide) (fun h_70 => absurd h_70 (by decide)) (fun h_70 => ?_)
  refine lv_aload_n hx hb dX3_init_67 rfl (lv_at hl 1 rfl) ?_
  refine g_get (n := 33) (ad := va_up (va_up (va_up (va_up (va_up (va_up (va_up ad 26 q26) 27 q27) 28 q28) 29 q29) 30 q30) 31 q31) 32 q32) 25 0 (C := RX3) (T := TX3) (N := 7) (ci := 2) (ref := "CubeWorldsModel") hx hb hts (by decide +kernel) hown hK hP (by decide) (by rfl) rfl (by decide) (by decide +kernel) rfl rfl dX3_init_68 ?_
  refine lv_iload_n hx hb dX3_init_71 rfl (lv_at hl 0 rfl) ?_
  refine n_iconst 1 hx hb dX3_init_72 ?_
  refine g_iast (n := 33) (ad := va_up (va_up (va_up (va_up (va_up (va_up (va_up ad 26 q26) 27 q27) 28 q28) 29 q29) 30 q30) 31 q31) 32 q32) 26 1 1 hx hb hK hP (pic_D _ hD) hS (by decide) (by rfl) hI (by decide) (by decide) dX3_init_73 (fun H locs hP hS => ?_)
  refine lv_aload_n hx hb dX3_init_74 rfl (lv_at hl 1 rfl) ?_
  refine g_get (n := 33) (ad := va_up (va_up (va_up (va_up (va_up (va_up (va_up ad 26 q26) 27 q27) 28 q28) 29 q29) 30 q30) 31 q31) 32 q32) 25 1 (C := RX3) (T := TX3) (N := 7) (ci := 2) (ref := "CubeWorldsModel") hx hb hts (by decide +kernel) hown hK hP (by decide) (by rfl) rfl (by decide) (by decide +kernel) rfl rfl dX3_init_75 ?_
  refine lv_bipush (v := nI 16) hx hb dX3_init_78 (by decide) ?_
  refine lv_iload_n hx hb dX3_init_80 rfl (lv_at hl 0 rfl) ?_
  refine n_imul hx hb dX3_init_81 ?_
  refine n_iconst 1 hx hb dX3_init_82 ?_
  refine g_iast (n := 33) (ad := va_up (va_up (va_up (va_up (va_up (va_up (va_up ad 26 q26) 27 q27) 28 q28) 29 q29) 30 q30) 31 q31) 32 q32) 27 (16 * 1) 1 hx hb hK hP (pic_D _ hD) hS (by decide) (by rfl) hI (by decide) (by decide) dX3_init_83 (fun H locs hP hS => ?_)
  refine n_iinc 0 1 (lv' := [(1, .int (nI 2)), (0, .ref (ad 25))]) hx hb dX3_init_84 hl rfl (by decide) rfl (fun ls hl => ?_)
  refine n_goto 62 hx hb dX3_init_87 (by decide) ?_
  refine lv_iload_n hx hb dX3_init_62 rfl (lv_at hl 0 rfl) ?_
  refine n_iconst 4 hx hb dX3_init_63 ?_
  refine n_ge (a := 2) (b := 4) (tgt := 90) hx hb dX3_init_64 (by decide) (by decide) (by decide) (fun h_70 => absurd h_70 (by decide)) (fun h_70 => ?_)
  refine lv_aload_n hx hb dX3_init_67 rfl (lv_at hl 1 rfl) ?_
  refine g_get (n := 33) (ad := va_up (va_up (va_up (va_up (va_up (va_up (va_up ad 26 q26) 27 q27) 28 q28) 29 q29) 30 q30) 31 q31) 32 q32) 25 0 (C := RX3) (T := TX3) (N := 7) (ci := 2) (ref := "CubeWorldsModel") hx hb hts (by decide +kernel) hown hK hP (by decide) (by rfl) rfl (by decide) (by decide +kernel) rfl rfl dX3_init_68 ?_
  refine lv_iload_n hx hb dX3_init_71 rfl (lv_at hl 0 rfl) ?_
  refine n_iconst 1 hx hb dX3_init_72 ?_
  refine g_iast (n := 33) (ad := va_up (va_up (va_up (va_up (va_up (va_up (va_up ad 26 q26) 27 q27) 28 q28) 29 q29) 30 q30) 31 q31) 32 q32) 26 2 1 hx hb hK hP (pic_D _ hD) hS (by decide) (by rfl) hI (by decide) (by decide) dX3_init_73 (fun H locs hP hS => ?_)
  refine lv_aload_n hx hb dX3_init_74 rfl (lv_at hl 1 rfl) ?_
  refine g_get (n := 33) (ad := va_up (va_up (va_up (va_up (va_up (va_up (va_up ad 26 q26) 27 q27) 28 q28) 29 q29) 30 q30) 31 q31) 32 q32) 25 1 (C := RX3) (T := TX3) (N := 7) (ci := 2) (ref := "CubeWorldsModel") hx hb hts (by decide +kernel) hown hK hP (by decide) (by rfl) rfl (by decide) (by decide +kernel) rfl rfl dX3_init_75 ?_
  refine lv_bipush (v := nI 16) hx hb dX3_init_78 (by decide) ?_
  refine lv_iload_n hx hb dX3_init_80 rfl (lv_at hl 0 rfl) ?_
  refine n_imul hx hb dX3_init_81 ?_
  refine n_iconst 1 hx hb dX3_init_82 ?_
  refine g_iast (n := 33) (ad := va_up (va_up (va_up (va_up (va_up (va_up (va_up ad 26 q26) 27 q27) 28 q28) 29 q29) 30 q30) 31 q31) 32 q32) 27 (16 * 2) 1 hx hb hK hP (pic_D _ hD) hS (by decide) (by rfl) hI (by decide) (by decide) dX3_init_83 (fun H locs hP hS => ?_)
  refine n_iinc 0 1 (lv' := [(1, .int (nI 3)), (0, .ref (ad 25))]) hx hb dX3_init_84 hl rfl (by decide) rfl (fun ls hl => ?_)
  refine n_goto 62 hx hb dX3_init_87 (by decide) ?_
  refine lv_iload_n hx hb dX3_init_62 rfl (lv_at hl 0 rfl) ?_
  refine n_iconst 4 hx hb dX3_init_63 ?_
  refine n_ge (a := 3) (b := 4) (tgt := 90) hx hb dX3_init_64 (by decide) (by decide) (by decide) (fun h_70 => absurd h_70 (by decide)) (fun h_70 => ?_)
  refine lv_aload_n hx hb dX3_init_67 rfl (lv_at hl 1 rfl) ?_
  refine g_get (n := 33) (ad := va_up (va_up (va_up (va_up (va_up (va_up (va_up ad 26 q26) 27 q27) 28 q28) 29 q29) 30 q30) 31 q31) 32 q32) 25 0 (C := RX3) (T := TX3) (N := 7) (ci := 2) (ref := "CubeWorldsModel") hx hb hts (by decide +kernel) hown hK hP (by decide) (by rfl) rfl (by decide) (by decide +kernel) rfl rfl dX3_init_68 ?_
  refine lv_iload_n hx hb dX3_init_71 rfl (lv_at hl 0 rfl) ?_
  refine n_iconst 1 hx hb dX3_init_72 ?_
  refine g_iast (n := 33) (ad := va_up (va_up (va_up (va_up (va_up (va_up (va_up ad 26 q26) 27 q27) 28 q28) 29 q29) 30 q30) 31 q31) 32 q32) 26 3 1 hx hb hK hP (pic_D _ hD) hS (by decide) (by rfl) hI (by decide) (by decide) dX3_init_73 (fun H locs hP hS => ?_)
  refine lv_aload_n hx hb dX3_init_74 rfl (lv_at hl 1 rfl) ?_
  refine g_get (n := 33) (ad := va_up (va_up (va_up (va_up (va_up (va_up (va_up ad 26 q26) 27 q27) 28 q28) 29 q29) 30 q30) 31 q31) 32 q32) 25 1 (C := RX3) (T := TX3) (N := 7) (ci := 2) (ref := "CubeWorldsModel") hx hb hts (by decide +kernel) hown hK hP (by decide) (by rfl) rfl (by decide) (by decide +kernel) rfl rfl dX3_init_75 ?_
  refine lv_bipush (v := nI 16) hx hb dX3_init_78 (by decide) ?_
  refine lv_iload_n hx hb dX3_init_80 rfl (lv_at hl 0 rfl) ?_
  refine n_imul hx hb dX3_init_81 ?_
  refine n_iconst 1 hx hb dX3_init_82 ?_
  refine g_iast (n := 33) (ad := va_up (va_up (va_up (va_up (va_up (va_up (va_up ad 26 q26) 27 q27) 28 q28) 29 q29) 30 q30) 31 q31) 32 q32) 27 (16 * 3) 1 hx hb hK hP (pic_D _ hD) hS (by decide) (by rfl) hI (by decide) (by decide) dX3_init_83 (fun H locs hP hS => ?_)
  refine n_iinc 0 1 (lv' := [(1, .int (nI 4)), (0, .ref (ad 25))]) hx hb dX3_init_84 hl rfl (by decide) rfl (fun ls hl => ?_)
  refine n_goto 62 hx hb dX3_init_87 (by decide) ?_
  refine lv_iload_n hx hb dX3_init_62 rfl (lv_at hl 0 rfl) ?_
  refine n_iconst 4 hx hb dX3_init_63 ?_
  refine n_ge (a := 4) (b := 4) (tgt := 90) hx hb dX3_init_64 (by decide) (by decide) (by decide) (fun h_70 => ?_) (fun h_70 => absurd h_70 (by decide))
  refine g_vretI hx hb hrt hlocks hS (fun t ht hW => ⟨va_up (va_up (va_up (va_up (va_up (va_up (va_up (ad) 26 q26) 27 q27) 28 q28) 29 q29) 30 q30) 31 q31) 32 q32, fun i hi => by rw [va_up_o (by omega), va_up_o (by omega), va_up_o (by omega), va_up_o (by omega), va_up_o (by omega), va_up_o (by omega), va_up_o (by omega)], ?_, hK.moved hW, pic_D _ hD⟩) dX3_init_90
  rw [ht]
  refine Eq.mp (congrArg (fun w => va_P D vwCl w H) (pic_ext (fun i hi => ?_))) hP
  rcases (show i < 25 ∨ i = 25 ∨ i = 26 ∨ i = 27 ∨ i = 28 ∨ i = 29 ∨ i = 30 ∨ i = 31 ∨ i = 32 by omega) with h | h | h | h | h | h | h | h | h
  · rw [show mE cI (va_up (va_up (va_up (va_up (va_up (va_up (va_up (ad) 26 q26) 27 q27) 28 q28) 29 q29) 30 q30) 31 q31) 32 q32) E i = E i from if_pos h]
    repeat rw [va_up_o (by omega)]
  · subst h; rfl
  · subst h; rfl
  · subst h; rfl
  · subst h; rfl
  · subst h; rfl
  · subst h; rfl
  · subst h; rfl
  · subst h; rfl
