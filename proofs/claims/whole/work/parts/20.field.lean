/-! CubeWorlds.field: the static row FIELD_LESS that nobody writes -/
def flS (k : Nat) : Nat := if k = 2 then 7 else if k = 3 then 11 else if k = 4 then 19 else 0
def ZF (A : Nat → Prop) (tz : Nat) (U : State) : Prop := va_Z "CubeWorlds" "FIELD_LESS" "[I" (.ref tz) A U U.heap ∧ va_T .int tz 5 (fun j => .int (nI (flS j))) A U U.heap
theorem ZF.call {A : Nat → Prop} {tz : Nat} {U : State} (g : JFrame) (mk : MethodId) (a : Array Value) (h : ZF A tz U) : ZF A tz (U.calling g mk a) := ⟨va_Z.moved (u := U) (U := U.calling g mk a) (Vm.Alike.refl U.vm) h.1, va_T.moved (u := U) (U := U.calling g mk a) (Vm.Alike.refl U.vm) h.2⟩
theorem ZF.go {A : Nat → Prop} {tz : Nat} {s U : State} {H : Heap} {locs : List Loc} (h : ZF A tz s) (hW : s.WarmedH U.vm) (hS : va_S A s.heap H locs) (hU : U.heap = H) : ZF A tz U := by
  subst hU
  exact ⟨(va_Z.moved hW.alike h.1).kept (fun a h1 h2 => hS.2.1 a h1 h2), (va_T.moved hW.alike h.2).kept (fun a h1 h2 => hS.2.1 a h1 h2)⟩
def PBZ (D : va_G) (tys : List (ClassId × FieldType)) (A : Nat → Prop) (tz n : Nat) (ad : Nat → Nat) (E : Nat → va_E) : State → Prop := fun U => PB D tys n ad E U ∧ ZF A tz U
def PWZ (D : va_G) (tys : List (ClassId × FieldType)) (A : Nat → Prop) (tz n : Nat) (ad : Nat → Nat) (E : Nat → va_E) : State → Prop := fun U => PW D tys A n ad E U ∧ ZF A tz U
theorem PBZ_blind {D : va_G} {tys : List (ClassId × FieldType)} {A : Nat → Prop} {tz n : Nat} {ad : Nat → Nat} {E : Nat → va_E} {As : List Value} : FrameBlind (va_Pc As (PBZ D tys A tz n ad E)) := by
  intro a U g mk q
  obtain ⟨q0, ⟨qP, qK⟩, qZ⟩ := q
  exact ⟨q0, ⟨qP, qK.call g mk a⟩, qZ.call g mk a⟩
theorem PWZ_blind {D : va_G} {tys : List (ClassId × FieldType)} {A : Nat → Prop} {tz n : Nat} {ad : Nat → Nat} {E : Nat → va_E} {As : List Value} : FrameBlind (va_Pc As (PWZ D tys A tz n ad E)) := by
  intro a U g mk q
  obtain ⟨q0, ⟨qP, qK, qD⟩, qZ⟩ := q
  exact ⟨q0, ⟨qP, qK.call g mk a, qD⟩, qZ.call g mk a⟩
section RWZ
variable {p : Program} {l : Launch} {e : Env} {R : Room} {s : State} {m : MethodId} {args : Array Value} {below : List Frame} {meth : Method} {c : Code} {H : Heap} {locs : List Loc} {cells slots : Nat} {Q : State → Prop}
variable {cc : ByteArray} {pc : Nat} {ls : Array Slot} {rest : List Value} {D : va_G} {tys : List (ClassId × FieldType)} {n : Nat} {ad : Nat → Nat} {E : Nat → va_E} {A : Nat → Prop} {H0 : Heap} {tz : Nat}
theorem g_callSZ {y : MethodName} {bytes : ByteArray} {maxL nL k index : Nat} {ret : Option FieldType} {ws Ts : List Cond} {rm : Room} {own : String} {As st0 : List Value} {r : Value} (hM : Met l y ws rm (va_Pc As (PBZ D tys A tz n ad E)) (k2_QcV r) 0 0 (fun _ => False)) (cw : CallB R s args own index y bytes maxL ret ws rm 0 0 k ∧ (Cond.static y).before args s = true) (hx : p.tables.exec = Jvm.exec) (hb : c.code = cc) (hml : c.maxLocals = nL) (hown : s.vm.findClass own = some m.cls) (hts : ∀ w ∈ Ts, w.before args s = true) (hK : KN D tys s) (hP : va_P D vwCl (pic n ad E) H) (hZ : ZF A tz s) (hS : va_S A s.heap H locs)
    (hn : As.length = k) (hsize : ls.size = nL) (hst : st0 = As.reverse ++ rest) (hW : (rest.map fun v => v.category).sum ≤ 8) (hcl : cells ≤ R.cells) (hsl : slots ≤ R.slots) (hdg : decode cc pc = .ok (.invokestatic index, 3))
    (kk : W p l e R s m args below meth c H locs cells slots Q (F0 m (pc + 3) ls (r :: rest))) : W p l e R s m args below meth c H locs cells slots Q (F0 m pc ls st0) :=
  W.callV (W.runS (As := As) (rest := rest) ⟨hx, hb, hml, hown, hts⟩ hM cw ⟨PBZ_blind, fun U hU hW => ⟨rfl, ⟨by rw [hU]; exact hP, hK.moved hW⟩, hZ.go hW hS hU⟩⟩ rfl hn hsize hst (lv_room hW) hdg ⟨hcl, hsl⟩) kk
end RWZ
theorem g_pureZ {l : Launch} {D : va_G} {tys : List (ClassId × FieldType)} {A : Nat → Prop} {tz n : Nat} {ad : Nat → Nat} {E : Nat → va_E} {y : MethodName} {ws ws' : List Cond} {rm : Room} {cc : ByteArray} {maxL : Nat} {ret : Option FieldType} {As : List Value} {v : Value} (hy : plainName y.cls = true) (hw : ws = Cond.code y cc maxL ret :: ws') (hlen : (lg_sl As).length ≤ maxL)
    (body : ∀ p e s m args below meth c, p.tables.exec = Jvm.exec → c.code = cc → meth.sig.returnType = ret → (∀ w ∈ ws, w.before args s = true) → s.vm.findClass y.cls = some m.cls → meth.locks = false → c.maxLocals = maxL → va_P D vwCl (pic n ad E) s.heap → KN D tys s → ZF A tz s → ∀ ls, lv_has ls maxL (lv_args 0 As) → W p l e (headSpec ws rm).room s m args below meth c s.heap [] 0 0 (MQ below (k2_QcV v) args s 0 0 (fun _ => False)) (F0 m 0 ls [])) : Met l y ws rm (va_Pc As (PBZ D tys A tz n ad E)) (k2_QcV v) 0 0 (fun _ => False) := by
  refine Met.ofW (cc := cc) (maxL := maxL) (ret := ret) hy hw ?_
  intro p e s m args below meth c s₁ B hml hv
  obtain ⟨rfl, ⟨hP, hK⟩, hZ⟩ := hv
  rw [lg_entry_eq]
  exact body p e s m _ below meth c B.exec B.bytes B.returns (atoms_spec (ws := ws) B.pre) (findClass_of_methodNamed B.named) B.notSynchronized hml hP hK hZ _ (lv_entry As hlen)
theorem g_writesZ {l : Launch} {D : va_G} {tys : List (ClassId × FieldType)} {A : Nat → Prop} {tz n : Nat} {ad : Nat → Nat} {E E' : Nat → va_E} {y : MethodName} {ws ws' : List Cond} {rm : Room} {cc : ByteArray} {maxL : Nat} {ret : Option FieldType} {As : List Value} {v : Option Value} (hy : plainName y.cls = true) (hw : ws = Cond.code y cc maxL ret :: ws') (hlen : (lg_sl As).length ≤ maxL)
    (body : ∀ p e s m args below meth c, p.tables.exec = Jvm.exec → c.code = cc → meth.sig.returnType = ret → (∀ w ∈ ws, w.before args s = true) → s.vm.findClass y.cls = some m.cls → meth.locks = false → c.maxLocals = maxL → va_P D vwCl (pic n ad E) s.heap → KN D tys s → ZF A tz s → va_D A (pic n ad E) → va_S A s.heap s.heap [] → ∀ ls, lv_has ls maxL (lv_args 0 As) → W p l e (headSpec ws rm).room s m args below meth c s.heap [] 0 0 (MQ below (QW v (PW D tys A n ad E') A) args s 0 0 A) (F0 m 0 ls [])) : Met l y ws rm (va_Pc As (PWZ D tys A tz n ad E)) (QW v (PW D tys A n ad E') A) 0 0 A := by
  refine Met.ofW (cc := cc) (maxL := maxL) (ret := ret) hy hw ?_
  intro p e s m args below meth c s₁ B hml hv
  obtain ⟨rfl, ⟨hP, hK, hD⟩, hZ⟩ := hv
  rw [lg_entry_eq]
  exact body p e s m _ below meth c B.exec B.bytes B.returns (atoms_spec (ws := ws) B.pre) (findClass_of_methodNamed B.named) B.notSynchronized hml hP hK hZ hD va_S.rf _ (lv_entry As hlen)
def rdC (N v : Nat) : Nat → Nat
  | 0 => v
  | m + 1 => if (rdC N v m >>> (2 * N - 2 - m)) &&& 1 = 1 then rdC N v m ^^^ (flS N <<< (2 * N - 2 - m - N)) else rdC N v m
theorem rdC_y {N v m : Nat} (h : (rdC N v m >>> (2 * N - 2 - m)) &&& 1 = 1) : rdC N v (m + 1) = rdC N v m ^^^ (flS N <<< (2 * N - 2 - m - N)) := if_pos h
theorem rdC_n {N v m : Nat} (h : ¬ (rdC N v m >>> (2 * N - 2 - m)) &&& 1 = 1) : rdC N v (m + 1) = rdC N v m := if_neg h
theorem rdC_lt : ∀ N, N < 5 → 1 ≤ N → ∀ p, p < 7 → ∀ m, m < N → rdC N (1 <<< p) m < 128 := by decide +kernel
theorem rd_eq : ∀ N, N < 5 → 1 ≤ N → ∀ i, i < N → ∀ j, j < N → rdC N (1 <<< (i + j)) (N - 1) = fdV N i j := by decide +kernel
def nC_field (S : Nat → Nat → Nat) (a x : Int32) : Nat → Nat → Nat := rg 0 3 a S fun k => rg 1 4 x S fun N => newW S k N (fun i j => rdC N (1 <<< (i + j)) (N - 1))

set_option maxHeartbeats 4000000 in
set_option maxRecDepth 100000 in
theorem c_X2_reduced (l : Launch) {D : va_G} {tys : List (ClassId × FieldType)} {ad : Nat → Nat} {A : Nat → Prop} {tz : Nat} {n : Nat} {E : Nat → va_E} {P N : Nat} (hN1 : 1 ≤ N) (hN : N ≤ 4) (hP7 : P < 7) : Met l yX2_reduced wsX2_reduced ({ frames := 0, cells := 0, slots := 0, locals := 0 } : Room) (va_Pc [.int (nI (1 <<< P)), .int (nI (N))] (PBZ D tys A tz n ad (E))) (k2_QcV (.int (nI (rdC N (1 <<< P) (N - 1))))) 0 0 (fun _ => False) := by
  refine g_pureZ (cc := cX2_reduced) (maxL := 5) (ret := (some .int)) (by decide) rfl (Nat.le_of_ble_eq_true rfl) ?_
  intro p e s m args below meth c hx hb hrt hts hown hlocks hml hP hK hZ ls hl
  show W p l e ({ frames := 0, cells := 0, slots := 0, locals := 0 } : Room) s m args below meth c s.heap [] 0 0 _ _
  have hl : lv_has ls 5 [(0, .int (nI (1 <<< P))), (1, .int (nI (N)))] := hl
  refine lv_iload_n hx hb dX2_reduced_0 rfl (lv_at hl 1 rfl) ?_
  refine n_z_lt (tgt := 20) hx hb dX2_reduced_1 (by decide) (by omega) ?_
  refine lv_iload_n hx hb dX2_reduced_4 rfl (lv_at hl 1 rfl) ?_
  refine va_gets hx hb hZ.1 va_S.rf hown (hts _ (by decide +kernel)) (fun x h => h) dX2_reduced_5 ?_
  refine va_tlen (N := 5) (v := nI 5) hx hb hZ.2 va_S.rf rfl dX2_reduced_8 ?_
  refine n_ge (tgt := 20) hx hb dX2_reduced_9 (by decide) (by omega) (by omega) (fun h_9 => ?_) (fun h_9 => ?_)
  · exact absurd h_9 (by omega)
  · refine va_gets hx hb hZ.1 va_S.rf hown (hts _ (by decide +kernel)) (fun x h => h) dX2_reduced_12 ?_
    refine lv_iload_n hx hb dX2_reduced_15 rfl (lv_at hl 1 rfl) ?_
    refine va_ti (N := 5) hx hb hZ.2 va_S.rf (vp_in_nI (by omega) (by decide)) (v := .int (nI (flS N))) (by rw [k_toNat (by omega)]) dX2_reduced_16 ?_
    refine n_goto 21 hx hb dX2_reduced_17 (by decide) ?_
    refine lv_istore_n (lv' := [(2, .int (nI (flS N))), (0, .int (nI (1 <<< P))), (1, .int (nI (N)))]) hx hb dX2_reduced_21 rfl hl (by decide) rfl (fun ls hl => ?_)
    refine lv_iload_n hx hb dX2_reduced_22 rfl (lv_at hl 1 rfl) ?_
    refine lv_istore_n (lv' := [(3, .int (nI (1 <<< P))), (2, .int (nI (flS N))), (0, .int (nI (1 <<< P))), (1, .int (nI (N)))]) hx hb dX2_reduced_23 rfl hl (by decide) rfl (fun ls hl => ?_)
    refine n_iconst 2 hx hb dX2_reduced_24 ?_
    refine lv_iload_n hx hb dX2_reduced_25 rfl (lv_at hl 3 rfl) ?_
    refine n_imul hx hb dX2_reduced_26 ?_
    refine n_iconst 2 hx hb dX2_reduced_27 ?_
    refine n_isub hx hb dX2_reduced_28 (by omega) ?_
    refine lv_istore (lv' := [(4, .int (nI ((2 * N) - 2))), (3, .int (nI (1 <<< P))), (2, .int (nI (flS N))), (0, .int (nI (1 <<< P))), (1, .int (nI (N)))]) hx hb dX2_reduced_29 hl (by decide) rfl (fun ls hl => ?_)
    have L_31 : ∀ (r : Nat) (w : Nat) (q : Nat), (q ≤ 2 * N - 2) → (N ≤ q + 1) → (q + 1 < N + r) → (w = rdC N (1 <<< P) (2 * N - 2 - q)) → ∀ (ls : Array Slot), lv_has ls 5 [(0, .int (nI (1 <<< P))), (1, .int (nI (N))), (2, .int (nI (flS N))), (3, .int (nI (w))), (4, .int (nI (q)))] → W p l e ({ frames := 0, cells := 0, slots := 0, locals := 0 } : Room) s m args below meth c s.heap [] 0 0 (MQ below (k2_QcV (.int (nI (rdC N (1 <<< P) (N - 1))))) args s 0 0 (fun _ => False)) (F0 m 31 ls []) := by
      intro r
      induction r with
      | zero => intro w q hq hq2 hr hw; intros; exact absurd hr (by omega)
      | succ r ih =>
        intro w q hq hq2 hr hw ls hl
        have ih_31 := ih
        refine lv_iload hx hb dX2_reduced_31 (lv_at hl 4 rfl) ?_
        refine lv_iload_n hx hb dX2_reduced_33 rfl (lv_at hl 1 rfl) ?_
        refine n_lt (tgt := 62) hx hb dX2_reduced_34 (by decide) (by omega) (by omega) (fun h_34 => ?_) (fun h_34 => ?_)
        · refine lv_iload_n hx hb dX2_reduced_62 rfl (lv_at hl 3 rfl) ?_
          exact g_iret hx hb hrt hlocks dX2_reduced_63 (by rw [hw, show 2 * N - 2 - q = N - 1 by omega])
        · have w1 : w < 128 := by rw [hw]; exact rdC_lt N (by omega) hN1 P hP7 (2 * N - 2 - q) (by omega)
          refine lv_iload_n hx hb dX2_reduced_37 rfl (lv_at hl 3 rfl) ?_
          refine lv_iload hx hb dX2_reduced_38 (lv_at hl 4 rfl) ?_
          refine n_ishr hx hb dX2_reduced_40 (by omega) (by omega) ?_
          refine n_iconst 1 hx hb dX2_reduced_41 ?_
          refine n_iand hx hb dX2_reduced_42 ?_
          refine n_iconst 1 hx hb dX2_reduced_43 ?_
          refine n_cne (tgt := 56) hx hb dX2_reduced_44 (by decide) (and1_lt _) (by decide) (fun h_44 => ?_) (fun h_44 => ?_)
          · refine n_idec 4 (lv' := [(4, .int (nI (q - 1))), (0, .int (nI (1 <<< P))), (1, .int (nI (N))), (2, .int (nI (flS N))), (3, .int (nI (w)))]) hx hb dX2_reduced_56 hl rfl (by omega) (by decide) rfl (fun ls hl => ?_)
            refine n_goto 31 hx hb dX2_reduced_59 (by decide) ?_
            exact ih_31 (w) (q - 1) (by omega) (by omega) (by omega) (by rw [show 2 * N - 2 - (q - 1) = (2 * N - 2 - q) + 1 by omega, rdC_n (by rw [← hw, show 2 * N - 2 - (2 * N - 2 - q) = q by omega]; exact h_44)]; exact hw) _ (lv_sub hl [1, 2, 3, 4, 0] rfl)
          · refine lv_iload_n hx hb dX2_reduced_47 rfl (lv_at hl 3 rfl) ?_
            refine lv_iload_n hx hb dX2_reduced_48 rfl (lv_at hl 2 rfl) ?_
            refine lv_iload hx hb dX2_reduced_49 (lv_at hl 4 rfl) ?_
            refine lv_iload_n hx hb dX2_reduced_51 rfl (lv_at hl 1 rfl) ?_
            refine n_isub hx hb dX2_reduced_52 (by omega) ?_
            refine n_ishl hx hb dX2_reduced_53 (by omega) ?_
            refine n_ixor hx hb dX2_reduced_54 ?_
            refine lv_istore_n (lv' := [(3, .int (nI (w ^^^ ((flS N) <<< (q - N))))), (0, .int (nI (1 <<< P))), (1, .int (nI (N))), (2, .int (nI (flS N))), (4, .int (nI (q)))]) hx hb dX2_reduced_55 rfl hl (by decide) rfl (fun ls hl => ?_)
            refine n_idec 4 (lv' := [(4, .int (nI (q - 1))), (3, .int (nI (w ^^^ ((flS N) <<< (q - N))))), (0, .int (nI (1 <<< P))), (1, .int (nI (N))), (2, .int (nI (flS N)))]) hx hb dX2_reduced_56 hl rfl (by omega) (by decide) rfl (fun ls hl => ?_)
            refine n_goto 31 hx hb dX2_reduced_59 (by decide) ?_
            exact ih_31 (w ^^^ ((flS N) <<< (q - N))) (q - 1) (by omega) (by omega) (by omega) (by rw [show 2 * N - 2 - (q - 1) = (2 * N - 2 - q) + 1 by omega, rdC_y (by rw [← hw, show 2 * N - 2 - (2 * N - 2 - q) = q by omega]; exact h_44), ← hw, show 2 * N - 2 - (2 * N - 2 - q) = q by omega]) _ (lv_sub hl [2, 3, 4, 1, 0] rfl)
    exact L_31 (2 * N) (1 <<< P) ((2 * N) - 2) (Nat.le_refl _) (by omega) (by omega) (by rw [Nat.sub_self]; rfl) _ (lv_sub hl [3, 4, 2, 1, 0] rfl)
set_option maxHeartbeats 4000000 in
set_option maxRecDepth 100000 in
theorem c_X2_field (l : Launch) {D : va_G} {tys : List (ClassId × FieldType)} {A : Nat → Prop} {ad : Nat → Nat} {cI cW cM : ClassId} {tI tW tM : Nat} {S : Nat → Nat → Nat} (hI : tys[tI]? = some (cI, .int)) (hWt : tys[tW]? = some (cW, .object "CubeWorlds$World")) (hMt : tys[tM]? = some (cM, .array .int)) (hWF : WF S) {tz : Nat} {a x : Int32} : Met l yX2_field wsX2_field ({ frames := 5, cells := 0, slots := 0, locals := 113 } : Room) (va_Pc [.ref (ad (0)), .int (a), .int (x)] (PWZ D tys A tz 33 ad (gE cI cW cM ad S))) (QW (some (.int (sC_world a x))) (PW D tys A 33 ad (gE cI cW cM ad (nC_field S a x))) A) 0 0 A := by
  refine g_writesZ (cc := cX2_field) (maxL := 6) (ret := (some .int)) (by decide) rfl (Nat.le_of_ble_eq_true rfl) ?_
  intro p e s m args below meth c hx hb hrt hts hown hlocks hml hP hK hZ hD hS ls hl
  show W p l e ({ frames := 5, cells := 0, slots := 0, locals := 113 } : Room) s m args below meth c s.heap [] 0 0 _ _
  have hl : lv_has ls 6 [(0, .ref (ad (0))), (1, .int (a)), (2, .int (x))] := hl
  refine lv_aload_n hx hb dX2_field_0 rfl (lv_at hl 0 rfl) ?_
  refine lv_iload_n hx hb dX2_field_1 rfl (lv_at hl 1 rfl) ?_
  cases hs_2 : rB 0 3 a with
  | false =>
    refine g_callV (0) (C := RX2) (T := TX2) (N := 7) (ci := 1) (As := [.int (a)]) (rest := []) (c_X2_worldIn_n l hI hWt hMt hWF hs_2) (cwV 1 hts gX2_field_X2_worldIn rfl rfl rfl (by decide +kernel) ⟨Nat.le_of_ble_eq_true rfl, Nat.le_of_ble_eq_true rfl⟩) hx hb hml hown hts hK hP  (by decide) rfl rfl rfl hl.1 rfl (Nat.le_of_ble_eq_true rfl) (Nat.zero_le _) (Nat.zero_le _) dX2_field_2 ?_
    refine lv_astore_nN (lv' := [(3, .null), (0, .ref (ad (0))), (1, .int (a)), (2, .int (x))]) hx hb dX2_field_5 rfl hl (by decide) rfl (fun ls hl => ?_)
    refine lv_aload_nN hx hb dX2_field_6 rfl (lv_at hl 0 rfl) ?_
    refine lv_ifnonnullN hx hb dX2_field_7 ?_
    refine lv_iconst (v := (-1)) hx hb dX2_field_10 (by decide) ?_
    have hP : va_P D vwCl (pic 33 ad (gE cI cW cM ad (nC_field S a x))) s.heap := by rw [show nC_field S a x = S from by unfold nC_field; (try dsimp only [cN, cC, cM_]); rw [rg_n hs_2]]; exact hP
    exact g_iretW hx hb hrt hlocks hK hP (pic_D _ hD) hS dX2_field_11 (by unfold sC_world; (try dsimp only [cN, cC, cM_]); rw [rg_n hs_2])
  | true =>
    obtain ⟨k, hk1, hk2, e9⟩ := rB_some (by omega) (by omega) hs_2
    subst e9
    have hk9 : k < 4 := by omega
    have qk1 := (hWF.2.1 k hk9).1
    have qk2 := pow4 qk1.2.1
    have qk3 : 0 < 2 ^ S (13 + 3 * k) 0 := Nat.pow_pos (by decide)
    have qk4 := sq4 qk2
    refine g_callV (0) (C := RX2) (T := TX2) (N := 7) (ci := 1) (As := [.int (nI (k))]) (rest := []) (c_X2_worldIn_y l hI hWt hMt hWF (k := k) (by omega)) (cwV 1 hts gX2_field_X2_worldIn rfl rfl rfl (by decide +kernel) ⟨Nat.le_of_ble_eq_true rfl, Nat.le_of_ble_eq_true rfl⟩) hx hb hml hown hts hK hP  (by decide) rfl rfl rfl hl.1 rfl (Nat.le_of_ble_eq_true rfl) (Nat.zero_le _) (Nat.zero_le _) dX2_field_2 ?_
    refine lv_astore_n (lv' := [(3, .ref (ad (13 + 3 * k))), (0, .ref (ad (0))), (1, .int (nI (k))), (2, .int (x))]) hx hb dX2_field_5 rfl hl (by decide) rfl (fun ls hl => ?_)
    refine lv_aload_n hx hb dX2_field_6 rfl (lv_at hl 0 rfl) ?_
    refine lv_ifnonnull (tgt := 12) hx hb dX2_field_7 (by decide) ?_
    refine lv_iload_n hx hb dX2_field_12 rfl (lv_at hl 3 rfl) ?_
    refine g_callS (As := [.int (x)]) (rest := []) (c_X2_isSomeN l hI (x := x)) (va_cwS 1 hts gX2_field_X2_isSomeN rfl rfl rfl (by decide +kernel) ⟨Nat.le_of_ble_eq_true rfl, Nat.le_of_ble_eq_true rfl⟩) hx hb hml hown hts hK hP  rfl hl.1 rfl (Nat.le_of_ble_eq_true rfl) (Nat.zero_le _) (Nat.zero_le _) dX2_field_13 ?_
    refine n_ifne_b (tgt := 22) hx hb dX2_field_16 (by decide) (fun h_16 => ?_) (fun h_16 => ?_)
    · obtain ⟨N, hN1, hN2, e9⟩ := rB_some (by omega) (by omega) h_16
      subst e9
      have hP : va_P D vwCl (pic 33 ad (gE cI cW cM ad (va_up S 9 (cf (N) (fun i j => rdC N (1 <<< (i + j)) (N - 1)) (S 9) 0 0)))) s.heap := by rw [cf_00, va_up_same rfl]; exact hP
      refine n_iconst 0 hx hb dX2_field_22 ?_
      refine lv_istore (lv' := [(4, .int (nI (0))), (3, .ref (ad (13 + 3 * k))), (0, .ref (ad (0))), (1, .int (nI (k))), (2, .int (nI (N)))]) hx hb dX2_field_23 hl (by decide) rfl (fun ls hl => ?_)
      have L_25 : ∀ (r : Nat) (i : Nat), (i ≤ N) → (N < i + r) → ∀ (H : Heap) (locs : List Loc), va_P D vwCl (pic 33 ad (gE cI cW cM ad (va_up S 9 (cf (N) (fun i j => rdC N (1 <<< (i + j)) (N - 1)) (S 9) i 0)))) H → va_S A s.heap H locs → ∀ (ls : Array Slot), lv_has ls 6 [(0, .ref (ad (0))), (1, .int (nI (k))), (2, .int (nI (N))), (3, .ref (ad (13 + 3 * k))), (4, .int (nI (i)))] → W p l e ({ frames := 5, cells := 0, slots := 0, locals := 113 } : Room) s m args below meth c H locs 0 0 (MQ below (QW (some (.int (sC_world ((nI k)) ((nI N))))) (PW D tys A 33 ad (gE cI cW cM ad (nC_field S ((nI k)) ((nI N))))) A) args s 0 0 A) (F0 m 25 ls []) := by
        intro r
        induction r with
        | zero => intro i hi hr; intros; exact absurd hr (by omega)
        | succ r ih =>
          intro i hi hr H locs hP hS ls hl
          have ih_25 := ih
          refine lv_iload hx hb dX2_field_25 (lv_at hl 4 rfl) ?_
          refine lv_iload_n hx hb dX2_field_27 rfl (lv_at hl 2 rfl) ?_
          refine n_ge (tgt := 75) hx hb dX2_field_28 (by decide) (by omega) (by omega) (fun h_28 => ?_) (fun h_28 => ?_)
          · rw [show i = N by omega] at hP
            refine lv_aload_n hx hb dX2_field_75 rfl (lv_at hl 3 rfl) ?_
            refine lv_iload_n hx hb dX2_field_76 rfl (lv_at hl 2 rfl) ?_
            refine lv_aload_n hx hb dX2_field_77 rfl (lv_at hl 0 rfl) ?_
            refine g_get (0) 3 (C := RX2) (T := TX2) (N := 7) (ci := 1) (ref := "CubeWorlds") hx hb hts (by decide +kernel) hown hK hP (by decide) rfl rfl (by decide) (by decide +kernel) rfl rfl dX2_field_78 ?_
            refine g_callVW (13 + 3 * k) (C := RX1) (T := TX1) (N := 4) (ci := 0) (As := [.int (nI (N)), .ref (ad (9))]) (rest := []) (c_X1_take l hI (by omega) (gE_WS (S' := va_up S 9 (cf (N) (fun i j => rdC N (1 <<< (i + j)) (N - 1)) (S 9) N 0)) hk9 (hWF.2.1 k hk9) (by repeat rw [va_up_o (by omega)]) (by repeat rw [va_up_o (by omega)]) (by repeat rw [va_up_o (by omega)])) (K := N) (cx := 9) (e0 := cf (N) (fun i j => rdC N (1 <<< (i + j)) (N - 1)) (S 9) (N) 0) (by omega) (by decide) (by omega) (gIX 9 16 rfl (by decide) (va_up_at _ _ _))) (cwV 2 hts gX2_field_X1_take rfl rfl rfl (by decide +kernel) ⟨Nat.le_of_ble_eq_true rfl, Nat.le_of_ble_eq_true rfl⟩) hx hb hml hown hts hK hP (pic_D _ hD) hS  (by omega) (gE_obj (isO_w hk9)) rfl rfl hl.1 rfl (Nat.le_of_ble_eq_true rfl) (Nat.zero_le _) (Nat.zero_le _) dX2_field_81 (fun H locs hP hS => ?_)
            refine lv_aload_n hx hb dX2_field_84 rfl (lv_at hl 3 rfl) ?_
            refine g_callV (13 + 3 * k) (C := RX1) (T := TX1) (N := 4) (ci := 0) (As := []) (rest := []) (c_X1_size l hI (by omega) isW.up12) (cwV 0 hts gX2_field_X1_size rfl rfl rfl (by decide +kernel) ⟨Nat.le_of_ble_eq_true rfl, Nat.le_of_ble_eq_true rfl⟩) hx hb hml hown hts hK hP  (by omega) isW.up12.1 rfl rfl hl.1 rfl (Nat.le_of_ble_eq_true rfl) (Nat.zero_le _) (Nat.zero_le _) dX2_field_85 ?_
            have hP : va_P D vwCl (pic 33 ad (gE cI cW cM ad (nC_field S ((nI k)) ((nI N))))) H := by rw [show nC_field S ((nI k)) ((nI N)) = newW S k (N) (fun i j => rdC N (1 <<< (i + j)) (N - 1)) from by unfold nC_field; (try dsimp only [cN, cC, cM_]); rw [rg_y (by omega) (by omega) (by omega), rg_y (by omega) (by omega) (by omega)]]; unfold newW; rw [← gE_take (isO_w hk9) (ln_c hk9) (ln_t hk9), va_up_o (show 13 + 3 * k + 1 ≠ 9 by omega), va_up_o (show 13 + 3 * k + 2 ≠ 9 by omega)]; exact hP
            exact g_iretW hx hb hrt hlocks hK hP (pic_D _ hD) hS dX2_field_88 (by unfold sC_world; (try dsimp only [cN, cC, cM_]); rw [rg_y (by omega) (by omega) (by omega), rg_y (by omega) (by omega) (by omega)])
          · refine n_iconst 0 hx hb dX2_field_31 ?_
            refine lv_istore (lv' := [(5, .int (nI (0))), (0, .ref (ad (0))), (1, .int (nI (k))), (2, .int (nI (N))), (3, .ref (ad (13 + 3 * k))), (4, .int (nI (i)))]) hx hb dX2_field_32 hl (by decide) rfl (fun ls hl => ?_)
            have L_34 : ∀ (r : Nat) (j : Nat), (j ≤ N) → (N < j + r) → ∀ (H : Heap) (locs : List Loc), va_P D vwCl (pic 33 ad (gE cI cW cM ad (va_up S 9 (cf (N) (fun i j => rdC N (1 <<< (i + j)) (N - 1)) (S 9) i j)))) H → va_S A s.heap H locs → ∀ (ls : Array Slot), lv_has ls 6 [(0, .ref (ad (0))), (1, .int (nI (k))), (2, .int (nI (N))), (3, .ref (ad (13 + 3 * k))), (4, .int (nI (i))), (5, .int (nI (j)))] → W p l e ({ frames := 5, cells := 0, slots := 0, locals := 113 } : Room) s m args below meth c H locs 0 0 (MQ below (QW (some (.int (sC_world ((nI k)) ((nI N))))) (PW D tys A 33 ad (gE cI cW cM ad (nC_field S ((nI k)) ((nI N))))) A) args s 0 0 A) (F0 m 34 ls []) := by
              intro r
              induction r with
              | zero => intro j hj hr2; intros; exact absurd hr2 (by omega)
              | succ r ih =>
                intro j hj hr2 H locs hP hS ls hl
                have ih_34 := ih
                refine lv_iload hx hb dX2_field_34 (lv_at hl 5 rfl) ?_
                refine lv_iload_n hx hb dX2_field_36 rfl (lv_at hl 2 rfl) ?_
                refine n_ge (tgt := 69) hx hb dX2_field_37 (by decide) (by omega) (by omega) (fun h_37 => ?_) (fun h_37 => ?_)
                · rw [show j = N by omega, cf_row] at hP
                  refine n_iinc 4 1 (lv' := [(4, .int (nI (i + 1))), (0, .ref (ad (0))), (1, .int (nI (k))), (2, .int (nI (N))), (3, .ref (ad (13 + 3 * k))), (5, .int (nI (j)))]) hx hb dX2_field_69 hl rfl (by decide) rfl (fun ls hl => ?_)
                  refine n_goto 25 hx hb dX2_field_72 (by decide) ?_
                  exact ih_25 (i + 1) (by omega) (by omega) _ _ hP hS _ (lv_sub hl [1, 2, 3, 4, 0] rfl)
                · refine lv_aload_n hx hb dX2_field_40 rfl (lv_at hl 0 rfl) ?_
                  refine g_get (0) 3 (C := RX2) (T := TX2) (N := 7) (ci := 1) (ref := "CubeWorlds") hx hb hts (by decide +kernel) hown hK hP (by decide) rfl rfl (by decide) (by decide +kernel) rfl rfl dX2_field_41 ?_
                  refine lv_iload hx hb dX2_field_44 (lv_at hl 4 rfl) ?_
                  refine lv_iload hx hb dX2_field_46 (lv_at hl 5 rfl) ?_
                  refine g_callS (As := [.int (nI (i)), .int (nI (j))]) (rest := [.ref (ad (9))]) (c_X2_cellIndex l hI (by omega) (gE_WS (S' := va_up S 9 (cf (N) (fun i j => rdC N (1 <<< (i + j)) (N - 1)) (S 9) i j)) hk9 (hWF.2.1 k hk9) (by repeat rw [va_up_o (by omega)]) (by repeat rw [va_up_o (by omega)]) (by repeat rw [va_up_o (by omega)])) (I := i) (J := j) (by omega) (by omega)) (va_cwS 2 hts gX2_field_X2_cellIndex rfl rfl rfl (by decide +kernel) ⟨Nat.le_of_ble_eq_true rfl, Nat.le_of_ble_eq_true rfl⟩) hx hb hml hown hts hK hP  rfl hl.1 rfl (Nat.le_of_ble_eq_true rfl) (Nat.zero_le _) (Nat.zero_le _) dX2_field_48 ?_
                  refine n_iconst 1 hx hb dX2_field_51 ?_
                  refine lv_iload hx hb dX2_field_52 (lv_at hl 4 rfl) ?_
                  refine lv_iload hx hb dX2_field_54 (lv_at hl 5 rfl) ?_
                  refine n_iadd hx hb dX2_field_56 ?_
                  refine n_ishl hx hb dX2_field_57 (by omega) ?_
                  refine lv_iload_n hx hb dX2_field_58 rfl (lv_at hl 2 rfl) ?_
                  refine g_callSZ (As := [.int (nI (1 <<< (i + j))), .int (nI (N))]) (rest := [.int (nI (4 * i + j)), .ref (ad (9))]) (c_X2_reduced l (P := i + j) (N := N) (by omega) (by omega) (by omega)) (va_cwS 2 hts gX2_field_X2_reduced rfl rfl rfl (by decide +kernel) ⟨Nat.le_of_ble_eq_true rfl, Nat.le_of_ble_eq_true rfl⟩) hx hb hml hown hts hK hP hZ hS  rfl hl.1 rfl (Nat.le_of_ble_eq_true rfl) (Nat.zero_le _) (Nat.zero_le _) dX2_field_59 ?_
                  refine g_iast (9) (4 * i + j) (rdC N (1 <<< (i + j)) (N - 1)) hx hb hK hP (pic_D _ hD) hS (by decide) (gIX (S' := va_up S 9 (cf (N) (fun i j => rdC N (1 <<< (i + j)) (N - 1)) (S 9) i j)) 9 16 rfl (by decide) (by exact va_up_at _ _ _)) hI (by omega) (by decide) dX2_field_62 (fun H locs hP hS => ?_)
                  rw [gE_upL 9 16 rfl (by decide), va_up_up, cf_put (by omega) (by omega)] at hP
                  refine n_iinc 5 1 (lv' := [(5, .int (nI (j + 1))), (0, .ref (ad (0))), (1, .int (nI (k))), (2, .int (nI (N))), (3, .ref (ad (13 + 3 * k))), (4, .int (nI (i)))]) hx hb dX2_field_63 hl rfl (by decide) rfl (fun ls hl => ?_)
                  refine n_goto 34 hx hb dX2_field_66 (by decide) ?_
                  exact ih_34 (j + 1) (by omega) (by omega) _ _ hP hS _ (lv_sub hl [1, 2, 3, 4, 5, 0] rfl)
            exact L_34 (N + 1) (0) (Nat.zero_le _) (by omega) _ _ hP hS _ (lv_sub hl [1, 2, 3, 4, 5, 0] rfl)
      exact L_25 (N + 1) (0) (Nat.zero_le _) (by omega) _ _ hP hS _ (lv_sub hl [2, 3, 4, 1, 0] rfl)
    · refine lv_bipush (v := (-2)) hx hb dX2_field_19 (by decide) ?_
      have hP : va_P D vwCl (pic 33 ad (gE cI cW cM ad (nC_field S ((nI k)) x))) s.heap := by rw [show nC_field S ((nI k)) x = S from by unfold nC_field; (try dsimp only [cN, cC, cM_]); rw [rg_y (by omega) (by omega) (by omega), rg_n h_16]]; exact hP
      exact g_iretW hx hb hrt hlocks hK hP (pic_D _ hD) hS dX2_field_21 (by unfold sC_world; (try dsimp only [cN, cC, cM_]); rw [rg_y (by omega) (by omega) (by omega), rg_n h_16])
