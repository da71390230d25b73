/-! what is made: rows over pictures that grow -/
theorem pic_snoc {n : Nat} {ad : Nat → Nat} {E : Nat → va_E} {a : Nat} {e : va_E} : pic n ad E ++ [(a, e)] = pic (n + 1) (va_up ad n a) (va_up E n e) := by
  unfold pic
  rw [List.range_succ, List.map_append]
  congr 1
  · apply List.map_congr_left
    intro i hi
    have := List.mem_range.mp hi
    rw [va_up_o (by omega), va_up_o (by omega)]
  · show [(a, e)] = [(va_up ad n a n, va_up E n e n)]
    rw [va_up_at, va_up_at]
def PN (D : va_G) (tys : List (ClassId × FieldType)) (A : Nat → Prop) (X : State → Prop) (n : Nat) (ad : Nat → Nat) (E : Nat → va_E) : State → Prop := fun U => PW D tys A n ad E U ∧ (∀ q, U.heap.size ≤ q → A q) ∧ X U
theorem arr_int {D : va_G} {cl : List vw_C} {tys : List (ClassId × FieldType)} {s : State} {args : Array Value} (h : (Cond.arrayClass .int).before args s = true) (hK : va_K D cl tys s) : ∃ cI, va_K D cl (tys ++ [(cI, .int)]) s := by
  obtain ⟨c, k, comp, h1, h2, h3⟩ := Cond.arrayClass_spec h
  refine ⟨c, hK.1, fun i x hx => ?_⟩
  by_cases hl : i < tys.length
  · rw [List.getElem?_append_left hl] at hx
    exact hK.2 i x hx
  · rw [List.getElem?_append_right (by omega)] at hx
    have hz : i - tys.length < 1 := (List.getElem?_eq_some_iff.mp hx).1
    rw [show i - tys.length = 0 by omega] at hx
    cases hx
    exact ⟨fun n z => ⟨fun k h => (by cases h), k, h2, comp, h3⟩, h1⟩
section RWC
variable {p : Program} {l : Launch} {e : Env} {R : Room} {s : State} {m : MethodId} {args : Array Value} {below : List Frame} {meth : Method} {c : Code} {H : Heap} {locs : List Loc} {cells slots : Nat} {Q : State → Prop}
variable {cc : ByteArray} {pc : Nat} {ls : Array Slot} {rest : List Value} {D : va_G} {tys : List (ClassId × FieldType)} {n : Nat} {ad : Nat → Nat} {E : Nat → va_E} {A : Nat → Prop} {H0 : Heap}
theorem n_ref {x y : Nat} (h : x = y) (k : W p l e R s m args below meth c H locs cells slots Q (F0 m pc ls (.ref y :: rest))) : W p l e R s m args below meth c H locs cells slots Q (F0 m pc ls (.ref x :: rest)) := by rw [h]; exact k
theorem n_ref1 {x y : Nat} {v : Value} (h : x = y) (k : W p l e R s m args below meth c H locs cells slots Q (F0 m pc ls (v :: .ref y :: rest))) : W p l e R s m args below meth c H locs cells slots Q (F0 m pc ls (v :: .ref x :: rest)) := by rw [h]; exact k
theorem g_new {own C : String} {T : u_T} {N ci index : Nat} {Ts : List Cond} {fs : List Value} (hx : p.tables.exec = Jvm.exec) (hb : c.code = cc) (hts : ∀ w ∈ Ts, w.before args s = true) (hin : ∀ w ∈ u_ws C T N, w ∈ Ts) (ty : Nat → FieldType) (hty : ∀ k, k < N → parseFieldDescriptor (T k).2.2.1 = some (ty k)) (hown : s.vm.findClass own = some m.cls) (hcl : Cond.classLink own index C ∈ Ts) (hinst : Cond.instantiable C N ∈ Ts) (hini : Cond.initialized C ∈ Ts)
    (hK : KN D tys s) (hP : va_P D vwCl (pic n ad E) H) (hD : va_D A (pic n ad E)) (hS : va_S A H0 H locs) (hA : ∀ q, H0.size ≤ q → A q) (hc : vwCl[ci]? = some (C, T, N)) (hfs : ∀ j, j < N → defaultValue (ty j) = vp_V fs j) (hcells : cells + 1 ≤ R.cells) (hslots : slots + N ≤ R.slots) (hdg : decode cc pc = .ok (.new index, 3))
    (kk : ∀ (q : Nat) (H1 : Heap), va_P D vwCl (pic (n + 1) (va_up ad n q) (va_up E n (.inr (ci, fs)))) H1 → va_D A (pic (n + 1) (va_up ad n q) (va_up E n (.inr (ci, fs)))) → va_S A H0 H1 locs → W p l e R s m args below meth c H1 locs (cells + 1) (slots + N) Q (F0 m (pc + 3) ls (.ref q :: rest))) : W p l e R s m args below meth c H locs cells slots Q (F0 m pc ls rest) :=
  va_new (ci := ci) (fs := fs) hx hb hts hin ty hty hown (hts _ hcl) (hts _ hinst) (hts _ hini) hK.1 hP hD hS hA hc hfs hcells hslots hdg (fun q H1 hP1 hD1 hS1 => kk q H1 (by rw [← pic_snoc]; exact hP1) (by rw [← pic_snoc]; exact hD1) hS1)
theorem g_newi (N : Nat) {t0 : Nat} {cI : ClassId} (hI : tys[t0]? = some (cI, .int)) (hx : p.tables.exec = Jvm.exec) (hb : c.code = cc) (harr : (Cond.arrayClass .int).before args s = true) (hK : KN D tys s) (hP : va_P D vwCl (pic n ad E) H) (hD : va_D A (pic n ad E)) (hS : va_S A H0 H locs) (hA : ∀ q, H0.size ≤ q → A q) (hN : N < 1000) (hcells : cells + 1 ≤ R.cells) (hslots : slots + N ≤ R.slots) (hdg : decode cc pc = .ok (.newarray .int, 2))
    (kk : ∀ (q : Nat) (H1 : Heap), va_P D vwCl (pic (n + 1) (va_up ad n q) (va_up E n (.inl (cI, N, .inl (nF (fun _ => 0)))))) H1 → va_D A (pic (n + 1) (va_up ad n q) (va_up E n (.inl (cI, N, .inl (nF (fun _ => 0)))))) → va_S A H0 H1 locs → W p l e R s m args below meth c H1 locs (cells + 1) (slots + N) Q (F0 m (pc + 2) ls (.ref q :: rest))) : W p l e R s m args below meth c H locs cells slots Q (F0 m pc ls (.int (nI N) :: rest)) := by
  refine va_newa (atype := .int) (a0 := (N, .inl (nF (fun _ => 0)))) hx hb harr rfl hK.1 hP hD hS hA (fun cA => by rw [vp_cell_i]; rfl) (nI_pos (by omega)) (k_toNat (by omega)) (by show N * 4 ≤ _; omega) hcells hslots hdg (fun q cA H1 hK1 hP1 hD1 hS1 => ?_)
  have e : cA = cI := K_one hK1 (i := tys.length) (j := t0) (by rw [List.getElem?_append_right (Nat.le_refl _), Nat.sub_self]; rfl) (by rw [List.getElem?_append_left (List.getElem?_eq_some_iff.mp hI).1]; exact hI)
  subst e
  rw [pic_snoc] at hP1 hD1
  exact kk q H1 hP1 hD1 hS1
theorem g_putF (i k : Nat) {own ref C : String} {T : u_T} {N ci index : Nat} {Ts : List Cond} {fs : List Value} {v : Value} {ty : FieldType} (hx : p.tables.exec = Jvm.exec) (hb : c.code = cc) (hts : ∀ w ∈ Ts, w.before args s = true) (hin : ∀ w ∈ u_ws C T N, w ∈ Ts) (ty0 : Nat → FieldType) (hty : ∀ k, k < N → parseFieldDescriptor (T k).2.2.1 = some (ty0 k)) (hnm : ∀ a, a < N → ∀ b, b < N → a ≠ b → (T a).2.1 ≠ (T b).2.1) (hown : s.vm.findClass own = some m.cls) (hname : meth.name = "<init>") (hK : KN D tys s) (hP : va_P D vwCl (pic n ad E) H) (hD : va_D A (pic n ad E)) (hS : va_S A H0 H locs) (hi : i < n) (hE : E i = .inr (ci, fs)) (hc : vwCl[ci]? = some (C, T, N)) (hk : k < N) (hlink : Cond.fieldLink own index ref (T k).2.1 (T k).2.2.1 ∈ Ts) (hr : (T k).1 = ref) (hfin : (T k).2.2.2 = true) (hdecl : (T k).1 = own) (hd : parseFieldDescriptor (T k).2.2.1 = some ty) (hn : narrow ty v = v) (hfit : fits ty v = true) (hl : k < fs.length) (hdg : decode cc pc = .ok (.putfield index, 3))
    (kk : ∀ (H1 : Heap) (locs1 : List Loc), va_P D vwCl (pic n ad (va_up E i (.inr (ci, fs.set k v)))) H1 → va_S A H0 H1 locs1 → W p l e R s m args below meth c H1 locs1 cells slots Q (F0 m (pc + 3) ls rest)) : W p l e R s m args below meth c H locs cells slots Q (F0 m pc ls (v :: .ref (ad i) :: rest)) := by
  refine va_putF hx hb hts hin ty0 hty hnm hown hK.1 hP hD hS i (pic_get hi hE) hc k hk (hts _ hlink) (fun x h => by rw [← hr]; exact h) hfin hname hdecl hd hn hfit hl hdg (fun H1 locs1 hP1 _ hS1 => kk H1 locs1 ?_ hS1)
  rw [pic_set _ hi] at hP1
  exact hP1
theorem g_callI (i : Nat) {X : State → Prop} {y : MethodName} {bytes : ByteArray} {maxL nL index mc ms : Nat} {ws Ts : List Cond} {rm : Room} {own : String} {st0 : List Value} {B : State → Prop} (hM : Met l y ws rm (va_Pc [.ref (ad i)] (PN D tys A X n ad E)) (QW none B A) mc ms A) (cw : CallB R s args own index y bytes maxL none ws rm mc ms 0 ∧ y.name = "<init>" ∧ (Cond.instanceMethod y).before args s = true) (hx : p.tables.exec = Jvm.exec) (hb : c.code = cc) (hml : c.maxLocals = nL) (hown : s.vm.findClass own = some m.cls) (hts : ∀ w ∈ Ts, w.before args s = true) (hK : KN D tys s) (hP : va_P D vwCl (pic n ad E) H) (hD : va_D A (pic n ad E)) (hS : va_S A H0 H locs) (hA : ∀ q, H0.size ≤ q → A q) (hXb : ∀ (a : Array Value) (U : State) (g : JFrame) (mk : MethodId), X U → X (U.calling g mk a)) (hXm : ∀ U : State, s.WarmedH U.vm → X U)
    (hsize : ls.size = nL) (hst : st0 = .ref (ad i) :: rest) (hW : (rest.map fun v => v.category).sum ≤ 8) (hcl : cells + mc ≤ R.cells) (hsl : slots + ms ≤ R.slots) (hdg : decode cc pc = .ok (.invokespecial index, 3))
    (kk : ∀ (t : State) (H1 : Heap) (locs1 : List Loc), t.heap = H1 → s.vm.Alike t.vm → B t → va_S A H0 H1 locs1 → W p l e R s m args below meth c H1 locs1 (cells + mc) (slots + ms) Q (F0 m (pc + 3) ls rest)) : W p l e R s m args below meth c H locs cells slots Q (F0 m pc ls st0) :=
  g_after (va_runI (As := []) (rest := rest) ⟨hx, hb, hml, hown, hts⟩ hM cw ⟨fun a U g mk q => ⟨q.1, ⟨⟨q.2.1.1, q.2.1.2.1.call g mk a, q.2.1.2.2⟩, q.2.2.1, hXb a U g mk q.2.2.2⟩⟩, fun U hU hW => ⟨rfl, ⟨by rw [hU]; exact hP, hK.moved hW, hD⟩, by rw [hU]; exact fun q hq => hA q (Nat.le_trans hS.1 hq), hXm U hW⟩⟩ rfl rfl hsize hst (lv_room hW) hdg ⟨hcl, hsl⟩) hS kk
theorem g_vretI {B : State → Prop} {mc ms : Nat} (hx : p.tables.exec = Jvm.exec) (hb : c.code = cc) (hr : meth.sig.returnType = none) (hlocks : meth.locks = false) (hS : va_S A s.heap H locs) (hB : ∀ t : State, t.heap = H → s.WarmedH t.vm → B t) (hdg : decode cc pc = .ok (.return_, 1)) : W p l e R s m args below meth c H locs mc ms (MQ below (QW none B A) args s mc ms A) (F0 m pc ls []) :=
  W.vret hx hb hr (fun t ht hW => ⟨rfl, hB t ht hW, hS.F ht⟩) hS.2.2 hdg hlocks
end RWC
theorem g_init {l : Launch} {D : va_G} {tys : List (ClassId × FieldType)} {A : Nat → Prop} {X : State → Prop} {n : Nat} {ad : Nat → Nat} {E : Nat → va_E} {B' : State → Prop} {mc ms : Nat} {y : MethodName} {ws ws' : List Cond} {rm : Room} {cc : ByteArray} {maxL : Nat} {As : List Value} (hy : plainName y.cls = true) (hyn : y.name = "<init>") (hw : ws = Cond.code y cc maxL none :: ws') (hlen : (lg_sl As).length ≤ maxL)
    (body : ∀ p e s m args below meth c, p.tables.exec = Jvm.exec → c.code = cc → meth.sig.returnType = none → (∀ w ∈ ws, w.before args s = true) → s.vm.findClass y.cls = some m.cls → meth.locks = false → c.maxLocals = maxL → meth.name = "<init>" → va_P D vwCl (pic n ad E) s.heap → KN D tys s → va_D A (pic n ad E) → (∀ q, s.heap.size ≤ q → A q) → X s → va_S A s.heap s.heap [] → ∀ ls, lv_has ls maxL (lv_args 0 As) → W p l e (headSpec ws rm).room s m args below meth c s.heap [] 0 0 (MQ below (QW none B' A) args s mc ms A) (F0 m 0 ls [])) : Met l y ws rm (va_Pc As (PN D tys A X n ad E)) (QW none B' A) mc ms A := by
  refine Met.ofW (cc := cc) (maxL := maxL) (ret := none) hy hw ?_
  intro p e s m args below meth c s₁ B hml hv
  obtain ⟨rfl, ⟨hP, hK, hD⟩, hA, hX⟩ := hv
  rw [lg_entry_eq]
  exact body p e s m _ below meth c B.exec B.bytes B.returns (atoms_spec (ws := ws) B.pre) (findClass_of_methodNamed B.named) B.notSynchronized hml ((name_of_methodNamed B.named B.method).1.trans hyn) hP hK hD hA hX va_S.rf _ (lv_entry As hlen)

def wE3 (E : Nat → va_E) (b : Nat) (cI : ClassId) (q1 q2 : Nat) : Nat → va_E := va_up (va_up (va_up E b (.inr (0, [.int (nI 1), .int (nI (2 ^ 1)), .ref q1, .ref q2]))) (b + 1) (.inl (cI, 16, .inl (nF (va_up (fun _ => 0) (4 * 0 + 0) 1))))) (b + 2) (.inl (cI, 256, .inl (nF (pf 1 (va_up (fun _ => 0) (4 * 0 + 0) 1) (fun _ => 0) (2 ^ 1) 0))))
set_option maxHeartbeats 4000000 in
set_option maxRecDepth 100000 in
theorem c_X1_init (l : Launch) {D : va_G} {tys : List (ClassId × FieldType)} {A : Nat → Prop} {ad : Nat → Nat} {b : Nat} {E : Nat → va_E} {cI : ClassId} {t0 : Nat} (hI : tys[t0]? = some (cI, .int)) (hE : E b = .inr (0, [.int 0, .int 0, .null, .null])) : Met l yX1_init wsX1_init ({ frames := 5, cells := 2, slots := 272, locals := 113 } : Room) (va_Pc [.ref (ad b)] (PN D tys A (fun _ => True) (b + 1) ad E)) (QW none (fun t => ∃ q1 q2, PW D tys A (b + 3) (va_up (va_up ad (b + 1) q1) (b + 2) q2) (wE3 E b cI q1 q2) t) A) 2 272 A := by
  refine g_init (cc := cX1_init) (maxL := 1) (by decide) rfl rfl (Nat.le_of_ble_eq_true rfl) ?_
  intro p e s m args below meth c hx hb hrt hts hown hlocks hml hname hP hK hD hA hX hS ls hl
  show W p l e ({ frames := 5, cells := 2, slots := 272, locals := 113 } : Room) s m args below meth c s.heap [] 0 0 _ _
  have hl : lv_has ls 1 [(0, .ref (ad b))] := hl
  refine lv_aload_n hx hb dX1_init_0 rfl (lv_at hl 0 rfl) ?_
  refine W.objInit hx hb hown (hts (.methodLink RX1 3 objectInit) (by decide +kernel)) (hts (.instanceMethod objectInit) (by decide +kernel)) (hts (.code objectInit ⟨#[0xb1]⟩ 1 none) (List.mem_cons_of_mem _ (List.mem_append_left _ (List.mem_append_left _ (List.mem_of_getElem? (i := 2) rfl))))) rfl (by rw [hml]; exact hl.1) rfl dX1_init_1 (Nat.le_of_ble_eq_true rfl) (Nat.le_of_ble_eq_true rfl) ?_
  refine W.eq (g2 := F0 m 4 ls []) rfl ?_
  refine lv_aload_n hx hb dX1_init_4 rfl (lv_at hl 0 rfl) ?_
  refine n_iconst 1 hx hb dX1_init_5 ?_
  refine g_put b 0 (C := RX1) (T := TX1) (N := 4) (ci := 0) (ref := "CubeWorlds$World") (v := .int (nI 1)) (ty := .int) hx hb hts (by decide +kernel) tyX1 tyX1_ok nmX1 hown hK hP hD hS (by omega) hE rfl (by decide) (by decide +kernel) rfl rfl (by decide +kernel) rfl rfl (Nat.le_of_ble_eq_true rfl) dX1_init_6 (fun H locs hP hS => ?_)
  refine lv_aload_n hx hb dX1_init_9 rfl (lv_at hl 0 rfl) ?_
  refine n_iconst 2 hx hb dX1_init_10 ?_
  refine g_put b 1 (C := RX1) (T := TX1) (N := 4) (ci := 0) (ref := "CubeWorlds$World") (v := .int (nI 2)) (ty := .int) hx hb hts (by decide +kernel) tyX1 tyX1_ok nmX1 hown hK hP (pic_D _ hD) hS (by omega) (va_up_at _ _ _) rfl (by decide) (by decide +kernel) rfl rfl (by decide +kernel) rfl rfl (Nat.le_of_ble_eq_true rfl) dX1_init_11 (fun H locs hP hS => ?_)
  have hP : va_P D vwCl (pic (b + 1) ad (va_up E b (.inr (0, [.int (nI 1), .int (nI 2), .null, .null])))) H := by rw [va_up_up] at hP; exact hP
  have hD : va_D A (pic (b + 1) ad (va_up E b (.inr (0, [.int (nI 1), .int (nI 2), .null, .null])))) := pic_D _ hD
  refine lv_aload_n hx hb dX1_init_14 rfl (lv_at hl 0 rfl) ?_
  refine lv_bipush (v := nI 16) hx hb dX1_init_15 (by decide) ?_
  refine g_newi 16 hI hx hb (hts (.arrayClass .int) (by decide +kernel)) hK hP hD hS hA (by decide) (Nat.le_of_ble_eq_true rfl) (Nat.le_of_ble_eq_true rfl) dX1_init_17 (fun q1 H hP hD hS => ?_)
  refine W.widen (k := 1) (n := 16) (Nat.le_of_ble_eq_true rfl) (Nat.le_of_ble_eq_true rfl) ?_
  refine n_ref1 (show ad b = va_up ad (b + 1) q1 b from (va_up_o (by omega)).symm) ?_
  refine g_putF b 2 (C := RX1) (T := TX1) (N := 4) (ci := 0) (ref := "CubeWorlds$World") (v := .ref q1) (ty := .array .int) hx hb hts (by decide +kernel) tyX1 tyX1_ok nmX1 hown hname hK hP hD hS (by omega) (by rw [va_up_o (by omega), va_up_at]) rfl (by decide) (by decide +kernel) rfl rfl rfl (by decide +kernel) rfl rfl (Nat.le_of_ble_eq_true rfl) dX1_init_19 (fun H locs hP hS => ?_)
  refine lv_aload_n hx hb dX1_init_22 rfl (lv_at hl 0 rfl) ?_
  refine lv_sipush (v := nI 256) hx hb dX1_init_23 (by decide) ?_
  refine g_newi 256 hI hx hb (hts (.arrayClass .int) (by decide +kernel)) hK hP (pic_D _ hD) hS hA (by decide) (Nat.le_of_ble_eq_true rfl) (Nat.le_of_ble_eq_true rfl) dX1_init_26 (fun q2 H hP hD hS => ?_)
  refine W.widen (k := 2) (n := 272) (Nat.le_of_ble_eq_true rfl) (Nat.le_of_ble_eq_true rfl) ?_
  have e9 : ad b = va_up (va_up ad (b + 1) q1) (b + 1 + 1) q2 b := by rw [va_up_o (by omega), va_up_o (by omega)]
  refine n_ref1 e9 ?_
  refine g_putF b 3 (C := RX1) (T := TX1) (N := 4) (ci := 0) (ref := "CubeWorlds$World") (v := .ref q2) (ty := .array .int) hx hb hts (by decide +kernel) tyX1 tyX1_ok nmX1 hown hname hK hP hD hS (by omega) (by rw [va_up_o (by omega), va_up_at]) rfl (by decide) (by decide +kernel) rfl rfl rfl (by decide +kernel) rfl rfl (Nat.le_of_ble_eq_true rfl) dX1_init_28 (fun H locs hP hS => ?_)
  have hP : va_P D vwCl (pic (b + 3) (va_up (va_up ad (b + 1) q1) (b + 2) q2) (va_up (va_up (va_up E b (.inr (0, [.int (nI 1), .int (nI (2 ^ 1)), .ref q1, .ref q2]))) (b + 1) (.inl (cI, 16, .inl (nF (fun _ => 0))))) (b + 2) (.inl (cI, 256, .inl (nF (fun _ => 0)))))) H := by
    refine Eq.mp (congrArg (fun w => va_P D vwCl w H) (pic_ext (fun i hi => ?_))) hP
    rcases (show i < b ∨ i = b ∨ i = b + 1 ∨ i = b + 2 by omega) with h | h | h | h
    · rw [va_up_o (by omega), va_up_o (by omega), va_up_o (by omega), va_up_o (by omega), va_up_o (by omega), va_up_o (by omega), va_up_o (by omega), va_up_o (by omega)]
    · subst h
      rw [va_up_at, va_up_o (by omega), va_up_o (by omega), va_up_at]
      rfl
    · subst h
      rw [va_up_o (by omega), va_up_o (by omega), va_up_o (by omega), va_up_at, va_up_o (by omega), va_up_at]
    · subst h
      rw [va_up_o (by omega), va_up_at, va_up_at]
  have hD : va_D A (pic (b + 3) (va_up (va_up ad (b + 1) q1) (b + 2) q2) E) := pic_D E hD
  refine lv_aload_n hx hb dX1_init_31 rfl (lv_at hl 0 rfl) ?_
  refine n_iconst 0 hx hb dX1_init_32 ?_
  refine n_iconst 0 hx hb dX1_init_33 ?_
  refine n_iconst 1 hx hb dX1_init_34 ?_
  rw [e9]
  have f1 : va_up (va_up ad (b + 1) q1) (b + 2) q2 (b + 1) = q1 := by rw [va_up_o (by omega), va_up_at]
  have f2 : va_up (va_up ad (b + 1) q1) (b + 2) q2 (b + 2) = q2 := va_up_at _ _ _
  have hw : isW cI (va_up (va_up ad (b + 1) q1) (b + 2) q2) (va_up (va_up (va_up E b (.inr (0, [.int (nI 1), .int (nI (2 ^ 1)), .ref q1, .ref q2]))) (b + 1) (.inl (cI, 16, .inl (nF (fun _ => 0))))) (b + 2) (.inl (cI, 256, .inl (nF (fun _ => 0))))) b 1 (fun _ => 0) (fun _ => 0) := ⟨by rw [va_up_o (by omega), va_up_o (by omega), va_up_at, f1, f2], by rw [va_up_o (by omega), va_up_at], va_up_at _ _ _⟩
  refine g_callVW b (C := RX1) (T := TX1) (N := 4) (ci := 0) (As := [.int (nI 0), .int (nI 0), .int (nI 1)]) (rest := []) (c_X1_changeCell l hI (by omega) hw (I := 0) (J := 0) (V := 1) (by decide) (by decide) (by decide)) (cwV 3 hts gX1_init_X1_changeCell rfl rfl rfl (by decide +kernel) ⟨Nat.le_of_ble_eq_true rfl, Nat.le_of_ble_eq_true rfl⟩) hx hb hml hown hts hK hP (pic_D _ hD) hS (by omega) hw.1 rfl rfl hl.1 rfl (Nat.le_of_ble_eq_true rfl) (Nat.le_of_ble_eq_true rfl) (Nat.le_of_ble_eq_true rfl) dX1_init_35 (fun H locs hP hS => ?_)
  refine g_vretI hx hb hrt hlocks hS (fun t ht hW => ⟨q1, q2, ?_, hK.moved hW, pic_D _ hD⟩) dX1_init_38
  rw [ht]
  refine Eq.mp (congrArg (fun w => va_P D vwCl w H) (pic_ext (fun i hi => ?_))) hP
  unfold wE3
  rcases (show i < b ∨ i = b ∨ i = b + 1 ∨ i = b + 2 by omega) with h | h | h | h
  · rw [va_up_o (by omega), va_up_o (by omega), va_up_o (by omega), va_up_o (by omega), va_up_o (by omega), va_up_o (by omega), va_up_o (by omega), va_up_o (by omega)]
  · subst h
    rw [va_up_o (by omega), va_up_o (by omega), va_up_o (by omega), va_up_o (by omega), va_up_at, va_up_o (by omega), va_up_o (by omega), va_up_at]
  · subst h
    rw [va_up_o (by omega), va_up_at, va_up_o (by omega), va_up_at]
  · subst h
    rw [va_up_at, va_up_at]

