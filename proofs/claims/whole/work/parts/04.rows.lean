/-! rows over pictures -/
section RWB
variable {p : Program} {l : Launch} {e : Env} {R : Room} {s : State} {m : MethodId} {args : Array Value} {below : List Frame} {meth : Method} {c : Code} {H : Heap} {locs : List Loc} {cells slots : Nat} {Q : State → Prop}
variable {cc : ByteArray} {pc : Nat} {ls : Array Slot} {rest : List Value} {D : va_G} {tys : List (ClassId × FieldType)} {n : Nat} {ad : Nat → Nat} {E : Nat → va_E} {A : Nat → Prop} {H0 : Heap}
/-- a field of the cell i -/
theorem g_get (i k : Nat) {own ref C : String} {T : u_T} {N ci index : Nat} {Ts : List Cond} {fs : List Value} {v : Value} (hx : p.tables.exec = Jvm.exec) (hb : c.code = cc) (hts : ∀ w ∈ Ts, w.before args s = true) (hin : ∀ w ∈ u_ws C T N, w ∈ Ts) (hown : s.vm.findClass own = some m.cls) (hK : KN D tys s) (hP : va_P D vwCl (pic n ad E) H) (hi : i < n) (hE : E i = .inr (ci, fs)) (hc : vwCl[ci]? = some (C, T, N)) (hk : k < N) (hlink : Cond.fieldLink own index ref (T k).2.1 (T k).2.2.1 ∈ Ts) (hr : (T k).1 = ref) (hv : fs[k]? = some v) (hdg : decode cc pc = .ok (.getfield index, 3))
    (kk : W p l e R s m args below meth c H locs cells slots Q (F0 m (pc + 3) ls (v :: rest))) : W p l e R s m args below meth c H locs cells slots Q (F0 m pc ls (.ref (ad i) :: rest)) :=
  va_get hx hb hts hin hown hK.1 hP i (pic_get hi hE) hc k hk (hts _ hlink) (fun x h => by rw [← hr]; exact h) hv hdg kk
/-- a place of the int array that the cell i is -/
theorem g_iald (i j : Nat) {t0 : Nat} {cA : ClassId} {len : Nat} {f : Nat → Nat} (hx : p.tables.exec = Jvm.exec) (hb : c.code = cc) (hK : KN D tys s) (hP : va_P D vwCl (pic n ad E) H) (hi : i < n) (hE : E i = .inl (cA, len, .inl (nF f))) (ht : tys[t0]? = some (cA, .int)) (hj : j < len) (hlen : len < 2 ^ 31) (hdg : decode cc pc = .ok (.iaload, 1))
    (kk : W p l e R s m args below meth c H locs cells slots Q (F0 m (pc + 1) ls (.int (nI (f j)) :: rest))) : W p l e R s m args below meth c H locs cells slots Q (F0 m pc ls (.int (nI j) :: .ref (ad i) :: rest)) := by
  refine va_iald hx hb hK.1 hP i t0 (pic_get hi hE) ht (vp_in_nI hj hlen) hdg ?_
  rw [k_toNat (Nat.lt_trans hj hlen)]
  exact kk
theorem g_alen (i : Nat) {t0 : Nat} {cA : ClassId} {x : vp_A} {ty : FieldType} (hx : p.tables.exec = Jvm.exec) (hb : c.code = cc) (hK : KN D tys s) (hP : va_P D vwCl (pic n ad E) H) (hi : i < n) (hE : E i = .inl (cA, x)) (ht : tys[t0]? = some (cA, ty)) (hdg : decode cc pc = .ok (.arraylength, 1))
    (kk : W p l e R s m args below meth c H locs cells slots Q (F0 m (pc + 1) ls (.int (nI x.1) :: rest))) : W p l e R s m args below meth c H locs cells slots Q (F0 m pc ls (.ref (ad i) :: rest)) :=
  va_alen hx hb hK.1 hP i t0 (pic_get hi hE) ht rfl hdg kk
theorem g_aald (i j : Nat) {t0 : Nat} {cA : ClassId} {C : String} {len a : Nat} {f : Nat → Option Nat} (hx : p.tables.exec = Jvm.exec) (hb : c.code = cc) (hK : KN D tys s) (hP : va_P D vwCl (pic n ad E) H) (hi : i < n) (hE : E i = .inl (cA, len, .inr (.inr (.inr (.inr f))))) (ht : tys[t0]? = some (cA, .object C)) (hj : j < len) (hlen : len < 2 ^ 31) (hf : f j = some a) (hdg : decode cc pc = .ok (.aaload, 1))
    (kk : W p l e R s m args below meth c H locs cells slots Q (F0 m (pc + 1) ls (.ref a :: rest))) : W p l e R s m args below meth c H locs cells slots Q (F0 m pc ls (.int (nI j) :: .ref (ad i) :: rest)) := by
  refine va_aldq hx hb hK.1 hP i t0 (pic_get hi hE) ht (vp_in_nI hj hlen) hdg ?_
  rw [k_toNat (Nat.lt_trans hj hlen), hf]
  exact kk
/-- a place of the int array i gets a number -/
theorem g_iast (i j v : Nat) {t0 : Nat} {cA : ClassId} {len : Nat} {f : Nat → Nat} (hx : p.tables.exec = Jvm.exec) (hb : c.code = cc) (hK : KN D tys s) (hP : va_P D vwCl (pic n ad E) H) (hD : va_D A (pic n ad E)) (hS : va_S A H0 H locs) (hi : i < n) (hE : E i = .inl (cA, len, .inl (nF f))) (ht : tys[t0]? = some (cA, .int)) (hj : j < len) (hlen : len < 2 ^ 31) (hdg : decode cc pc = .ok (.iastore, 1))
    (kk : ∀ (H1 : Heap) (locs1 : List Loc), va_P D vwCl (pic n ad (va_up E i (.inl (cA, len, .inl (nF (va_up f j v)))))) H1 → va_S A H0 H1 locs1 → W p l e R s m args below meth c H1 locs1 cells slots Q (F0 m (pc + 1) ls rest)) : W p l e R s m args below meth c H locs cells slots Q (F0 m pc ls (.int (nI v) :: .int (nI j) :: .ref (ad i) :: rest)) := by
  refine va_iast hx hb hK.1 hP hD hS i t0 (pic_get hi hE) ht (vp_in_nI hj hlen) hdg (fun H1 locs1 hP1 _ hS1 => kk H1 locs1 ?_ hS1)
  rw [pic_set _ hi, k_toNat (Nat.lt_trans hj hlen)] at hP1
  have e : upd (nF f) j (nI v) = nF (va_up f j v) := by
    funext q
    unfold upd nF va_up
    by_cases hq : q = j
    · rw [if_pos hq, if_pos hq]
    · rw [if_neg hq, if_neg hq]
  rw [e] at hP1
  exact hP1
/-- a field of the object i, not final, gets a value -/
theorem g_put (i k : Nat) {own ref C : String} {T : u_T} {N ci index : Nat} {Ts : List Cond} {fs : List Value} {v : Value} {ty : FieldType} (hx : p.tables.exec = Jvm.exec) (hb : c.code = cc) (hts : ∀ w ∈ Ts, w.before args s = true) (hin : ∀ w ∈ u_ws C T N, w ∈ Ts) (ty0 : Nat → FieldType) (hty : ∀ k, k < N → parseFieldDescriptor (T k).2.2.1 = some (ty0 k)) (hnm : ∀ a, a < N → ∀ b, b < N → a ≠ b → (T a).2.1 ≠ (T b).2.1) (hown : s.vm.findClass own = some m.cls) (hK : KN D tys s) (hP : va_P D vwCl (pic n ad E) H) (hD : va_D A (pic n ad E)) (hS : va_S A H0 H locs) (hi : i < n) (hE : E i = .inr (ci, fs)) (hc : vwCl[ci]? = some (C, T, N)) (hk : k < N) (hlink : Cond.fieldLink own index ref (T k).2.1 (T k).2.2.1 ∈ Ts) (hr : (T k).1 = ref) (hfin : (T k).2.2.2 = false) (hd : parseFieldDescriptor (T k).2.2.1 = some ty) (hn : narrow ty v = v) (hfit : fits ty v = true) (hl : k < fs.length) (hdg : decode cc pc = .ok (.putfield index, 3))
    (kk : ∀ (H1 : Heap) (locs1 : List Loc), va_P D vwCl (pic n ad (va_up E i (.inr (ci, fs.set k v)))) H1 → va_S A H0 H1 locs1 → W p l e R s m args below meth c H1 locs1 cells slots Q (F0 m (pc + 3) ls rest)) : W p l e R s m args below meth c H locs cells slots Q (F0 m pc ls (v :: .ref (ad i) :: rest)) := by
  refine va_put hx hb hts hin ty0 hty hnm hown hK.1 hP hD hS i (pic_get hi hE) hc k hk (hts _ hlink) (fun x h => by rw [← hr]; exact h) hfin hd hn hfit hl hdg (fun H1 locs1 hP1 _ hS1 => kk H1 locs1 ?_ hS1)
  rw [pic_set _ hi] at hP1
  exact hP1
/-- the receiver -/
theorem g_recv {i ci : Nat} {C : String} {T : u_T} {N : Nat} {fs : List Value} (hK : KN D tys s) (hP : va_P D vwCl (pic n ad E) H) (hi : i < n) (hE : E i = .inr (ci, fs)) (hc : vwCl[ci]? = some (C, T, N)) : ∃ cell : Cell, H[ad i]? = some cell ∧ cell.vm.isStatics = false ∧ s.vm.findClass C = some cell.cls := va_recv (q := (C, T, N)) hK.1 hP hc (pic_get hi hE)
/-- a call of a method of an object that reads alone -/
theorem g_callV (i : Nat) {y : MethodName} {bytes : ByteArray} {maxL nL k index ci N : Nat} {ret : Option FieldType} {ws Ts : List Cond} {rm : Room} {own C : String} {T : u_T} {fs As st0 : List Value} {r : Value} (hM : Met l y ws rm (va_Pc (.ref (ad i) :: As) (PB D tys n ad E)) (k2_QcV r) 0 0 (fun _ => False)) (cw : CallW R s args own C index y bytes maxL ret ws rm 0 0 k) (hx : p.tables.exec = Jvm.exec) (hb : c.code = cc) (hml : c.maxLocals = nL) (hown : s.vm.findClass own = some m.cls) (hts : ∀ w ∈ Ts, w.before args s = true) (hK : KN D tys s) (hP : va_P D vwCl (pic n ad E) H) (hi : i < n) (hE : E i = .inr (ci, fs)) (hc : vwCl[ci]? = some (C, T, N))
    (hn : As.length = k) (hsize : ls.size = nL) (hst : st0 = As.reverse ++ .ref (ad i) :: rest) (hW : (rest.map fun v => v.category).sum ≤ 8) (hcl : cells ≤ R.cells) (hsl : slots ≤ R.slots) (hdg : decode cc pc = .ok (.invokevirtual index, 3))
    (kk : W p l e R s m args below meth c H locs cells slots Q (F0 m (pc + 3) ls (r :: rest))) : W p l e R s m args below meth c H locs cells slots Q (F0 m pc ls st0) :=
  W.callV (W.runV (As := As) (rest := rest) ⟨hx, hb, hml, hown, hts⟩ hM cw ⟨PB_blind, g_recv hK hP hi hE hc, fun U hU hW => ⟨rfl, by rw [hU]; exact hP, hK.moved hW⟩⟩ rfl hn hsize hst (lv_room hW) hdg ⟨hcl, hsl⟩) kk
/-- a call of a static method that reads alone -/
theorem g_callS {y : MethodName} {bytes : ByteArray} {maxL nL k index : Nat} {ret : Option FieldType} {ws Ts : List Cond} {rm : Room} {own : String} {As st0 : List Value} {r : Value} (hM : Met l y ws rm (va_Pc As (PB D tys n ad E)) (k2_QcV r) 0 0 (fun _ => False)) (cw : CallB R s args own index y bytes maxL ret ws rm 0 0 k ∧ (Cond.static y).before args s = true) (hx : p.tables.exec = Jvm.exec) (hb : c.code = cc) (hml : c.maxLocals = nL) (hown : s.vm.findClass own = some m.cls) (hts : ∀ w ∈ Ts, w.before args s = true) (hK : KN D tys s) (hP : va_P D vwCl (pic n ad E) H)
    (hn : As.length = k) (hsize : ls.size = nL) (hst : st0 = As.reverse ++ rest) (hW : (rest.map fun v => v.category).sum ≤ 8) (hcl : cells ≤ R.cells) (hsl : slots ≤ R.slots) (hdg : decode cc pc = .ok (.invokestatic index, 3))
    (kk : W p l e R s m args below meth c H locs cells slots Q (F0 m (pc + 3) ls (r :: rest))) : W p l e R s m args below meth c H locs cells slots Q (F0 m pc ls st0) :=
  W.callV (W.runS (As := As) (rest := rest) ⟨hx, hb, hml, hown, hts⟩ hM cw ⟨PB_blind, fun U hU hW => ⟨rfl, by rw [hU]; exact hP, hK.moved hW⟩⟩ rfl hn hsize hst (lv_room hW) hdg ⟨hcl, hsl⟩) kk
/-- the call of cellIndex from World -/
theorem g_callSN {y : MethodName} {bytes : ByteArray} {maxL nL k index : Nat} {ret : Option FieldType} {ws ws' Ts : List Cond} {rm : Room} {own host : String} {As st0 : List Value} {r : Value} (hM : Met l y ws rm (va_Pc As (PB D tys n ad E)) (k2_QcV r) 0 0 (fun _ => False)) (hG : GoodIn Ts ws) (hws : ws = Cond.code y bytes maxL ret :: ws') (hrc : rm.cells = 0) (hrs : rm.slots = 0) (hl : va_Nw (.methodLinkNest own index y host) s) (hini : Cond.initialized y.cls ∈ Ts) (hsta : Cond.static y ∈ Ts) (hd : y.cls ≠ "java/lang/invoke/MethodHandle" ∧ y.cls ≠ "java/lang/invoke/VarHandle" ∧ (parseMethodDescriptor y.desc).map (fun d => d.parameters.length) = some k) (hR : rm.frames + 1 ≤ R.frames ∧ 8 + (maxL + 11) + rm.locals ≤ R.locals) (hx : p.tables.exec = Jvm.exec) (hb : c.code = cc) (hml : c.maxLocals = nL) (hown : s.vm.findClass own = some m.cls) (hts : ∀ w ∈ Ts, w.before args s = true) (hK : KN D tys s) (hP : va_P D vwCl (pic n ad E) H)
    (hn : As.length = k) (hsize : ls.size = nL) (hst : st0 = As.reverse ++ rest) (hW : (rest.map fun v => v.category).sum ≤ 8) (hcl : cells ≤ R.cells) (hsl : slots ≤ R.slots) (hdg : decode cc pc = .ok (.invokestatic index, 3))
    (kk : W p l e R s m args below meth c H locs cells slots Q (F0 m (pc + 3) ls (r :: rest))) : W p l e R s m args below meth c H locs cells slots Q (F0 m pc ls st0) :=
  W.callV (va_Run.run (va_runSN (As := As) (rest := rest) ⟨hx, hb, hml, hown, hts⟩ hM ⟨va_cnB k hts hG hws hrc hrs hl (hts _ hini) hd hR, hts _ hsta, trivial⟩ ⟨PB_blind, fun U hU hW => ⟨rfl, by rw [hU]; exact hP, hK.moved hW⟩⟩ rfl hn hsize hst (lv_room hW) hdg ⟨hcl, hsl⟩)) kk
/-- behind a call of a method that writes -/
theorem g_after {mc ms : Nat} {st0 : List Value} {v : Option Value} {B : State → Prop} {a : Array Value} (hr : va_Run p l e R s m args below meth c H locs cells slots mc ms (F0 m pc ls st0) rest (QW v B A a) A) (hS : va_S A H0 H locs)
    (kk : ∀ (t : State) (H1 : Heap) (locs1 : List Loc), t.heap = H1 → s.vm.Alike t.vm → B t → va_S A H0 H1 locs1 → W p l e R s m args below meth c H1 locs1 (cells + mc) (slots + ms) Q (F0 m (pc + 3) ls (v.toList ++ rest))) : W p l e R s m args below meth c H locs cells slots Q (F0 m pc ls st0) := by
  intro T hT X
  obtain ⟨v', st₀, t, T', L, h0, X', hL, e1, e2, ⟨hv, hb, hz, hk⟩, st⟩ := hr T hT X
  cases hv
  rw [h0] at hz hk
  obtain ⟨t2, a1, b1⟩ := kk t T'.heap (locs ++ L) e1.symm (by rw [← e2]; exact X'.warmed.alike) hb
    ⟨Nat.le_trans hS.1 (by rw [e1]; exact hz), fun q h1 h2 => by rw [e1, hk q (Nat.lt_of_lt_of_le h1 hS.1) h2]; exact hS.2.1 q h1 h2, fun q hq => by
      rcases List.mem_append.mp hq with h | h
      · exact hS.2.2 q h
      · exact hL q h⟩ T' rfl X'
  exact ⟨t2, st t2 a1, b1⟩
/-- a call of a method of an object that writes -/
theorem g_callVW (i : Nat) {y : MethodName} {bytes : ByteArray} {maxL nL k index ci N : Nat} {ret : Option FieldType} {ws Ts : List Cond} {rm : Room} {own C : String} {T : u_T} {fs As st0 : List Value} {v : Option Value} {E' : Nat → va_E} (hM : Met l y ws rm (va_Pc (.ref (ad i) :: As) (PW D tys A n ad E)) (QW v (PW D tys A n ad E') A) 0 0 A) (cw : CallW R s args own C index y bytes maxL ret ws rm 0 0 k) (hx : p.tables.exec = Jvm.exec) (hb : c.code = cc) (hml : c.maxLocals = nL) (hown : s.vm.findClass own = some m.cls) (hts : ∀ w ∈ Ts, w.before args s = true) (hK : KN D tys s) (hP : va_P D vwCl (pic n ad E) H) (hD : va_D A (pic n ad E)) (hS : va_S A H0 H locs) (hi : i < n) (hE : E i = .inr (ci, fs)) (hc : vwCl[ci]? = some (C, T, N))
    (hn : As.length = k) (hsize : ls.size = nL) (hst : st0 = As.reverse ++ .ref (ad i) :: rest) (hW : (rest.map fun v => v.category).sum ≤ 8) (hcl : cells ≤ R.cells) (hsl : slots ≤ R.slots) (hdg : decode cc pc = .ok (.invokevirtual index, 3))
    (kk : ∀ (H1 : Heap) (locs1 : List Loc), va_P D vwCl (pic n ad E') H1 → va_S A H0 H1 locs1 → W p l e R s m args below meth c H1 locs1 cells slots Q (F0 m (pc + 3) ls (v.toList ++ rest))) : W p l e R s m args below meth c H locs cells slots Q (F0 m pc ls st0) :=
  g_after (va_runV (As := As) (rest := rest) ⟨hx, hb, hml, hown, hts⟩ hM cw ⟨PW_blind, g_recv hK hP hi hE hc, fun U hU hW => ⟨rfl, by rw [hU]; exact hP, hK.moved hW, hD⟩⟩ rfl hn hsize hst (lv_room hW) hdg ⟨hcl, hsl⟩) hS (fun t H1 locs1 ht _ hB hS1 => kk H1 locs1 (by rw [← ht]; exact hB.1) hS1)
theorem g_callSW {y : MethodName} {bytes : ByteArray} {maxL nL k index : Nat} {ret : Option FieldType} {ws Ts : List Cond} {rm : Room} {own : String} {As st0 : List Value} {v : Option Value} {E' : Nat → va_E} (hM : Met l y ws rm (va_Pc As (PW D tys A n ad E)) (QW v (PW D tys A n ad E') A) 0 0 A) (cw : CallB R s args own index y bytes maxL ret ws rm 0 0 k ∧ (Cond.static y).before args s = true) (hx : p.tables.exec = Jvm.exec) (hb : c.code = cc) (hml : c.maxLocals = nL) (hown : s.vm.findClass own = some m.cls) (hts : ∀ w ∈ Ts, w.before args s = true) (hK : KN D tys s) (hP : va_P D vwCl (pic n ad E) H) (hD : va_D A (pic n ad E)) (hS : va_S A H0 H locs)
    (hn : As.length = k) (hsize : ls.size = nL) (hst : st0 = As.reverse ++ rest) (hW : (rest.map fun v => v.category).sum ≤ 8) (hcl : cells ≤ R.cells) (hsl : slots ≤ R.slots) (hdg : decode cc pc = .ok (.invokestatic index, 3))
    (kk : ∀ (H1 : Heap) (locs1 : List Loc), va_P D vwCl (pic n ad E') H1 → va_S A H0 H1 locs1 → W p l e R s m args below meth c H1 locs1 cells slots Q (F0 m (pc + 3) ls (v.toList ++ rest))) : W p l e R s m args below meth c H locs cells slots Q (F0 m pc ls st0) :=
  g_after (va_runS (As := As) (rest := rest) ⟨hx, hb, hml, hown, hts⟩ hM cw ⟨PW_blind, fun U hU hW => ⟨rfl, by rw [hU]; exact hP, hK.moved hW, hD⟩⟩ rfl hn hsize hst (lv_room hW) hdg ⟨hcl, hsl⟩) hS (fun t H1 locs1 ht _ hB hS1 => kk H1 locs1 (by rw [← ht]; exact hB.1) hS1)
/-- ends -/
theorem g_iret {v : Value} {i : Int32} (hx : p.tables.exec = Jvm.exec) (hb : c.code = cc) (hr : meth.sig.returnType = some .int) (hlocks : meth.locks = false) (hdg : decode cc pc = .ok (.ireturn, 1)) (hv : v = .int i) : W p l e R s m args below meth c s.heap [] 0 0 (MQ below (k2_QcV v) args s 0 0 (fun _ => False)) (F0 m pc ls [.int i]) :=
  W.iret (v := i) hx hb hr (fun t ht _ => ⟨by rw [hv], ht⟩) (fun q h => by cases h) hdg hlocks
theorem narrow_b (b : Bool) : narrow .boolean (.int (bI b)) = .int (bI b) := by cases b <;> rfl
theorem g_zret {v : Value} (b : Bool) (hx : p.tables.exec = Jvm.exec) (hb : c.code = cc) (hr : meth.sig.returnType = some .boolean) (hlocks : meth.locks = false) (hdg : decode cc pc = .ok (.ireturn, 1)) {i : Int32} (hi : i = bI b) (hv : v = .int (bI b)) : W p l e R s m args below meth c s.heap [] 0 0 (MQ below (k2_QcV v) args s 0 0 (fun _ => False)) (F0 m pc ls [.int i]) := by
  subst hi
  exact W.zret (v := bI b) hx hb hr (narrow_b b) (fun t ht _ => ⟨by rw [hv], ht⟩) (fun q h => by cases h) hdg hlocks
theorem g_aret {v w : Value} {rt : FieldType} (hx : p.tables.exec = Jvm.exec) (hb : c.code = cc) (hr : meth.sig.returnType = some rt) (hrt : (∃ n, rt = .object n) ∨ ∃ t, rt = .array t) (hlocks : meth.locks = false) (hdg : decode cc pc = .ok (.areturn, 1)) (hw : w = .null ∨ ∃ a, w = .ref a) (hv : v = w) : W p l e R s m args below meth c s.heap [] 0 0 (MQ below (k2_QcV v) args s 0 0 (fun _ => False)) (F0 m pc ls [w]) :=
  W.aret hx hb hr hrt hw (fun t ht _ => ⟨by rw [hv], ht⟩) (fun q h => by cases h) hdg hlocks
theorem g_iretW {v : Value} {i : Int32} (hx : p.tables.exec = Jvm.exec) (hb : c.code = cc) (hr : meth.sig.returnType = some .int) (hlocks : meth.locks = false) (hK : KN D tys s) (hP : va_P D vwCl (pic n ad E) H) (hD : va_D A (pic n ad E)) (hS : va_S A s.heap H locs) (hdg : decode cc pc = .ok (.ireturn, 1)) (hv : v = .int i) : W p l e R s m args below meth c H locs 0 0 (MQ below (QW (some v) (PW D tys A n ad E) A) args s 0 0 A) (F0 m pc ls [.int i]) :=
  W.iret (v := i) hx hb hr (fun t ht hW => ⟨by rw [hv], ⟨by rw [ht]; exact hP, hK.moved hW, hD⟩, hS.F ht⟩) hS.2.2 hdg hlocks
theorem g_zretW {v : Value} (b : Bool) {i : Int32} (hx : p.tables.exec = Jvm.exec) (hb : c.code = cc) (hr : meth.sig.returnType = some .boolean) (hlocks : meth.locks = false) (hK : KN D tys s) (hP : va_P D vwCl (pic n ad E) H) (hD : va_D A (pic n ad E)) (hS : va_S A s.heap H locs) (hdg : decode cc pc = .ok (.ireturn, 1)) (hi : i = bI b) (hv : v = .int (bI b)) : W p l e R s m args below meth c H locs 0 0 (MQ below (QW (some v) (PW D tys A n ad E) A) args s 0 0 A) (F0 m pc ls [.int i]) := by
  subst hi
  exact W.zret (v := bI b) hx hb hr (narrow_b b) (fun t ht hW => ⟨by rw [hv], ⟨by rw [ht]; exact hP, hK.moved hW, hD⟩, hS.F ht⟩) hS.2.2 hdg hlocks
theorem g_vretW (hx : p.tables.exec = Jvm.exec) (hb : c.code = cc) (hr : meth.sig.returnType = none) (hlocks : meth.locks = false) (hK : KN D tys s) (hP : va_P D vwCl (pic n ad E) H) (hD : va_D A (pic n ad E)) (hS : va_S A s.heap H locs) (hdg : decode cc pc = .ok (.return_, 1)) : W p l e R s m args below meth c H locs 0 0 (MQ below (QW none (PW D tys A n ad E) A) args s 0 0 A) (F0 m pc ls []) :=
  W.vret hx hb hr (fun t ht hW => ⟨rfl, ⟨by rw [ht]; exact hP, hK.moved hW, hD⟩, hS.F ht⟩) hS.2.2 hdg hlocks
end RWB
/-- a method that reads alone, from its entry -/
theorem g_pure {l : Launch} {D : va_G} {tys : List (ClassId × FieldType)} {n : Nat} {ad : Nat → Nat} {E : Nat → va_E} {y : MethodName} {ws ws' : List Cond} {rm : Room} {cc : ByteArray} {maxL : Nat} {ret : Option FieldType} {As : List Value} {v : Value} (hy : plainName y.cls = true) (hw : ws = Cond.code y cc maxL ret :: ws') (hlen : (lg_sl As).length ≤ maxL)
    (body : ∀ p e s m args below meth c, p.tables.exec = Jvm.exec → c.code = cc → meth.sig.returnType = ret → (∀ w ∈ ws, w.before args s = true) → s.vm.findClass y.cls = some m.cls → meth.locks = false → c.maxLocals = maxL → va_P D vwCl (pic n ad E) s.heap → KN D tys s → ∀ ls, lv_has ls maxL (lv_args 0 As) → W p l e (headSpec ws rm).room s m args below meth c s.heap [] 0 0 (MQ below (k2_QcV v) args s 0 0 (fun _ => False)) (F0 m 0 ls [])) : Met l y ws rm (va_Pc As (PB D tys n ad E)) (k2_QcV v) 0 0 (fun _ => False) := by
  refine Met.ofW (cc := cc) (maxL := maxL) (ret := ret) hy hw ?_
  intro p e s m args below meth c s₁ B hml hv
  obtain ⟨rfl, hP, hK⟩ := hv
  rw [lg_entry_eq]
  exact body p e s m _ below meth c B.exec B.bytes B.returns (atoms_spec (ws := ws) B.pre) (findClass_of_methodNamed B.named) B.notSynchronized hml hP hK _ (lv_entry As hlen)
/-- a method that writes, from its entry -/
theorem g_writes {l : Launch} {D : va_G} {tys : List (ClassId × FieldType)} {A : Nat → Prop} {n : Nat} {ad : Nat → Nat} {E E' : Nat → va_E} {y : MethodName} {ws ws' : List Cond} {rm : Room} {cc : ByteArray} {maxL : Nat} {ret : Option FieldType} {As : List Value} {v : Option Value} (hy : plainName y.cls = true) (hw : ws = Cond.code y cc maxL ret :: ws') (hlen : (lg_sl As).length ≤ maxL)
    (body : ∀ p e s m args below meth c, p.tables.exec = Jvm.exec → c.code = cc → meth.sig.returnType = ret → (∀ w ∈ ws, w.before args s = true) → s.vm.findClass y.cls = some m.cls → meth.locks = false → c.maxLocals = maxL → va_P D vwCl (pic n ad E) s.heap → KN D tys s → va_D A (pic n ad E) → va_S A s.heap s.heap [] → ∀ ls, lv_has ls maxL (lv_args 0 As) → W p l e (headSpec ws rm).room s m args below meth c s.heap [] 0 0 (MQ below (QW v (PW D tys A n ad E') A) args s 0 0 A) (F0 m 0 ls [])) : Met l y ws rm (va_Pc As (PW D tys A n ad E)) (QW v (PW D tys A n ad E') A) 0 0 A := by
  refine Met.ofW (cc := cc) (maxL := maxL) (ret := ret) hy hw ?_
  intro p e s m args below meth c s₁ B hml hv
  obtain ⟨rfl, hP, hK, hD⟩ := hv
  rw [lg_entry_eq]
  exact body p e s m _ below meth c B.exec B.bytes B.returns (atoms_spec (ws := ws) B.pre) (findClass_of_methodNamed B.named) B.notSynchronized hml hP hK hD va_S.rf _ (lv_entry As hlen)
