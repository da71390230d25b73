/-! rows of four numbers: what a map gives; cubes turned -/
def im (f : Nat → Nat) (x : Nat) : Nat := xs (fun i => if x.testBit i then f i else 0) 4
def fitB (f : Nat → Nat) (n : Nat) : Bool := al (fun x => decide (im f x < 2 ^ n) && al (fun j => !(im f j == im f x)) x) (2 ^ n)
def src (f : Nat → Nat) (n v : Nat) : Nat := (fl (fun x => im f x == v) 0 (2 ^ n)).getD 0
def cbt (c : Nat → Nat) (i j k : Nat) : Nat := (c (4 * i + j) >>> k) &&& 1
def tbS (c : Nat → Nat) (t i j k : Nat) : Nat := if t = 1 then cbt c i k j else if t = 2 then cbt c j i k else if t = 3 then cbt c j k i else if t = 4 then cbt c k i j else if t = 5 then cbt c k j i else cbt c i j k
def tcS (n : Nat) (c : Nat → Nat) (t i j : Nat) : Nat := os (fun k => tbS c t i j k <<< k) n
theorem im_y {f : Nat → Nat} {x i : Nat} (h : x.testBit i = true) : xs (fun i => if x.testBit i then f i else 0) (i + 1) = xs (fun i => if x.testBit i then f i else 0) i ^^^ f i := xs_at (if_pos h)
theorem im_n {f : Nat → Nat} {x i : Nat} (h : ¬ x.testBit i = true) : xs (fun i => if x.testBit i then f i else 0) (i + 1) = xs (fun i => if x.testBit i then f i else 0) i := by
  have e : xs (fun i => if x.testBit i then f i else 0) (i + 1) = xs (fun i => if x.testBit i then f i else 0) i ^^^ 0 := xs_at (if_neg h)
  rw [e, Nat.xor_zero]
theorem im16 {f : Nat → Nat} (hf : ∀ i, i < 4 → f i < 16) (x : Nat) : im f x < 16 := xs_lt (m := 4) (fun i hi => by
  show (if _ then _ else _) < _
  split
  · exact hf i hi
  · decide)
theorem shl1_bit (a b : Nat) : (1 <<< a).testBit b = decide (a = b) := by rw [shl1, Nat.testBit_two_pow]
theorem fit_seen {f : Nat → Nat} {n x : Nat} (h4 : 2 ^ n ≤ 16) (hno : ∀ j, j < x → (decide (im f j < 2 ^ n) && al (fun k => !(im f k == im f j)) j) = true) : os (fun x => 1 <<< im f x) x < 2 ^ 16 := os_lt (fun i hi => by
  have := hno i hi
  rw [Bool.and_eq_true, decide_eq_true_eq] at this
  exact shl1_lt (by omega))
theorem fit_hit {f : Nat → Nat} {x : Nat} (h : ((os (fun x => 1 <<< im f x) x) >>> im f x) &&& 1 = 1) : al (fun j => !(im f j == im f x)) x = false := by
  rw [bit1', os_bit] at h
  obtain ⟨i, h1, h2⟩ := h
  rw [shl1_bit, decide_eq_true_eq] at h2
  exact al_no h1 (by rw [bT h2]; rfl)
theorem fit_mis {f : Nat → Nat} {x : Nat} (h : ¬ ((os (fun x => 1 <<< im f x) x) >>> im f x) &&& 1 = 1) : al (fun j => !(im f j == im f x)) x = true := by
  refine al_yes (fun i hi => ?_)
  rw [bF (fun e => h ?_)]
  · rfl
  · rw [bit1', os_bit]
    exact ⟨i, hi, by rw [shl1_bit]; exact decide_eq_true e⟩
theorem cbt_lt (c : Nat → Nat) (i j k : Nat) : cbt c i j k < 2 := Nat.lt_succ_of_le Nat.and_le_right
theorem tbS_lt (c : Nat → Nat) (t i j k : Nat) : tbS c t i j k < 2 := by
  unfold tbS
  repeat' split
  all_goals exact cbt_lt _ _ _ _
section RWC
variable {p : Program} {l : Launch} {e : Env} {R : Room} {s : State} {m : MethodId} {args : Array Value} {below : List Frame} {meth : Method} {c : Code} {H : Heap} {locs : List Loc} {cells slots : Nat} {Q : State → Prop}
variable {cc : ByteArray} {pc : Nat} {ls : Array Slot} {rest : List Value} {D : va_G} {tys : List (ClassId × FieldType)} {n : Nat} {ad : Nat → Nat} {E : Nat → va_E}
/-- a place of an array of int arrays -/
theorem g_aaldA (i j : Nat) {t0 : Nat} {cA : ClassId} {ty : FieldType} {len a : Nat} {f : Nat → Option Nat} (hx : p.tables.exec = Jvm.exec) (hb : c.code = cc) (hK : KN D tys s) (hP : va_P D vwCl (pic n ad E) H) (hi : i < n) (hE : E i = .inl (cA, len, .inr (.inr (.inr (.inr f))))) (ht : tys[t0]? = some (cA, .array ty)) (hj : j < len) (hlen : len < 2 ^ 31) (hf : f j = some a) (hdg : decode cc pc = .ok (.aaload, 1))
    (kk : W p l e R s m args below meth c H locs cells slots Q (F0 m (pc + 1) ls (.ref a :: rest))) : W p l e R s m args below meth c H locs cells slots Q (F0 m pc ls (.int (nI j) :: .ref (ad i) :: rest)) := by
  have hin := vp_in_nI hj hlen
  have hcl := k_toNat (Nat.lt_trans hj hlen)
  refine W.aald (v := .ref a) hx hb (hP i _ (pic_get hi hE)) ((hK.1.2 t0 _ ht).1 len (fun j => va_rf (f j))) rfl (fun q => by cases q) (by show ¬ (nI j < 0 ∨ (arrV _ _ _).slots.size ≤ _); rw [arrV_size]; exact hin) (by show (arrV _ _ _).slots[_]? = _; rw [hcl, arrV_read _ _ hj, hf]; rfl) rfl rfl hdg kk
end RWC

set_option maxHeartbeats 4000000 in
set_option maxRecDepth 100000 in
theorem c_X2_isSomeN (l : Launch) {D : va_G} {tys : List (ClassId × FieldType)} {ad : Nat → Nat} {n : Nat} {E : Nat → va_E} {cI : ClassId} {t0 : Nat} (hI : tys[t0]? = some (cI, .int)) {x : Int32} : Met l yX2_isSomeN wsX2_isSomeN ({ frames := 0, cells := 0, slots := 0, locals := 0 } : Room) (va_Pc [.int (x)] (PB D tys n ad (E))) (k2_QcV (.int (bI (rB 1 4 x)))) 0 0 (fun _ => False) := by
  refine g_pure (cc := cX2_isSomeN) (maxL := 1) (ret := (some .boolean)) (by decide) rfl (Nat.le_of_ble_eq_true rfl) ?_
  intro p e s m args below meth c hx hb hrt hts hown hlocks hml hP hK ls hl
  show W p l e ({ frames := 0, cells := 0, slots := 0, locals := 0 } : Room) s m args below meth c s.heap [] 0 0 _ _
  have hl : lv_has ls 1 [(0, .int (x))] := hl
  refine lv_iload_n hx hb dX2_isSomeN_0 rfl (lv_at hl 0 rfl) ?_
  refine n_iconst 1 hx hb dX2_isSomeN_1 ?_
  refine lv_icmp_lt (tgt := 14) hx hb dX2_isSomeN_2 (by decide) (fun h_2 => ?_) (fun h_2 => ?_)
  · refine n_iconst 0 hx hb dX2_isSomeN_14 ?_
    exact g_zret (false) hx hb hrt hlocks dX2_isSomeN_15 rfl (congrArg (fun b => Value.int (bI b)) (decide_eq_false (fun z => k2_nlt z.1 h_2)))
  · refine lv_iload_n hx hb dX2_isSomeN_5 rfl (lv_at hl 0 rfl) ?_
    refine n_iconst 4 hx hb dX2_isSomeN_6 ?_
    refine lv_icmp_gt (tgt := 14) hx hb dX2_isSomeN_7 (by decide) (fun h_7 => ?_) (fun h_7 => ?_)
    · refine n_iconst 0 hx hb dX2_isSomeN_14 ?_
      exact g_zret (false) hx hb hrt hlocks dX2_isSomeN_15 rfl (congrArg (fun b => Value.int (bI b)) (decide_eq_false (fun z => k2_nlt z.2 h_7)))
    · refine n_iconst 1 hx hb dX2_isSomeN_10 ?_
      refine n_goto 15 hx hb dX2_isSomeN_11 (by decide) ?_
      exact g_zret (true) hx hb hrt hlocks dX2_isSomeN_15 rfl (congrArg (fun b => Value.int (bI b)) (decide_eq_true ⟨k2_le h_2, k2_le h_7⟩))
set_option maxHeartbeats 4000000 in
set_option maxRecDepth 100000 in
theorem c_X2_isSomeWay (l : Launch) {D : va_G} {tys : List (ClassId × FieldType)} {ad : Nat → Nat} {n : Nat} {E : Nat → va_E} {cI : ClassId} {t0 : Nat} (hI : tys[t0]? = some (cI, .int)) {x : Int32} : Met l yX2_isSomeWay wsX2_isSomeWay ({ frames := 0, cells := 0, slots := 0, locals := 0 } : Room) (va_Pc [.int (x)] (PB D tys n ad (E))) (k2_QcV (.int (bI (rB 0 3 x)))) 0 0 (fun _ => False) := by
  refine g_pure (cc := cX2_isSomeWay) (maxL := 1) (ret := (some .boolean)) (by decide) rfl (Nat.le_of_ble_eq_true rfl) ?_
  intro p e s m args below meth c hx hb hrt hts hown hlocks hml hP hK ls hl
  show W p l e ({ frames := 0, cells := 0, slots := 0, locals := 0 } : Room) s m args below meth c s.heap [] 0 0 _ _
  have hl : lv_has ls 1 [(0, .int (x))] := hl
  refine lv_iload_n hx hb dX2_isSomeWay_0 rfl (lv_at hl 0 rfl) ?_
  refine lv_if_lt (tgt := 13) hx hb dX2_isSomeWay_1 (by decide) (fun h_1 => ?_) (fun h_1 => ?_)
  · refine n_iconst 0 hx hb dX2_isSomeWay_13 ?_
    exact g_zret (false) hx hb hrt hlocks dX2_isSomeWay_14 rfl (congrArg (fun b => Value.int (bI b)) (decide_eq_false (fun z => k2_nlt z.1 h_1)))
  · refine lv_iload_n hx hb dX2_isSomeWay_4 rfl (lv_at hl 0 rfl) ?_
    refine n_iconst 3 hx hb dX2_isSomeWay_5 ?_
    refine lv_icmp_gt (tgt := 13) hx hb dX2_isSomeWay_6 (by decide) (fun h_6 => ?_) (fun h_6 => ?_)
    · refine n_iconst 0 hx hb dX2_isSomeWay_13 ?_
      exact g_zret (false) hx hb hrt hlocks dX2_isSomeWay_14 rfl (congrArg (fun b => Value.int (bI b)) (decide_eq_false (fun z => k2_nlt z.2 h_6)))
    · refine n_iconst 1 hx hb dX2_isSomeWay_9 ?_
      refine n_goto 14 hx hb dX2_isSomeWay_10 (by decide) ?_
      exact g_zret (true) hx hb hrt hlocks dX2_isSomeWay_14 rfl (congrArg (fun b => Value.int (bI b)) (decide_eq_true ⟨k2_le h_1, k2_le h_6⟩))
set_option maxHeartbeats 4000000 in
set_option maxRecDepth 100000 in
theorem c_X2_isMapNumber (l : Launch) {D : va_G} {tys : List (ClassId × FieldType)} {ad : Nat → Nat} {n : Nat} {E : Nat → va_E} {cI : ClassId} {t0 : Nat} (hI : tys[t0]? = some (cI, .int)) {x : Int32} : Met l yX2_isMapNumber wsX2_isMapNumber ({ frames := 0, cells := 0, slots := 0, locals := 0 } : Room) (va_Pc [.int (x)] (PB D tys n ad (E))) (k2_QcV (.int (bI (rB 0 15 x)))) 0 0 (fun _ => False) := by
  refine g_pure (cc := cX2_isMapNumber) (maxL := 1) (ret := (some .boolean)) (by decide) rfl (Nat.le_of_ble_eq_true rfl) ?_
  intro p e s m args below meth c hx hb hrt hts hown hlocks hml hP hK ls hl
  show W p l e ({ frames := 0, cells := 0, slots := 0, locals := 0 } : Room) s m args below meth c s.heap [] 0 0 _ _
  have hl : lv_has ls 1 [(0, .int (x))] := hl
  refine lv_iload_n hx hb dX2_isMapNumber_0 rfl (lv_at hl 0 rfl) ?_
  refine lv_if_lt (tgt := 14) hx hb dX2_isMapNumber_1 (by decide) (fun h_1 => ?_) (fun h_1 => ?_)
  · refine n_iconst 0 hx hb dX2_isMapNumber_14 ?_
    exact g_zret (false) hx hb hrt hlocks dX2_isMapNumber_15 rfl (by rw [show rB 0 15 x = _ from rB_0 (N := 16) (by decide) (by decide)]; exact congrArg (fun b => Value.int (bI b)) (decide_eq_false (fun z => z.1 h_1)))
  · refine lv_iload_n hx hb dX2_isMapNumber_4 rfl (lv_at hl 0 rfl) ?_
    refine lv_bipush (v := nI 16) hx hb dX2_isMapNumber_5 (by decide) ?_
    refine lv_icmp_ge (tgt := 14) hx hb dX2_isMapNumber_7 (by decide) (fun h_7 => ?_) (fun h_7 => ?_)
    · refine n_iconst 0 hx hb dX2_isMapNumber_14 ?_
      exact g_zret (false) hx hb hrt hlocks dX2_isMapNumber_15 rfl (by rw [show rB 0 15 x = _ from rB_0 (N := 16) (by decide) (by decide)]; exact congrArg (fun b => Value.int (bI b)) (decide_eq_false (fun z => z.2 h_7)))
    · refine n_iconst 1 hx hb dX2_isMapNumber_10 ?_
      refine n_goto 15 hx hb dX2_isMapNumber_11 (by decide) ?_
      exact g_zret (true) hx hb hrt hlocks dX2_isMapNumber_15 rfl (by rw [show rB 0 15 x = _ from rB_0 (N := 16) (by decide) (by decide)]; exact congrArg (fun b => Value.int (bI b)) (decide_eq_true ⟨h_1, h_7⟩))
set_option maxHeartbeats 4000000 in
set_option maxRecDepth 100000 in
theorem c_X2_oneIf (l : Launch) {D : va_G} {tys : List (ClassId × FieldType)} {ad : Nat → Nat} {n : Nat} {E : Nat → va_E} {cI : ClassId} {t0 : Nat} (hI : tys[t0]? = some (cI, .int)) {B : Bool} : Met l yX2_oneIf wsX2_oneIf ({ frames := 0, cells := 0, slots := 0, locals := 0 } : Room) (va_Pc [.int (bI (B))] (PB D tys n ad (E))) (k2_QcV (.int (bI B))) 0 0 (fun _ => False) := by
  refine g_pure (cc := cX2_oneIf) (maxL := 1) (ret := (some .int)) (by decide) rfl (Nat.le_of_ble_eq_true rfl) ?_
  intro p e s m args below meth c hx hb hrt hts hown hlocks hml hP hK ls hl
  show W p l e ({ frames := 0, cells := 0, slots := 0, locals := 0 } : Room) s m args below meth c s.heap [] 0 0 _ _
  have hl : lv_has ls 1 [(0, .int (bI (B)))] := hl
  refine lv_iload_n hx hb dX2_oneIf_0 rfl (lv_at hl 0 rfl) ?_
  refine n_ifeq_b (tgt := 8) hx hb dX2_oneIf_1 (by decide) (fun h_1 => ?_) (fun h_1 => ?_)
  · refine n_iconst 0 hx hb dX2_oneIf_8 ?_
    exact g_iret hx hb hrt hlocks dX2_oneIf_9 (by rw [h_1]; rfl)
  · refine n_iconst 1 hx hb dX2_oneIf_4 ?_
    refine n_goto 9 hx hb dX2_oneIf_5 (by decide) ?_
    exact g_iret hx hb hrt hlocks dX2_oneIf_9 (by rw [h_1]; rfl)
set_option maxHeartbeats 4000000 in
set_option maxRecDepth 100000 in
theorem c_X2_sumOf (l : Launch) {D : va_G} {tys : List (ClassId × FieldType)} {ad : Nat → Nat} {n : Nat} {E : Nat → va_E} {cI : ClassId} {t0 : Nat} (hI : tys[t0]? = some (cI, .int)) {rI : Nat} {f : Nat → Nat} (hr0 : rI < n) (hrow : E rI = .inl (cI, 4, .inl (nF f))) {X : Nat} (hX : X < 2 ^ 31) : Met l yX2_sumOf wsX2_sumOf ({ frames := 0, cells := 0, slots := 0, locals := 0 } : Room) (va_Pc [.ref (ad (rI)), .int (nI (X))] (PB D tys n ad (E))) (k2_QcV (.int (nI (im f X)))) 0 0 (fun _ => False) := by
  refine g_pure (cc := cX2_sumOf) (maxL := 4) (ret := (some .int)) (by decide) rfl (Nat.le_of_ble_eq_true rfl) ?_
  intro p e s m args below meth c hx hb hrt hts hown hlocks hml hP hK ls hl
  show W p l e ({ frames := 0, cells := 0, slots := 0, locals := 0 } : Room) s m args below meth c s.heap [] 0 0 _ _
  have hl : lv_has ls 4 [(0, .ref (ad (rI))), (1, .int (nI (X)))] := hl
  refine n_iconst 0 hx hb dX2_sumOf_0 ?_
  refine lv_istore_n (lv' := [(2, .int (nI (0))), (0, .ref (ad (rI))), (1, .int (nI (X)))]) hx hb dX2_sumOf_1 rfl hl (by decide) rfl (fun ls hl => ?_)
  refine n_iconst 0 hx hb dX2_sumOf_2 ?_
  refine lv_istore_n (lv' := [(3, .int (nI (0))), (2, .int (nI (0))), (0, .ref (ad (rI))), (1, .int (nI (X)))]) hx hb dX2_sumOf_3 rfl hl (by decide) rfl (fun ls hl => ?_)
  have L_4 : ∀ (r : Nat) (acc : Nat) (i : Nat), (i ≤ 4) → (4 < i + r) → (acc = xs (fun i => if X.testBit i then f i else 0) i) → ∀ (ls : Array Slot), lv_has ls 4 [(0, .ref (ad (rI))), (1, .int (nI (X))), (2, .int (nI (acc))), (3, .int (nI (i)))] → W p l e ({ frames := 0, cells := 0, slots := 0, locals := 0 } : Room) s m args below meth c s.heap [] 0 0 (MQ below (k2_QcV (.int (nI (im f X)))) args s 0 0 (fun _ => False)) (F0 m 4 ls []) := by
    intro r
    induction r with
    | zero => intro acc i hi hr ha; intros; exact absurd hr (by omega)
    | succ r ih =>
      intro acc i hi hr ha ls hl
      have ih_4 := ih
      refine lv_iload_n hx hb dX2_sumOf_4 rfl (lv_at hl 3 rfl) ?_
      refine lv_aload_n hx hb dX2_sumOf_5 rfl (lv_at hl 0 rfl) ?_
      refine g_alen (rI) hx hb hK hP hr0 hrow hI dX2_sumOf_6 ?_
      refine n_ge (tgt := 31) hx hb dX2_sumOf_7 (by decide) (by omega) (by omega) (fun h_7 => ?_) (fun h_7 => ?_)
      · refine lv_iload_n hx hb dX2_sumOf_31 rfl (lv_at hl 2 rfl) ?_
        exact g_iret hx hb hrt hlocks dX2_sumOf_32 (by rw [ha, show i = 4 by omega]; rfl)
      · refine lv_iload_n hx hb dX2_sumOf_10 rfl (lv_at hl 1 rfl) ?_
        refine lv_iload_n hx hb dX2_sumOf_11 rfl (lv_at hl 3 rfl) ?_
        refine n_ishr hx hb dX2_sumOf_12 hX (by omega) ?_
        refine n_iconst 1 hx hb dX2_sumOf_13 ?_
        refine n_iand hx hb dX2_sumOf_14 ?_
        refine n_iconst 1 hx hb dX2_sumOf_15 ?_
        refine n_cne (tgt := 25) hx hb dX2_sumOf_16 (by decide) (and1_lt _) (by decide) (fun h_16 => ?_) (fun h_16 => ?_)
        · refine n_iinc 3 1 (lv' := [(3, .int (nI (i + 1))), (0, .ref (ad (rI))), (1, .int (nI (X))), (2, .int (nI (acc)))]) hx hb dX2_sumOf_25 hl rfl (by decide) rfl (fun ls hl => ?_)
          refine n_goto 4 hx hb dX2_sumOf_28 (by decide) ?_
          exact ih_4 (acc) (i + 1) (by omega) (by omega) (by rw [ha, im_n (fun z => h_16 ((bit1' X i).mpr z))]) _ (lv_sub hl [1, 2, 3, 0] rfl)
        · refine lv_iload_n hx hb dX2_sumOf_19 rfl (lv_at hl 2 rfl) ?_
          refine lv_aload_n hx hb dX2_sumOf_20 rfl (lv_at hl 0 rfl) ?_
          refine lv_iload_n hx hb dX2_sumOf_21 rfl (lv_at hl 3 rfl) ?_
          refine g_iald (rI) (i) (t0 := _) hx hb hK hP hr0 hrow hI (by omega) (by decide) dX2_sumOf_22 ?_
          refine n_ixor hx hb dX2_sumOf_23 ?_
          refine lv_istore_n (lv' := [(2, .int (nI (acc ^^^ (f (i))))), (0, .ref (ad (rI))), (1, .int (nI (X))), (3, .int (nI (i)))]) hx hb dX2_sumOf_24 rfl hl (by decide) rfl (fun ls hl => ?_)
          refine n_iinc 3 1 (lv' := [(3, .int (nI (i + 1))), (2, .int (nI (acc ^^^ (f (i))))), (0, .ref (ad (rI))), (1, .int (nI (X)))]) hx hb dX2_sumOf_25 hl rfl (by decide) rfl (fun ls hl => ?_)
          refine n_goto 4 hx hb dX2_sumOf_28 (by decide) ?_
          exact ih_4 (acc ^^^ (f (i))) (i + 1) (by omega) (by omega) (by rw [ha, im_y ((bit1' X i).mp h_16)]) _ (lv_sub hl [2, 3, 1, 0] rfl)
  exact L_4 5 (0) (0) (Nat.zero_le _) (by omega) rfl _ (lv_sub hl [2, 3, 1, 0] rfl)
set_option maxHeartbeats 4000000 in
set_option maxRecDepth 100000 in
theorem c_X2_isFit (l : Launch) {D : va_G} {tys : List (ClassId × FieldType)} {ad : Nat → Nat} {n : Nat} {E : Nat → va_E} {cI : ClassId} {t0 : Nat} (hI : tys[t0]? = some (cI, .int)) {rI : Nat} {f : Nat → Nat} (hr0 : rI < n) (hrow : E rI = .inl (cI, 4, .inl (nF f))) {nn : Nat} (hnn : nn ≤ 4) (hf : ∀ x, x < 2 ^ nn → im f x < 16) : Met l yX2_isFit wsX2_isFit ({ frames := 1, cells := 0, slots := 0, locals := 23 } : Room) (va_Pc [.ref (ad (rI)), .int (nI (nn))] (PB D tys n ad (E))) (k2_QcV (.int (bI (fitB f nn)))) 0 0 (fun _ => False) := by
  have p4 := pow4 hnn
  have p0 : 0 < 2 ^ nn := Nat.pow_pos (by decide)
  refine g_pure (cc := cX2_isFit) (maxL := 6) (ret := (some .boolean)) (by decide) rfl (Nat.le_of_ble_eq_true rfl) ?_
  intro p e s m args below meth c hx hb hrt hts hown hlocks hml hP hK ls hl
  show W p l e ({ frames := 1, cells := 0, slots := 0, locals := 23 } : Room) s m args below meth c s.heap [] 0 0 _ _
  have hl : lv_has ls 6 [(0, .ref (ad (rI))), (1, .int (nI (nn)))] := hl
  refine n_iconst 1 hx hb dX2_isFit_0 ?_
  refine lv_iload_n hx hb dX2_isFit_1 rfl (lv_at hl 1 rfl) ?_
  refine n_ishl hx hb dX2_isFit_2 (by omega) ?_
  refine n_eq (show nI (1 <<< nn) = nI (2 ^ nn) from by rw [shl1]) ?_
  refine lv_istore_n (lv' := [(2, .int (nI (2 ^ nn))), (0, .ref (ad (rI))), (1, .int (nI (nn)))]) hx hb dX2_isFit_3 rfl hl (by decide) rfl (fun ls hl => ?_)
  refine n_iconst 0 hx hb dX2_isFit_4 ?_
  refine lv_istore_n (lv' := [(3, .int (nI (0))), (2, .int (nI (2 ^ nn))), (0, .ref (ad (rI))), (1, .int (nI (nn)))]) hx hb dX2_isFit_5 rfl hl (by decide) rfl (fun ls hl => ?_)
  refine n_iconst 0 hx hb dX2_isFit_6 ?_
  refine lv_istore (lv' := [(4, .int (nI (0))), (3, .int (nI (0))), (2, .int (nI (2 ^ nn))), (0, .ref (ad (rI))), (1, .int (nI (nn)))]) hx hb dX2_isFit_7 hl (by decide) rfl (fun ls hl => ?_)
  have L_9 : ∀ (r : Nat) (seen : Nat) (x : Nat), (x ≤ 2 ^ nn) → (2 ^ nn < x + r) → (seen = os (fun x => 1 <<< im f x) x) → (∀ j, j < x → (decide (im f j < 2 ^ nn) && al (fun k => !(im f k == im f j)) j) = true) → ∀ (ls : Array Slot), lv_has ls 6 [(0, .ref (ad (rI))), (1, .int (nI (nn))), (2, .int (nI (2 ^ nn))), (3, .int (nI (seen))), (4, .int (nI (x)))] → W p l e ({ frames := 1, cells := 0, slots := 0, locals := 23 } : Room) s m args below meth c s.heap [] 0 0 (MQ below (k2_QcV (.int (bI (fitB f nn)))) args s 0 0 (fun _ => False)) (F0 m 9 ls []) := by
    intro r
    induction r with
    | zero => intro seen x hx1 hr ha hno; intros; exact absurd hr (by omega)
    | succ r ih =>
      intro seen x hx1 hr ha hno ls hl
      have ih_9 := ih
      have hs := fit_seen p4 hno
      rw [ha] at hl
      refine lv_iload hx hb dX2_isFit_9 (lv_at hl 4 rfl) ?_
      refine lv_iload_n hx hb dX2_isFit_11 rfl (lv_at hl 2 rfl) ?_
      refine n_ge (tgt := 54) hx hb dX2_isFit_12 (by decide) (by omega) (by omega) (fun h_12 => ?_) (fun h_12 => ?_)
      · refine n_iconst 1 hx hb dX2_isFit_54 ?_
        exact g_zret (true) hx hb hrt hlocks dX2_isFit_55 rfl (by rw [show fitB f nn = true from al_yes (fun k hk => hno k (by omega))])
      · refine lv_aload_n hx hb dX2_isFit_15 rfl (lv_at hl 0 rfl) ?_
        refine lv_iload hx hb dX2_isFit_16 (lv_at hl 4 rfl) ?_
        refine g_callS (As := [.ref (ad (rI)), .int (nI (x))]) (rest := []) (c_X2_sumOf l hI hr0 hrow (X := x) (by omega)) (va_cwS 2 hts gX2_isFit_X2_sumOf rfl rfl rfl (by decide +kernel) ⟨Nat.le_of_ble_eq_true rfl, Nat.le_of_ble_eq_true rfl⟩) hx hb hml hown hts hK hP  rfl hl.1 rfl (Nat.le_of_ble_eq_true rfl) (Nat.zero_le _) (Nat.zero_le _) dX2_isFit_18 ?_
        refine lv_istore (lv' := [(5, .int (nI (im f x))), (0, .ref (ad (rI))), (1, .int (nI (nn))), (2, .int (nI (2 ^ nn))), (3, .int (nI (os (fun x => 1 <<< im f x) x))), (4, .int (nI (x)))]) hx hb dX2_isFit_21 hl (by decide) rfl (fun ls hl => ?_)
        refine lv_iload hx hb dX2_isFit_23 (lv_at hl 0 rfl) ?_
        refine lv_iload_n hx hb dX2_isFit_25 rfl (lv_at hl 3 rfl) ?_
        refine n_ge (tgt := 39) hx hb dX2_isFit_26 (by decide) (by have := hf x (by omega); omega) (by omega) (fun h_26 => ?_) (fun h_26 => ?_)
        · refine n_iconst 0 hx hb dX2_isFit_39 ?_
          exact g_zret (false) hx hb hrt hlocks dX2_isFit_40 rfl (by rw [show fitB f nn = false from al_no (k := x) (by omega) (by rw [decide_eq_false (Nat.not_lt.mpr h_26), Bool.false_and])])
        · refine lv_iload_n hx hb dX2_isFit_29 rfl (lv_at hl 4 rfl) ?_
          refine lv_iload hx hb dX2_isFit_30 (lv_at hl 0 rfl) ?_
          refine n_ishr hx hb dX2_isFit_32 (by omega) (by omega) ?_
          refine n_iconst 1 hx hb dX2_isFit_33 ?_
          refine n_iand hx hb dX2_isFit_34 ?_
          refine n_iconst 1 hx hb dX2_isFit_35 ?_
          refine n_cne (tgt := 41) hx hb dX2_isFit_36 (by decide) (and1_lt _) (by decide) (fun h_36 => ?_) (fun h_36 => ?_)
          · refine lv_iload_n hx hb dX2_isFit_41 rfl (lv_at hl 4 rfl) ?_
            refine n_iconst 1 hx hb dX2_isFit_42 ?_
            refine lv_iload hx hb dX2_isFit_43 (lv_at hl 0 rfl) ?_
            refine n_ishl hx hb dX2_isFit_45 (by omega) ?_
            refine n_ior hx hb dX2_isFit_46 ?_
            refine lv_istore_n (lv' := [(3, .int (nI ((os (fun x => 1 <<< im f x) x) ||| (1 <<< (im f x))))), (5, .int (nI (im f x))), (0, .ref (ad (rI))), (1, .int (nI (nn))), (2, .int (nI (2 ^ nn))), (4, .int (nI (x)))]) hx hb dX2_isFit_47 rfl hl (by decide) rfl (fun ls hl => ?_)
            refine n_iinc 5 1 (lv' := [(4, .int (nI (x + 1))), (3, .int (nI ((os (fun x => 1 <<< im f x) x) ||| (1 <<< (im f x))))), (5, .int (nI (im f x))), (0, .ref (ad (rI))), (1, .int (nI (nn))), (2, .int (nI (2 ^ nn)))]) hx hb dX2_isFit_48 hl rfl (by decide) rfl (fun ls hl => ?_)
            refine n_goto 9 hx hb dX2_isFit_51 (by decide) ?_
            exact ih_9 ((os (fun x => 1 <<< im f x) x) ||| (1 <<< (im f x))) (x + 1) (by omega) (by omega) rfl (ya_s hno (by rw [decide_eq_true h_26, fit_mis h_36]; rfl)) _ (lv_sub hl [3, 4, 5, 1, 0] rfl)
          · refine n_iconst 0 hx hb dX2_isFit_39 ?_
            exact g_zret (false) hx hb hrt hlocks dX2_isFit_40 rfl (by rw [show fitB f nn = false from al_no (k := x) (by omega) (by rw [fit_hit h_36, Bool.and_false])])
  exact L_9 (2 ^ nn + 1) (0) (0) (Nat.zero_le _) (by omega) rfl (fun j h => absurd h (by omega)) _ (lv_sub hl [3, 4, 2, 1, 0] rfl)
set_option maxHeartbeats 4000000 in
set_option maxRecDepth 100000 in
theorem c_X2_sourceOf (l : Launch) {D : va_G} {tys : List (ClassId × FieldType)} {ad : Nat → Nat} {n : Nat} {E : Nat → va_E} {cI : ClassId} {t0 : Nat} (hI : tys[t0]? = some (cI, .int)) {rI : Nat} {f : Nat → Nat} (hr0 : rI < n) (hrow : E rI = .inl (cI, 4, .inl (nF f))) {nn V : Nat} (hnn : nn ≤ 4) (hf : ∀ i, i < 4 → f i < 16) (hV : V < 2 ^ 31) : Met l yX2_sourceOf wsX2_sourceOf ({ frames := 1, cells := 0, slots := 0, locals := 23 } : Room) (va_Pc [.ref (ad (rI)), .int (nI (nn)), .int (nI (V))] (PB D tys n ad (E))) (k2_QcV (.int (nI (src f nn V)))) 0 0 (fun _ => False) := by
  have p4 := pow4 hnn
  have p0 : 0 < 2 ^ nn := Nat.pow_pos (by decide)
  refine g_pure (cc := cX2_sourceOf) (maxL := 4) (ret := (some .int)) (by decide) rfl (Nat.le_of_ble_eq_true rfl) ?_
  intro p e s m args below meth c hx hb hrt hts hown hlocks hml hP hK ls hl
  show W p l e ({ frames := 1, cells := 0, slots := 0, locals := 23 } : Room) s m args below meth c s.heap [] 0 0 _ _
  have hl : lv_has ls 4 [(0, .ref (ad (rI))), (1, .int (nI (nn))), (2, .int (nI (V)))] := hl
  refine n_iconst 0 hx hb dX2_sourceOf_0 ?_
  refine lv_istore_n (lv' := [(3, .int (nI (0))), (0, .ref (ad (rI))), (1, .int (nI (nn))), (2, .int (nI (V)))]) hx hb dX2_sourceOf_1 rfl hl (by decide) rfl (fun ls hl => ?_)
  have L_2 : ∀ (r : Nat) (x : Nat), (x ≤ 2 ^ nn) → (2 ^ nn < x + r) → (∀ j, 0 ≤ j → j < x → (im f j == V) = false) → ∀ (ls : Array Slot), lv_has ls 4 [(0, .ref (ad (rI))), (1, .int (nI (nn))), (2, .int (nI (V))), (3, .int (nI (x)))] → W p l e ({ frames := 1, cells := 0, slots := 0, locals := 23 } : Room) s m args below meth c s.heap [] 0 0 (MQ below (k2_QcV (.int (nI (src f nn V)))) args s 0 0 (fun _ => False)) (F0 m 2 ls []) := by
    intro r
    induction r with
    | zero => intro x hx1 hr hno; intros; exact absurd hr (by omega)
    | succ r ih =>
      intro x hx1 hr hno ls hl
      have ih_2 := ih
      refine lv_iload_n hx hb dX2_sourceOf_2 rfl (lv_at hl 3 rfl) ?_
      refine n_iconst 1 hx hb dX2_sourceOf_3 ?_
      refine lv_iload_n hx hb dX2_sourceOf_4 rfl (lv_at hl 1 rfl) ?_
      refine n_ishl hx hb dX2_sourceOf_5 (by omega) ?_
      refine n_eq (show nI (1 <<< nn) = nI (2 ^ nn) from by rw [shl1]) ?_
      refine n_ge (tgt := 26) hx hb dX2_sourceOf_6 (by decide) (by omega) (by omega) (fun h_6 => ?_) (fun h_6 => ?_)
      · refine n_iconst 0 hx hb dX2_sourceOf_26 ?_
        exact g_iret hx hb hrt hlocks dX2_sourceOf_27 (by rw [show src f nn V = 0 from by unfold src; rw [fl_no (fun j h1 h2 => hno j h1 (by omega))]; rfl])
      · refine lv_aload_n hx hb dX2_sourceOf_9 rfl (lv_at hl 0 rfl) ?_
        refine lv_iload_n hx hb dX2_sourceOf_10 rfl (lv_at hl 3 rfl) ?_
        refine g_callS (As := [.ref (ad (rI)), .int (nI (x))]) (rest := []) (c_X2_sumOf l hI hr0 hrow (X := x) (by omega)) (va_cwS 2 hts gX2_sourceOf_X2_sumOf rfl rfl rfl (by decide +kernel) ⟨Nat.le_of_ble_eq_true rfl, Nat.le_of_ble_eq_true rfl⟩) hx hb hml hown hts hK hP  rfl hl.1 rfl (Nat.le_of_ble_eq_true rfl) (Nat.zero_le _) (Nat.zero_le _) dX2_sourceOf_11 ?_
        refine lv_iload_n hx hb dX2_sourceOf_14 rfl (lv_at hl 2 rfl) ?_
        refine n_cne (tgt := 20) hx hb dX2_sourceOf_15 (by decide) (by have := im16 hf x; omega) hV (fun h_15 => ?_) (fun h_15 => ?_)
        · refine n_iinc 3 1 (lv' := [(3, .int (nI (x + 1))), (0, .ref (ad (rI))), (1, .int (nI (nn))), (2, .int (nI (V)))]) hx hb dX2_sourceOf_20 hl rfl (by decide) rfl (fun ls hl => ?_)
          refine n_goto 2 hx hb dX2_sourceOf_23 (by decide) ?_
          exact ih_2 (x + 1) (by omega) (by omega) (no_s hno (bF h_15)) _ (lv_sub hl [1, 2, 3, 0] rfl)
        · refine lv_iload_n hx hb dX2_sourceOf_18 rfl (lv_at hl 3 rfl) ?_
          exact g_iret hx hb hrt hlocks dX2_sourceOf_19 (by rw [show src f nn V = x from by unfold src; rw [fl_at (p := fun x => im f x == V) (Nat.zero_le x) (by omega) (bT h_15) hno]; rfl])
  exact L_2 (2 ^ nn + 1) (0) (Nat.zero_le _) (by omega) (fun j h1 h2 => absurd h2 (by omega)) _ (lv_sub hl [1, 2, 3, 0] rfl)
set_option maxHeartbeats 4000000 in
set_option maxRecDepth 100000 in
theorem c_X2_turnedBit (l : Launch) {D : va_G} {tys : List (ClassId × FieldType)} {ad : Nat → Nat} {n : Nat} {E : Nat → va_E} {cI : ClassId} {t0 b nn : Nat} {c0 tt : Nat → Nat} (hI : tys[t0]? = some (cI, .int)) (hbn : b + 2 < n) (hw : isW cI ad E b nn c0 tt) {I J K T : Nat} (hnn : nn ≤ 4) (hcb : CB nn c0) (hI4 : I < nn) (hJ4 : J < nn) (hK4 : K < nn) (hT : T < 6) : Met l yX2_turnedBit wsX2_turnedBit ({ frames := 3, cells := 0, slots := 0, locals := 66 } : Room) (va_Pc [.ref (ad (b)), .int (nI (I)), .int (nI (J)), .int (nI (K)), .int (nI (T))] (PB D tys n ad (E))) (k2_QcV (.int (nI (tbS c0 T I J K)))) 0 0 (fun _ => False) := by
  refine g_pure (cc := cX2_turnedBit) (maxL := 5) (ret := (some .int)) (by decide) rfl (Nat.le_of_ble_eq_true rfl) ?_
  intro p e s m args below meth c hx hb hrt hts hown hlocks hml hP hK ls hl
  show W p l e ({ frames := 3, cells := 0, slots := 0, locals := 66 } : Room) s m args below meth c s.heap [] 0 0 _ _
  have hl : lv_has ls 5 [(0, .ref (ad (b))), (1, .int (nI (I))), (2, .int (nI (J))), (3, .int (nI (K))), (4, .int (nI (T)))] := hl
  refine lv_iload hx hb dX2_turnedBit_0 (lv_at hl 4 rfl) ?_
  rcases (show T = 0 ∨ T = 1 ∨ T = 2 ∨ T = 3 ∨ T = 4 ∨ T = 5 by omega) with e9 | e9 | e9 | e9 | e9 | e9
  · subst e9
    refine lv_tableOut (tgt := 76) hx hb dX2_turnedBit_2 (by decide) (by decide) ?_
    refine lv_aload_n hx hb dX2_turnedBit_76 rfl (lv_at hl 0 rfl) ?_
    refine lv_iload_n hx hb dX2_turnedBit_77 rfl (lv_at hl 1 rfl) ?_
    refine lv_iload_n hx hb dX2_turnedBit_78 rfl (lv_at hl 2 rfl) ?_
    refine lv_iload_n hx hb dX2_turnedBit_79 rfl (lv_at hl 3 rfl) ?_
    refine g_callV (b) (C := RX1) (T := TX1) (N := 4) (ci := 0) (As := [.int (nI (I)), .int (nI (J)), .int (nI (K))]) (rest := []) (c_X1_cubeBit l hI hbn hw (I := I) (J := J) (K := K) hnn hcb (by omega) (by omega) (by omega)) (cwV 3 hts gX2_turnedBit_X1_cubeBit rfl rfl rfl (by decide +kernel) ⟨Nat.le_of_ble_eq_true rfl, Nat.le_of_ble_eq_true rfl⟩) hx hb hml hown hts hK hP  (by omega) hw.1 rfl rfl hl.1 rfl (Nat.le_of_ble_eq_true rfl) (Nat.zero_le _) (Nat.zero_le _) dX2_turnedBit_80 ?_
    exact g_iret hx hb hrt hlocks dX2_turnedBit_83 rfl
  · subst e9
    refine lv_tableIn (off := 34) (tgt := 36) hx hb dX2_turnedBit_2 (by decide) (by decide) (by decide) (by decide) ?_
    refine lv_aload_n hx hb dX2_turnedBit_36 rfl (lv_at hl 0 rfl) ?_
    refine lv_iload_n hx hb dX2_turnedBit_37 rfl (lv_at hl 1 rfl) ?_
    refine lv_iload_n hx hb dX2_turnedBit_38 rfl (lv_at hl 3 rfl) ?_
    refine lv_iload_n hx hb dX2_turnedBit_39 rfl (lv_at hl 2 rfl) ?_
    refine g_callV (b) (C := RX1) (T := TX1) (N := 4) (ci := 0) (As := [.int (nI (I)), .int (nI (K)), .int (nI (J))]) (rest := []) (c_X1_cubeBit l hI hbn hw (I := I) (J := K) (K := J) hnn hcb (by omega) (by omega) (by omega)) (cwV 3 hts gX2_turnedBit_X1_cubeBit rfl rfl rfl (by decide +kernel) ⟨Nat.le_of_ble_eq_true rfl, Nat.le_of_ble_eq_true rfl⟩) hx hb hml hown hts hK hP  (by omega) hw.1 rfl rfl hl.1 rfl (Nat.le_of_ble_eq_true rfl) (Nat.zero_le _) (Nat.zero_le _) dX2_turnedBit_40 ?_
    exact g_iret hx hb hrt hlocks dX2_turnedBit_43 rfl
  · subst e9
    refine lv_tableIn (off := 42) (tgt := 44) hx hb dX2_turnedBit_2 (by decide) (by decide) (by decide) (by decide) ?_
    refine lv_aload_n hx hb dX2_turnedBit_44 rfl (lv_at hl 0 rfl) ?_
    refine lv_iload_n hx hb dX2_turnedBit_45 rfl (lv_at hl 2 rfl) ?_
    refine lv_iload_n hx hb dX2_turnedBit_46 rfl (lv_at hl 1 rfl) ?_
    refine lv_iload_n hx hb dX2_turnedBit_47 rfl (lv_at hl 3 rfl) ?_
    refine g_callV (b) (C := RX1) (T := TX1) (N := 4) (ci := 0) (As := [.int (nI (J)), .int (nI (I)), .int (nI (K))]) (rest := []) (c_X1_cubeBit l hI hbn hw (I := J) (J := I) (K := K) hnn hcb (by omega) (by omega) (by omega)) (cwV 3 hts gX2_turnedBit_X1_cubeBit rfl rfl rfl (by decide +kernel) ⟨Nat.le_of_ble_eq_true rfl, Nat.le_of_ble_eq_true rfl⟩) hx hb hml hown hts hK hP  (by omega) hw.1 rfl rfl hl.1 rfl (Nat.le_of_ble_eq_true rfl) (Nat.zero_le _) (Nat.zero_le _) dX2_turnedBit_48 ?_
    exact g_iret hx hb hrt hlocks dX2_turnedBit_51 rfl
  · subst e9
    refine lv_tableIn (off := 50) (tgt := 52) hx hb dX2_turnedBit_2 (by decide) (by decide) (by decide) (by decide) ?_
    refine lv_aload_n hx hb dX2_turnedBit_52 rfl (lv_at hl 0 rfl) ?_
    refine lv_iload_n hx hb dX2_turnedBit_53 rfl (lv_at hl 2 rfl) ?_
    refine lv_iload_n hx hb dX2_turnedBit_54 rfl (lv_at hl 3 rfl) ?_
    refine lv_iload_n hx hb dX2_turnedBit_55 rfl (lv_at hl 1 rfl) ?_
    refine g_callV (b) (C := RX1) (T := TX1) (N := 4) (ci := 0) (As := [.int (nI (J)), .int (nI (K)), .int (nI (I))]) (rest := []) (c_X1_cubeBit l hI hbn hw (I := J) (J := K) (K := I) hnn hcb (by omega) (by omega) (by omega)) (cwV 3 hts gX2_turnedBit_X1_cubeBit rfl rfl rfl (by decide +kernel) ⟨Nat.le_of_ble_eq_true rfl, Nat.le_of_ble_eq_true rfl⟩) hx hb hml hown hts hK hP  (by omega) hw.1 rfl rfl hl.1 rfl (Nat.le_of_ble_eq_true rfl) (Nat.zero_le _) (Nat.zero_le _) dX2_turnedBit_56 ?_
    exact g_iret hx hb hrt hlocks dX2_turnedBit_59 rfl
  · subst e9
    refine lv_tableIn (off := 58) (tgt := 60) hx hb dX2_turnedBit_2 (by decide) (by decide) (by decide) (by decide) ?_
    refine lv_aload_n hx hb dX2_turnedBit_60 rfl (lv_at hl 0 rfl) ?_
    refine lv_iload_n hx hb dX2_turnedBit_61 rfl (lv_at hl 3 rfl) ?_
    refine lv_iload_n hx hb dX2_turnedBit_62 rfl (lv_at hl 1 rfl) ?_
    refine lv_iload_n hx hb dX2_turnedBit_63 rfl (lv_at hl 2 rfl) ?_
    refine g_callV (b) (C := RX1) (T := TX1) (N := 4) (ci := 0) (As := [.int (nI (K)), .int (nI (I)), .int (nI (J))]) (rest := []) (c_X1_cubeBit l hI hbn hw (I := K) (J := I) (K := J) hnn hcb (by omega) (by omega) (by omega)) (cwV 3 hts gX2_turnedBit_X1_cubeBit rfl rfl rfl (by decide +kernel) ⟨Nat.le_of_ble_eq_true rfl, Nat.le_of_ble_eq_true rfl⟩) hx hb hml hown hts hK hP  (by omega) hw.1 rfl rfl hl.1 rfl (Nat.le_of_ble_eq_true rfl) (Nat.zero_le _) (Nat.zero_le _) dX2_turnedBit_64 ?_
    exact g_iret hx hb hrt hlocks dX2_turnedBit_67 rfl
  · subst e9
    refine lv_tableIn (off := 66) (tgt := 68) hx hb dX2_turnedBit_2 (by decide) (by decide) (by decide) (by decide) ?_
    refine lv_aload_n hx hb dX2_turnedBit_68 rfl (lv_at hl 0 rfl) ?_
    refine lv_iload_n hx hb dX2_turnedBit_69 rfl (lv_at hl 3 rfl) ?_
    refine lv_iload_n hx hb dX2_turnedBit_70 rfl (lv_at hl 2 rfl) ?_
    refine lv_iload_n hx hb dX2_turnedBit_71 rfl (lv_at hl 1 rfl) ?_
    refine g_callV (b) (C := RX1) (T := TX1) (N := 4) (ci := 0) (As := [.int (nI (K)), .int (nI (J)), .int (nI (I))]) (rest := []) (c_X1_cubeBit l hI hbn hw (I := K) (J := J) (K := I) hnn hcb (by omega) (by omega) (by omega)) (cwV 3 hts gX2_turnedBit_X1_cubeBit rfl rfl rfl (by decide +kernel) ⟨Nat.le_of_ble_eq_true rfl, Nat.le_of_ble_eq_true rfl⟩) hx hb hml hown hts hK hP  (by omega) hw.1 rfl rfl hl.1 rfl (Nat.le_of_ble_eq_true rfl) (Nat.zero_le _) (Nat.zero_le _) dX2_turnedBit_72 ?_
    exact g_iret hx hb hrt hlocks dX2_turnedBit_75 rfl
set_option maxHeartbeats 4000000 in
set_option maxRecDepth 100000 in
theorem c_X2_turnedCell (l : Launch) {D : va_G} {tys : List (ClassId × FieldType)} {ad : Nat → Nat} {n : Nat} {E : Nat → va_E} {cI : ClassId} {t0 b nn : Nat} {c0 tt : Nat → Nat} (hI : tys[t0]? = some (cI, .int)) (hbn : b + 2 < n) (hw : isW cI ad E b nn c0 tt) {I J T : Nat} (hnn : nn ≤ 4) (hcb : CB nn c0) (hI4 : I < nn) (hJ4 : J < nn) (hT : T < 6) : Met l yX2_turnedCell wsX2_turnedCell ({ frames := 4, cells := 0, slots := 0, locals := 90 } : Room) (va_Pc [.ref (ad (b)), .int (nI (I)), .int (nI (J)), .int (nI (T))] (PB D tys n ad (E))) (k2_QcV (.int (nI (tcS nn c0 T I J)))) 0 0 (fun _ => False) := by
  refine g_pure (cc := cX2_turnedCell) (maxL := 6) (ret := (some .int)) (by decide) rfl (Nat.le_of_ble_eq_true rfl) ?_
  intro p e s m args below meth c hx hb hrt hts hown hlocks hml hP hK ls hl
  show W p l e ({ frames := 4, cells := 0, slots := 0, locals := 90 } : Room) s m args below meth c s.heap [] 0 0 _ _
  have hl : lv_has ls 6 [(0, .ref (ad (b))), (1, .int (nI (I))), (2, .int (nI (J))), (3, .int (nI (T)))] := hl
  refine n_iconst 0 hx hb dX2_turnedCell_0 ?_
  refine lv_istore (lv' := [(4, .int (nI (0))), (0, .ref (ad (b))), (1, .int (nI (I))), (2, .int (nI (J))), (3, .int (nI (T)))]) hx hb dX2_turnedCell_1 hl (by decide) rfl (fun ls hl => ?_)
  refine n_iconst 0 hx hb dX2_turnedCell_3 ?_
  refine lv_istore (lv' := [(5, .int (nI (0))), (4, .int (nI (0))), (0, .ref (ad (b))), (1, .int (nI (I))), (2, .int (nI (J))), (3, .int (nI (T)))]) hx hb dX2_turnedCell_4 hl (by decide) rfl (fun ls hl => ?_)
  have L_6 : ∀ (r : Nat) (acc : Nat) (k : Nat), (k ≤ nn) → (nn < k + r) → (acc = os (fun k => tbS c0 T I J k <<< k) k) → ∀ (ls : Array Slot), lv_has ls 6 [(0, .ref (ad (b))), (1, .int (nI (I))), (2, .int (nI (J))), (3, .int (nI (T))), (4, .int (nI (acc))), (5, .int (nI (k)))] → W p l e ({ frames := 4, cells := 0, slots := 0, locals := 90 } : Room) s m args below meth c s.heap [] 0 0 (MQ below (k2_QcV (.int (nI (tcS nn c0 T I J)))) args s 0 0 (fun _ => False)) (F0 m 6 ls []) := by
    intro r
    induction r with
    | zero => intro acc k hk hr ha; intros; exact absurd hr (by omega)
    | succ r ih =>
      intro acc k hk hr ha ls hl
      have ih_6 := ih
      refine lv_iload hx hb dX2_turnedCell_6 (lv_at hl 5 rfl) ?_
      refine lv_aload_n hx hb dX2_turnedCell_8 rfl (lv_at hl 0 rfl) ?_
      refine g_callV (b) (C := RX1) (T := TX1) (N := 4) (ci := 0) (As := []) (rest := [.int (nI (k))]) (c_X1_bits l hI hbn hw) (cwV 0 hts gX2_turnedCell_X1_bits rfl rfl rfl (by decide +kernel) ⟨Nat.le_of_ble_eq_true rfl, Nat.le_of_ble_eq_true rfl⟩) hx hb hml hown hts hK hP  (by omega) hw.1 rfl rfl hl.1 rfl (Nat.le_of_ble_eq_true rfl) (Nat.zero_le _) (Nat.zero_le _) dX2_turnedCell_9 ?_
      refine n_ge (tgt := 38) hx hb dX2_turnedCell_12 (by decide) (by omega) (by omega) (fun h_12 => ?_) (fun h_12 => ?_)
      · refine lv_iload hx hb dX2_turnedCell_38 (lv_at hl 4 rfl) ?_
        exact g_iret hx hb hrt hlocks dX2_turnedCell_40 (by rw [ha, show k = nn by omega]; rfl)
      · refine lv_iload hx hb dX2_turnedCell_15 (lv_at hl 4 rfl) ?_
        refine lv_aload_n hx hb dX2_turnedCell_17 rfl (lv_at hl 0 rfl) ?_
        refine lv_iload_n hx hb dX2_turnedCell_18 rfl (lv_at hl 1 rfl) ?_
        refine lv_iload_n hx hb dX2_turnedCell_19 rfl (lv_at hl 2 rfl) ?_
        refine lv_iload hx hb dX2_turnedCell_20 (lv_at hl 5 rfl) ?_
        refine lv_iload_n hx hb dX2_turnedCell_22 rfl (lv_at hl 3 rfl) ?_
        refine g_callS (As := [.ref (ad (b)), .int (nI (I)), .int (nI (J)), .int (nI (k)), .int (nI (T))]) (rest := [.int (nI (acc))]) (c_X2_turnedBit l hI hbn hw (I := I) (J := J) (K := k) (T := T) hnn hcb hI4 hJ4 (by omega) hT) (va_cwS 5 hts gX2_turnedCell_X2_turnedBit rfl rfl rfl (by decide +kernel) ⟨Nat.le_of_ble_eq_true rfl, Nat.le_of_ble_eq_true rfl⟩) hx hb hml hown hts hK hP  rfl hl.1 rfl (Nat.le_of_ble_eq_true rfl) (Nat.zero_le _) (Nat.zero_le _) dX2_turnedCell_23 ?_
        refine lv_iload hx hb dX2_turnedCell_26 (lv_at hl 5 rfl) ?_
        refine n_ishl hx hb dX2_turnedCell_28 (by omega) ?_
        refine n_ior hx hb dX2_turnedCell_29 ?_
        refine lv_istore (lv' := [(4, .int (nI (acc ||| ((tbS c0 T I J k) <<< k)))), (0, .ref (ad (b))), (1, .int (nI (I))), (2, .int (nI (J))), (3, .int (nI (T))), (5, .int (nI (k)))]) hx hb dX2_turnedCell_30 hl (by decide) rfl (fun ls hl => ?_)
        refine n_iinc 5 1 (lv' := [(5, .int (nI (k + 1))), (4, .int (nI (acc ||| ((tbS c0 T I J k) <<< k)))), (0, .ref (ad (b))), (1, .int (nI (I))), (2, .int (nI (J))), (3, .int (nI (T)))]) hx hb dX2_turnedCell_32 hl rfl (by decide) rfl (fun ls hl => ?_)
        refine n_goto 6 hx hb dX2_turnedCell_35 (by decide) ?_
        exact ih_6 (acc ||| ((tbS c0 T I J k) <<< k)) (k + 1) (by omega) (by omega) (by rw [ha]; rfl) _ (lv_sub hl [2, 3, 4, 5, 1, 0] rfl)
  exact L_6 (nn + 1) (0) (0) (Nat.zero_le _) (by omega) rfl _ (lv_sub hl [2, 3, 4, 5, 1, 0] rfl)
