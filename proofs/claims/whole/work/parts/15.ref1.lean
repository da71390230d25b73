/-! CubeWorldsModel: its world s has S 26 s numbers' bits and the cells rC S s; its map m is rM S m -/
def rC (S : Nat → Nat → Nat) (s q : Nat) : Nat := S 27 (16 * s + q % 16)
def rM (S : Nat → Nat → Nat) (m i : Nat) : Nat := S 28 (4 * m + i)
def RF (S : Nat → Nat → Nat) : Prop := (∀ s, s < 4 → (1 ≤ S 26 s ∧ S 26 s ≤ 4) ∧ CB (S 26 s) (rC S s)) ∧ ∀ m, m < 3 → ∀ i, i < 4 → rM S m i < 16
theorem rC_at (S : Nat → Nat → Nat) (s i j : Nat) (hi : i < 4) (hj : j < 4) : S 27 (16 * s + 4 * i + j) = rC S s (4 * i + j) := by
  unfold rC
  rw [Nat.add_assoc, Nat.mod_eq_of_lt (by omega)]
theorem rC_eq {S S' : Nat → Nat → Nat} {u : Nat} (hu : u < 4) (h : ∀ q, q < 64 → S' 27 q = S 27 q) : rC S' u = rC S u := by
  funext q
  exact h _ (by omega)
/-- x and its first y, as 16 x + y -/
def fbO (n : Nat) (c : Nat → Nat) : Option Nat := match lbr n c with
  | none => none
  | some x => some (16 * x + (lpr n c x).getD 0)
theorem fbO_n {n : Nat} {c : Nat → Nat} : fbO n c = none ↔ lbr n c = none := by
  unfold fbO
  cases lbr n c with
  | none => simp
  | some x => simp
theorem fbO_s {n : Nat} {c : Nat → Nat} {x y : Nat} (h1 : lbr n c = some x) (h2 : lpr n c x = some y) : fbO n c = some (16 * x + y) := by
  unfold fbO
  rw [h1]
  show some (16 * x + (lpr n c x).getD 0) = _
  rw [h2]
  rfl
theorem fbO_b {n : Nat} {c : Nat → Nat} {b : Nat} (h4 : 2 ^ n ≤ 16) (h : fbO n c = some b) : b < 256 ∧ lbr n c = some (b / 16) ∧ lpr n c (b / 16) = some (b % 16) := by
  unfold fbO at h
  cases e : lbr n c with
  | none => rw [e] at h; cases h
  | some x =>
    rw [e] at h
    have h1 := fl_some e
    have h2 := h1.2.2.1
    cases e2 : lpr n c x with
    | none => rw [e2] at h2; cases h2
    | some y =>
      have h3 := fl_some e2
      have h' : some (16 * x + (lpr n c x).getD 0) = some b := h
      rw [e2] at h'
      have h5 := Option.some.inj h'
      have h6 : (some y).getD 0 = y := rfl
      rw [h6] at h5
      have a1 : b / 16 = x := by omega
      have a2 : b % 16 = y := by omega
      refine ⟨by omega, by rw [a1], by rw [a1, a2]; exact e2⟩
theorem al_pre {p : Nat → Bool} {m n : Nat} (h : m ≤ n) (hp : al p m = false) : al p n = false := by
  cases e : al p n with
  | false => rfl
  | true =>
    have := al_yes (p := p) (n := m) (fun k hk => al_iff.mp e k (by omega))
    rw [this] at hp
    cases hp
/-- the last below n with p -/
def la (p : Nat → Bool) : Nat → Option Nat
  | 0 => none
  | n + 1 => if p n then some n else la p n
theorem la_y {p : Nat → Bool} {n : Nat} (h : p n = true) : la p (n + 1) = some n := by
  show (if p n then some n else la p n) = _
  rw [if_pos h]
theorem la_n {p : Nat → Bool} {n : Nat} (h : p n = false) : la p (n + 1) = la p n := by
  show (if p n then some n else la p n) = _
  rw [h]; rfl
theorem la_lt {p : Nat → Bool} : ∀ {n k : Nat}, la p n = some k → k < n ∧ p k = true
  | 0, k, h => by cases h
  | n + 1, k, h => by
    cases e : p n with
    | true => rw [la_y e] at h; cases h; exact ⟨by omega, e⟩
    | false => rw [la_n e] at h; have := la_lt h; exact ⟨by omega, this.2⟩
theorem la_one {p : Nat → Bool} : ∀ {n : Nat}, cnt p n = 1 → la p n = fl p 0 n
  | 0, h => by cases h
  | n + 1, h => by
    cases e : p n with
    | false =>
      rw [cnt_n e] at h
      rw [la_n e, la_one h, fl_snoc_n (by rw [Nat.zero_add]; exact e)]
    | true =>
      rw [cnt_y e] at h
      have h0 : cnt p n = 0 := by omega
      rw [la_y e]
      refine (fl_at (Nat.zero_le n) (by omega) e (fun j _ hj => ?_)).symm
      cases e2 : p j with
      | false => rfl
      | true =>
        have h1 := cnt_up p (show j + 1 ≤ n from hj)
        rw [cnt_y e2] at h1
        omega
theorem uq_la {p : Nat → Bool} {n : Nat} : uq p n = if cnt p n = 1 then la p n else none := by
  unfold uq
  by_cases h : cnt p n = 1
  · rw [if_pos h, if_pos h, la_one h]
  · rw [if_neg h, if_neg h]
def jp (n : Nat) (c : Nat → Nat) (x w y z : Nat) : Bool := if w = 3 then (asw n c x y z 0 && (asw n c x y z 1 && asw n c x y z 2)) else asw n c x y z w
def jq (n : Nat) (c : Nat → Nat) (x w y : Nat) : Bool := (decide (w < 3) || (tm n c x y == tm n c y x)) && al (jp n c x w y) (2 ^ n)
def jaR (n : Nat) (c : Nat → Nat) (x w : Nat) : Bool := al (jq n c x w) (2 ^ n)
theorem shr_pw (a n : Nat) : a / 2 ^ n = a >>> n := (Nat.shiftRight_eq_div_pow a n).symm
theorem mod_pw (a n : Nat) : a % 2 ^ n = a &&& (2 ^ n - 1) := (Nat.and_two_pow_sub_one_eq_mod a n).symm
theorem hp_ge {n P : Nat} (h : 2 ^ n * 2 ^ n ≤ P) : 2 ^ n ≤ P >>> n := by
  rw [Nat.shiftRight_eq_div_pow]
  exact (Nat.le_div_iff_mul_le (Nat.pow_pos (by decide))).mpr h
theorem and1_01 (a : Nat) : a &&& 1 = if a &&& 1 = 1 then 1 else 0 := by
  have h := Nat.and_one_is_mod a
  split
  · assumption
  · omega
theorem ja_in {p : Nat → Bool} {is2 m v : Bool} {z : Nat} (h : is2 = (m && al p z)) (h1 : is2 = true) (hv : p z = v) : v = (m && al p (z + 1)) := by
  rw [h1] at h
  have h2 := h.symm
  rw [Bool.and_eq_true] at h2
  rw [al_s, h2.1, h2.2, hv]
  rfl
theorem ja_out {p q : Nat → Bool} {is2 m is1 : Bool} {y z N : Nat} (h : is2 = (m && al p z)) (hz : N ≤ z ∧ z ≤ N ∨ (is2 = false ∧ z ≤ N)) (hq : q y = (m && al p N)) (h1 : is1 = al q y) (ht : is1 = true) : is2 = al q (y + 1) := by
  rw [al_s, ← h1, ht, hq, Bool.true_and]
  rcases hz with hz | hz
  · rw [show N = z by omega]; exact h
  · rw [hz.1] at h ⊢
    cases hm : m with
    | false => rfl
    | true =>
      rw [hm, Bool.true_and] at h
      rw [al_pre hz.2 h.symm]
      rfl
abbrev rN_ (S : Nat → Nat → Nat) (k : Nat) : Nat := S 26 k
theorem im_at (S : Nat → Nat → Nat) (m i : Nat) : S 28 (4 * m + i) = rM S m i := rfl
theorem fl_in {p : Nat → Bool} {is2 v : Bool} {z : Nat} (h : is2 = al p z) (h1 : is2 = true) (hv : p z = v) : v = al p (z + 1) := by
  rw [al_s, ← h, h1, hv]
  rfl

set_option maxHeartbeats 4000000 in
set_option maxRecDepth 100000 in
theorem c_X3_in (l : Launch) {D : va_G} {tys : List (ClassId × FieldType)} {ad : Nat → Nat} {cI cW cM : ClassId} {tI : Nat} {S : Nat → Nat → Nat} (hI : tys[tI]? = some (cI, .int)) {v : Int32} {lo hi : Nat} : Met l yX3_in wsX3_in ({ frames := 0, cells := 0, slots := 0, locals := 0 } : Room) (va_Pc [.int (v), .int (nI (lo)), .int (nI (hi))] (PB D tys 33 ad (gE cI cW cM ad S))) (k2_QcV (.int (bI (rB lo hi v)))) 0 0 (fun _ => False) := by
  refine g_pure (cc := cX3_in) (maxL := 3) (ret := (some .boolean)) (by decide) rfl (Nat.le_of_ble_eq_true rfl) ?_
  intro p e s m args below meth c hx hb hrt hts hown hlocks hml hP hK ls hl
  show W p l e ({ frames := 0, cells := 0, slots := 0, locals := 0 } : Room) s m args below meth c s.heap [] 0 0 _ _
  have hl : lv_has ls 3 [(0, .int (v)), (1, .int (nI (lo))), (2, .int (nI (hi)))] := hl
  refine lv_iload_n hx hb dX3_in_0 rfl (lv_at hl 0 rfl) ?_
  refine lv_iload_n hx hb dX3_in_1 rfl (lv_at hl 1 rfl) ?_
  refine lv_icmp_lt (tgt := 14) hx hb dX3_in_2 (by decide) (fun h_2 => ?_) (fun h_2 => ?_)
  · refine n_iconst 0 hx hb dX3_in_14 ?_
    exact g_zret (false) hx hb hrt hlocks dX3_in_15 rfl (congrArg (fun b => Value.int (bI b)) (decide_eq_false (fun z => k2_nlt z.1 h_2)))
  · refine lv_iload_n hx hb dX3_in_5 rfl (lv_at hl 0 rfl) ?_
    refine lv_iload_n hx hb dX3_in_6 rfl (lv_at hl 2 rfl) ?_
    refine lv_icmp_gt (tgt := 14) hx hb dX3_in_7 (by decide) (fun h_7 => ?_) (fun h_7 => ?_)
    · refine n_iconst 0 hx hb dX3_in_14 ?_
      exact g_zret (false) hx hb hrt hlocks dX3_in_15 rfl (congrArg (fun b => Value.int (bI b)) (decide_eq_false (fun z => k2_nlt z.2 h_7)))
    · refine n_iconst 1 hx hb dX3_in_10 ?_
      refine n_goto 15 hx hb dX3_in_11 (by decide) ?_
      exact g_zret (true) hx hb hrt hlocks dX3_in_15 rfl (congrArg (fun b => Value.int (bI b)) (decide_eq_true ⟨k2_le h_2, k2_le h_7⟩))
set_option maxHeartbeats 4000000 in
set_option maxRecDepth 100000 in
theorem c_X3_isSlot (l : Launch) {D : va_G} {tys : List (ClassId × FieldType)} {ad : Nat → Nat} {cI cW cM : ClassId} {tI : Nat} {S : Nat → Nat → Nat} (hI : tys[tI]? = some (cI, .int)) {v : Int32} : Met l yX3_isSlot wsX3_isSlot ({ frames := 1, cells := 0, slots := 0, locals := 22 } : Room) (va_Pc [.int (v)] (PB D tys 33 ad (gE cI cW cM ad S))) (k2_QcV (.int (bI (rB 0 3 v)))) 0 0 (fun _ => False) := by
  refine g_pure (cc := cX3_isSlot) (maxL := 1) (ret := (some .boolean)) (by decide) rfl (Nat.le_of_ble_eq_true rfl) ?_
  intro p e s m args below meth c hx hb hrt hts hown hlocks hml hP hK ls hl
  show W p l e ({ frames := 1, cells := 0, slots := 0, locals := 22 } : Room) s m args below meth c s.heap [] 0 0 _ _
  have hl : lv_has ls 1 [(0, .int (v))] := hl
  refine lv_iload_n hx hb dX3_isSlot_0 rfl (lv_at hl 0 rfl) ?_
  refine n_iconst 0 hx hb dX3_isSlot_1 ?_
  refine n_iconst 3 hx hb dX3_isSlot_2 ?_
  refine g_callS (As := [.int (v), .int (nI (0)), .int (nI (3))]) (rest := []) (c_X3_in l hI (v := v) (lo := 0) (hi := 3)) (va_cwS 3 hts gX3_isSlot_X3_in rfl rfl rfl (by decide +kernel) ⟨Nat.le_of_ble_eq_true rfl, Nat.le_of_ble_eq_true rfl⟩) hx hb hml hown hts hK hP  rfl hl.1 rfl (Nat.le_of_ble_eq_true rfl) (Nat.zero_le _) (Nat.zero_le _) dX3_isSlot_3 ?_
  exact g_zret (rB 0 3 v) hx hb hrt hlocks dX3_isSlot_6 rfl rfl
set_option maxHeartbeats 4000000 in
set_option maxRecDepth 100000 in
theorem c_X3_isMap (l : Launch) {D : va_G} {tys : List (ClassId × FieldType)} {ad : Nat → Nat} {cI cW cM : ClassId} {tI : Nat} {S : Nat → Nat → Nat} (hI : tys[tI]? = some (cI, .int)) {v : Int32} : Met l yX3_isMap wsX3_isMap ({ frames := 1, cells := 0, slots := 0, locals := 22 } : Room) (va_Pc [.int (v)] (PB D tys 33 ad (gE cI cW cM ad S))) (k2_QcV (.int (bI (rB 0 2 v)))) 0 0 (fun _ => False) := by
  refine g_pure (cc := cX3_isMap) (maxL := 1) (ret := (some .boolean)) (by decide) rfl (Nat.le_of_ble_eq_true rfl) ?_
  intro p e s m args below meth c hx hb hrt hts hown hlocks hml hP hK ls hl
  show W p l e ({ frames := 1, cells := 0, slots := 0, locals := 22 } : Room) s m args below meth c s.heap [] 0 0 _ _
  have hl : lv_has ls 1 [(0, .int (v))] := hl
  refine lv_iload_n hx hb dX3_isMap_0 rfl (lv_at hl 0 rfl) ?_
  refine n_iconst 0 hx hb dX3_isMap_1 ?_
  refine n_iconst 2 hx hb dX3_isMap_2 ?_
  refine g_callS (As := [.int (v), .int (nI (0)), .int (nI (2))]) (rest := []) (c_X3_in l hI (v := v) (lo := 0) (hi := 2)) (va_cwS 3 hts gX3_isMap_X3_in rfl rfl rfl (by decide +kernel) ⟨Nat.le_of_ble_eq_true rfl, Nat.le_of_ble_eq_true rfl⟩) hx hb hml hown hts hK hP  rfl hl.1 rfl (Nat.le_of_ble_eq_true rfl) (Nat.zero_le _) (Nat.zero_le _) dX3_isMap_3 ?_
  exact g_zret (rB 0 2 v) hx hb hrt hlocks dX3_isMap_6 rfl rfl
set_option maxHeartbeats 4000000 in
set_option maxRecDepth 100000 in
theorem c_X3_numbers (l : Launch) {D : va_G} {tys : List (ClassId × FieldType)} {ad : Nat → Nat} {cI cW cM : ClassId} {tI : Nat} {S : Nat → Nat → Nat} (hI : tys[tI]? = some (cI, .int)) {k : Nat} (hk5 : k < 5) (h4k : S 26 k ≤ 4) : Met l yX3_numbers wsX3_numbers ({ frames := 0, cells := 0, slots := 0, locals := 0 } : Room) (va_Pc [.ref (ad (25)), .int (nI (k))] (PB D tys 33 ad (gE cI cW cM ad S))) (k2_QcV (.int (nI (2 ^ S 26 k)))) 0 0 (fun _ => False) := by
  refine g_pure (cc := cX3_numbers) (maxL := 2) (ret := (some .int)) (by decide) rfl (Nat.le_of_ble_eq_true rfl) ?_
  intro p e s m args below meth c hx hb hrt hts hown hlocks hml hP hK ls hl
  show W p l e ({ frames := 0, cells := 0, slots := 0, locals := 0 } : Room) s m args below meth c s.heap [] 0 0 _ _
  have hl : lv_has ls 2 [(0, .ref (ad (25))), (1, .int (nI (k)))] := hl
  refine n_iconst 1 hx hb dX3_numbers_0 ?_
  refine lv_aload_n hx hb dX3_numbers_1 rfl (lv_at hl 0 rfl) ?_
  refine g_get (25) 0 (C := RX3) (T := TX3) (N := 7) (ci := 2) (ref := "CubeWorldsModel") hx hb hts (by decide +kernel) hown hK hP (by decide) rfl rfl (by decide) (by decide +kernel) rfl rfl dX3_numbers_2 ?_
  refine lv_iload_n hx hb dX3_numbers_5 rfl (lv_at hl 1 rfl) ?_
  refine g_iald (26) (k) (t0 := _) hx hb hK hP (by decide) (gI (S := S) 26 5 rfl (by decide)) hI hk5 (by decide) dX3_numbers_6 ?_
  refine n_ishl hx hb dX3_numbers_7 (by omega) ?_
  refine n_eq (show nI (1 <<< ((S 26) (k))) = nI (2 ^ S 26 k) from by rw [shl1]) ?_
  exact g_iret hx hb hrt hlocks dX3_numbers_8 rfl
set_option maxHeartbeats 4000000 in
set_option maxRecDepth 100000 in
theorem c_X3_isNumber (l : Launch) {D : va_G} {tys : List (ClassId × FieldType)} {ad : Nat → Nat} {cI cW cM : ClassId} {tI : Nat} {S : Nat → Nat → Nat} (hI : tys[tI]? = some (cI, .int)) {k : Nat} (hk5 : k < 5) (h4k : S 26 k ≤ 4) {v : Int32} : Met l yX3_isNumber wsX3_isNumber ({ frames := 1, cells := 0, slots := 0, locals := 22 } : Room) (va_Pc [.ref (ad (25)), .int (nI (k)), .int (v)] (PB D tys 33 ad (gE cI cW cM ad S))) (k2_QcV (.int (bI (rB 0 (2 ^ S 26 k - 1) v)))) 0 0 (fun _ => False) := by
  have p4 := pow4 h4k
  have p0 : 0 < 2 ^ S 26 k := Nat.pow_pos (by decide)
  refine g_pure (cc := cX3_isNumber) (maxL := 3) (ret := (some .boolean)) (by decide) rfl (Nat.le_of_ble_eq_true rfl) ?_
  intro p e s m args below meth c hx hb hrt hts hown hlocks hml hP hK ls hl
  show W p l e ({ frames := 1, cells := 0, slots := 0, locals := 22 } : Room) s m args below meth c s.heap [] 0 0 _ _
  have hl : lv_has ls 3 [(0, .ref (ad (25))), (1, .int (nI (k))), (2, .int (v))] := hl
  refine lv_iload_n hx hb dX3_isNumber_0 rfl (lv_at hl 2 rfl) ?_
  refine n_iconst 0 hx hb dX3_isNumber_1 ?_
  refine lv_aload_n hx hb dX3_isNumber_2 rfl (lv_at hl 0 rfl) ?_
  refine lv_iload_n hx hb dX3_isNumber_3 rfl (lv_at hl 1 rfl) ?_
  refine g_callV (25) (C := RX3) (T := TX3) (N := 7) (ci := 2) (As := [.int (nI (k))]) (rest := [.int (nI (0)), .int (v)]) (c_X3_numbers l hI (k := k) hk5 h4k) (cwV 1 hts gX3_isNumber_X3_numbers rfl rfl rfl (by decide +kernel) ⟨Nat.le_of_ble_eq_true rfl, Nat.le_of_ble_eq_true rfl⟩) hx hb hml hown hts hK hP  (by decide) rfl rfl rfl hl.1 rfl (Nat.le_of_ble_eq_true rfl) (Nat.zero_le _) (Nat.zero_le _) dX3_isNumber_4 ?_
  refine n_iconst 1 hx hb dX3_isNumber_7 ?_
  refine n_isub hx hb dX3_isNumber_8 (by omega) ?_
  refine g_callS (As := [.int (v), .int (nI (0)), .int (nI ((2 ^ S 26 k) - 1))]) (rest := []) (c_X3_in l hI (v := v) (lo := 0) (hi := (2 ^ S 26 k) - 1)) (va_cwS 3 hts gX3_isNumber_X3_in rfl rfl rfl (by decide +kernel) ⟨Nat.le_of_ble_eq_true rfl, Nat.le_of_ble_eq_true rfl⟩) hx hb hml hown hts hK hP  rfl hl.1 rfl (Nat.le_of_ble_eq_true rfl) (Nat.zero_le _) (Nat.zero_le _) dX3_isNumber_9 ?_
  exact g_zret (rB 0 ((2 ^ S 26 k) - 1) v) hx hb hrt hlocks dX3_isNumber_12 rfl rfl
set_option maxHeartbeats 4000000 in
set_option maxRecDepth 100000 in
theorem c_X3_times (l : Launch) {D : va_G} {tys : List (ClassId × FieldType)} {ad : Nat → Nat} {cI cW cM : ClassId} {tI : Nat} {S : Nat → Nat → Nat} (hI : tys[tI]? = some (cI, .int)) {k : Nat} (hk5 : k < 5) (h4k : S 26 k ≤ 4) {X Y : Nat} (hX : X < 2 ^ 31) (hY : Y < 2 ^ 31) : Met l yX3_times wsX3_times ({ frames := 0, cells := 0, slots := 0, locals := 0 } : Room) (va_Pc [.ref (ad (25)), .int (nI (k)), .int (nI (X)), .int (nI (Y))] (PB D tys 33 ad (gE cI cW cM ad S))) (k2_QcV (.int (nI (tm (S 26 k) (rC S k) X Y)))) 0 0 (fun _ => False) := by
  refine g_pure (cc := cX3_times) (maxL := 7) (ret := (some .int)) (by decide) rfl (Nat.le_of_ble_eq_true rfl) ?_
  intro p e s m args below meth c hx hb hrt hts hown hlocks hml hP hK ls hl
  show W p l e ({ frames := 0, cells := 0, slots := 0, locals := 0 } : Room) s m args below meth c s.heap [] 0 0 _ _
  have hl : lv_has ls 7 [(0, .ref (ad (25))), (1, .int (nI (k))), (2, .int (nI (X))), (3, .int (nI (Y)))] := hl
  refine n_iconst 0 hx hb dX3_times_0 ?_
  refine lv_istore (lv' := [(4, .int (nI (0))), (0, .ref (ad (25))), (1, .int (nI (k))), (2, .int (nI (X))), (3, .int (nI (Y)))]) hx hb dX3_times_1 hl (by decide) rfl (fun ls hl => ?_)
  refine n_iconst 0 hx hb dX3_times_3 ?_
  refine lv_istore (lv' := [(5, .int (nI (0))), (4, .int (nI (0))), (0, .ref (ad (25))), (1, .int (nI (k))), (2, .int (nI (X))), (3, .int (nI (Y)))]) hx hb dX3_times_4 hl (by decide) rfl (fun ls hl => ?_)
  have L_6 : ∀ (r : Nat) (acc : Nat) (i : Nat), (i ≤ S 26 k) → (S 26 k < i + r) → (acc = xs (tmi (S 26 k) (rC S k) X Y) i) → ∀ (ls : Array Slot), lv_has ls 7 [(0, .ref (ad (25))), (1, .int (nI (k))), (2, .int (nI (X))), (3, .int (nI (Y))), (4, .int (nI (acc))), (5, .int (nI (i)))] → W p l e ({ frames := 0, cells := 0, slots := 0, locals := 0 } : Room) s m args below meth c s.heap [] 0 0 (MQ below (k2_QcV (.int (nI (tm (S 26 k) (rC S k) X Y)))) args s 0 0 (fun _ => False)) (F0 m 6 ls []) := by
    intro r
    induction r with
    | zero => intro acc i hi hr ha; intros; exact absurd hr (by omega)
    | succ r ih =>
      intro acc i hi hr ha ls hl
      have ih_6 := ih
      refine lv_iload hx hb dX3_times_6 (lv_at hl 5 rfl) ?_
      refine lv_aload_n hx hb dX3_times_8 rfl (lv_at hl 0 rfl) ?_
      refine g_get (25) 0 (C := RX3) (T := TX3) (N := 7) (ci := 2) (ref := "CubeWorldsModel") hx hb hts (by decide +kernel) hown hK hP (by decide) rfl rfl (by decide) (by decide +kernel) rfl rfl dX3_times_9 ?_
      refine lv_iload_n hx hb dX3_times_12 rfl (lv_at hl 1 rfl) ?_
      refine g_iald (26) (k) (t0 := _) hx hb hK hP (by decide) (gI (S := S) 26 5 rfl (by decide)) hI hk5 (by decide) dX3_times_13 ?_
      refine n_ge (tgt := 84) hx hb dX3_times_14 (by decide) (by omega) (by omega) (fun h_14 => ?_) (fun h_14 => ?_)
      · refine lv_iload hx hb dX3_times_84 (lv_at hl 4 rfl) ?_
        exact g_iret hx hb hrt hlocks dX3_times_86 (by rw [ha, show i = S 26 k by omega]; rfl)
      · refine n_iconst 0 hx hb dX3_times_17 ?_
        refine lv_istore (lv' := [(6, .int (nI (0))), (0, .ref (ad (25))), (1, .int (nI (k))), (2, .int (nI (X))), (3, .int (nI (Y))), (4, .int (nI (acc))), (5, .int (nI (i)))]) hx hb dX3_times_18 hl (by decide) rfl (fun ls hl => ?_)
        have L_20 : ∀ (r : Nat) (acc2 : Nat) (j : Nat), (j ≤ S 26 k) → (S 26 k < j + r) → (acc2 = xs (tmi (S 26 k) (rC S k) X Y) i ^^^ xs (fun j => if X.testBit i && Y.testBit j then rC S k (4 * i + j) else 0) j) → ∀ (ls : Array Slot), lv_has ls 7 [(0, .ref (ad (25))), (1, .int (nI (k))), (2, .int (nI (X))), (3, .int (nI (Y))), (4, .int (nI (acc2))), (5, .int (nI (i))), (6, .int (nI (j)))] → W p l e ({ frames := 0, cells := 0, slots := 0, locals := 0 } : Room) s m args below meth c s.heap [] 0 0 (MQ below (k2_QcV (.int (nI (tm (S 26 k) (rC S k) X Y)))) args s 0 0 (fun _ => False)) (F0 m 20 ls []) := by
          intro r
          induction r with
          | zero => intro acc2 j hj hr2 ha2; intros; exact absurd hr2 (by omega)
          | succ r ih =>
            intro acc2 j hj hr2 ha2 ls hl
            have ih_20 := ih
            refine lv_iload hx hb dX3_times_20 (lv_at hl 6 rfl) ?_
            refine lv_aload_n hx hb dX3_times_22 rfl (lv_at hl 0 rfl) ?_
            refine g_get (25) 0 (C := RX3) (T := TX3) (N := 7) (ci := 2) (ref := "CubeWorldsModel") hx hb hts (by decide +kernel) hown hK hP (by decide) rfl rfl (by decide) (by decide +kernel) rfl rfl dX3_times_23 ?_
            refine lv_iload_n hx hb dX3_times_26 rfl (lv_at hl 1 rfl) ?_
            refine g_iald (26) (k) (t0 := _) hx hb hK hP (by decide) (gI (S := S) 26 5 rfl (by decide)) hI hk5 (by decide) dX3_times_27 ?_
            refine n_ge (tgt := 78) hx hb dX3_times_28 (by decide) (by omega) (by omega) (fun h_28 => ?_) (fun h_28 => ?_)
            · refine n_iinc 5 1 (lv' := [(5, .int (nI (i + 1))), (0, .ref (ad (25))), (1, .int (nI (k))), (2, .int (nI (X))), (3, .int (nI (Y))), (4, .int (nI (acc2))), (6, .int (nI (j)))]) hx hb dX3_times_78 hl rfl (by decide) rfl (fun ls hl => ?_)
              refine n_goto 6 hx hb dX3_times_81 (by decide) ?_
              exact ih_6 (acc2) (i + 1) (by omega) (by omega) (by rw [ha2, xs_s, show j = S 26 k by omega]; rfl) _ (lv_sub hl [1, 2, 3, 4, 5, 0] rfl)
            · refine lv_iload hx hb dX3_times_31 (lv_at hl 4 rfl) ?_
              refine lv_iload_n hx hb dX3_times_33 rfl (lv_at hl 2 rfl) ?_
              refine lv_iload hx hb dX3_times_34 (lv_at hl 5 rfl) ?_
              refine n_ishr hx hb dX3_times_36 hX (by omega) ?_
              refine lv_iload_n hx hb dX3_times_37 rfl (lv_at hl 3 rfl) ?_
              refine lv_iload hx hb dX3_times_38 (lv_at hl 6 rfl) ?_
              refine n_ishr hx hb dX3_times_40 hY (by omega) ?_
              refine n_iand hx hb dX3_times_41 ?_
              refine n_iconst 1 hx hb dX3_times_42 ?_
              refine n_iand hx hb dX3_times_43 ?_
              refine n_iconst 1 hx hb dX3_times_44 ?_
              refine n_cne (tgt := 68) hx hb dX3_times_45 (by decide) (and1_lt _) (by decide) (fun h_45 => ?_) (fun h_45 => ?_)
              · refine n_iconst 0 hx hb dX3_times_68 ?_
                refine n_ixor hx hb dX3_times_69 ?_
                refine lv_istore (lv' := [(4, .int (nI (acc2 ^^^ 0))), (0, .ref (ad (25))), (1, .int (nI (k))), (2, .int (nI (X))), (3, .int (nI (Y))), (5, .int (nI (i))), (6, .int (nI (j)))]) hx hb dX3_times_70 hl (by decide) rfl (fun ls hl => ?_)
                refine n_iinc 6 1 (lv' := [(6, .int (nI (j + 1))), (4, .int (nI (acc2 ^^^ 0))), (0, .ref (ad (25))), (1, .int (nI (k))), (2, .int (nI (X))), (3, .int (nI (Y))), (5, .int (nI (i)))]) hx hb dX3_times_72 hl rfl (by decide) rfl (fun ls hl => ?_)
                refine n_goto 20 hx hb dX3_times_75 (by decide) ?_
                exact ih_20 (acc2 ^^^ 0) (j + 1) (by omega) (by omega) (by rw [ha2, tmi_n (fun z => h_45 ((bit1 X Y i j).mpr z)), Nat.xor_zero]) _ (lv_sub hl [2, 3, 4, 5, 1, 6, 0] rfl)
              · refine lv_aload_n hx hb dX3_times_48 rfl (lv_at hl 0 rfl) ?_
                refine g_get (25) 1 (C := RX3) (T := TX3) (N := 7) (ci := 2) (ref := "CubeWorldsModel") hx hb hts (by decide +kernel) hown hK hP (by decide) rfl rfl (by decide) (by decide +kernel) rfl rfl dX3_times_49 ?_
                refine lv_bipush (v := nI 16) hx hb dX3_times_52 (by decide) ?_
                refine lv_iload_n hx hb dX3_times_54 rfl (lv_at hl 1 rfl) ?_
                refine n_imul hx hb dX3_times_55 ?_
                refine n_iconst 4 hx hb dX3_times_56 ?_
                refine lv_iload hx hb dX3_times_57 (lv_at hl 5 rfl) ?_
                refine n_imul hx hb dX3_times_59 ?_
                refine n_iadd hx hb dX3_times_60 ?_
                refine lv_iload hx hb dX3_times_61 (lv_at hl 6 rfl) ?_
                refine n_iadd hx hb dX3_times_63 ?_
                refine g_iald (27) (((16 * k) + (4 * i)) + j) (t0 := _) hx hb hK hP (by decide) (gI (S := S) 27 80 rfl (by decide)) hI (by omega) (by decide) dX3_times_64 ?_
                refine n_eq (show nI ((S 27) (((16 * k) + (4 * i)) + j)) = nI (rC S k (4 * i + j)) from by rw [rC_at S k i j (by omega) (by omega)]) ?_
                refine n_goto 69 hx hb dX3_times_65 (by decide) ?_
                refine n_ixor hx hb dX3_times_69 ?_
                refine lv_istore (lv' := [(4, .int (nI (acc2 ^^^ (rC S k (4 * i + j))))), (0, .ref (ad (25))), (1, .int (nI (k))), (2, .int (nI (X))), (3, .int (nI (Y))), (5, .int (nI (i))), (6, .int (nI (j)))]) hx hb dX3_times_70 hl (by decide) rfl (fun ls hl => ?_)
                refine n_iinc 6 1 (lv' := [(6, .int (nI (j + 1))), (4, .int (nI (acc2 ^^^ (rC S k (4 * i + j))))), (0, .ref (ad (25))), (1, .int (nI (k))), (2, .int (nI (X))), (3, .int (nI (Y))), (5, .int (nI (i)))]) hx hb dX3_times_72 hl rfl (by decide) rfl (fun ls hl => ?_)
                refine n_goto 20 hx hb dX3_times_75 (by decide) ?_
                exact ih_20 (acc2 ^^^ (rC S k (4 * i + j))) (j + 1) (by omega) (by omega) (by rw [ha2, tmi_y ((bit1 X Y i j).mp h_45), Nat.xor_assoc]) _ (lv_sub hl [2, 3, 4, 5, 1, 6, 0] rfl)
        exact L_20 (S 26 k + 1) (acc) (0) (Nat.zero_le _) (by omega) (by rw [ha]; exact (Nat.xor_zero _).symm) _ (lv_sub hl [1, 2, 3, 4, 5, 6, 0] rfl)
  exact L_6 (S 26 k + 1) (0) (0) (Nat.zero_le _) (by omega) rfl _ (lv_sub hl [2, 3, 4, 5, 1, 0] rfl)
set_option maxHeartbeats 4000000 in
set_option maxRecDepth 100000 in
theorem c_X3_firstBroken (l : Launch) {D : va_G} {tys : List (ClassId × FieldType)} {ad : Nat → Nat} {cI cW cM : ClassId} {tI : Nat} {S : Nat → Nat → Nat} (hI : tys[tI]? = some (cI, .int)) {k : Nat} (hk5 : k < 5) (h4k : S 26 k ≤ 4) (hcb : CB (S 26 k) (rC S k)) : Met l yX3_firstBroken wsX3_firstBroken ({ frames := 1, cells := 0, slots := 0, locals := 26 } : Room) (va_Pc [.ref (ad (25)), .int (nI (k))] (PB D tys 33 ad (gE cI cW cM ad S))) (k2_QcV (.int (oI (fbO (S 26 k) (rC S k))))) 0 0 (fun _ => False) := by
  have p4 := pow4 h4k
  have p0 : 0 < 2 ^ S 26 k := Nat.pow_pos (by decide)
  refine g_pure (cc := cX3_firstBroken) (maxL := 4) (ret := (some .int)) (by decide) rfl (Nat.le_of_ble_eq_true rfl) ?_
  intro p e s m args below meth c hx hb hrt hts hown hlocks hml hP hK ls hl
  show W p l e ({ frames := 1, cells := 0, slots := 0, locals := 26 } : Room) s m args below meth c s.heap [] 0 0 _ _
  have hl : lv_has ls 4 [(0, .ref (ad (25))), (1, .int (nI (k)))] := hl
  refine n_iconst 1 hx hb dX3_firstBroken_0 ?_
  refine lv_istore_n (lv' := [(2, .int (nI (1))), (0, .ref (ad (25))), (1, .int (nI (k)))]) hx hb dX3_firstBroken_1 rfl hl (by decide) rfl (fun ls hl => ?_)
  have L_2 : ∀ (r : Nat) (x : Nat), (1 ≤ x) → (x ≤ 2 ^ S 26 k) → (2 ^ S 26 k < x + r) → (∀ j, 1 ≤ j → j < x → (lpr (S 26 k) (rC S k) j).isSome = false) → ∀ (ls : Array Slot), lv_has ls 4 [(0, .ref (ad (25))), (1, .int (nI (k))), (2, .int (nI (x)))] → W p l e ({ frames := 1, cells := 0, slots := 0, locals := 26 } : Room) s m args below meth c s.heap [] 0 0 (MQ below (k2_QcV (.int (oI (fbO (S 26 k) (rC S k))))) args s 0 0 (fun _ => False)) (F0 m 2 ls []) := by
    intro r
    induction r with
    | zero => intro x hx1 hx2 hr hno; intros; exact absurd hr (by omega)
    | succ r ih =>
      intro x hx1 hx2 hr hno ls hl
      have ih_2 := ih
      refine lv_iload_n hx hb dX3_firstBroken_2 rfl (lv_at hl 2 rfl) ?_
      refine lv_aload_n hx hb dX3_firstBroken_3 rfl (lv_at hl 0 rfl) ?_
      refine lv_iload_n hx hb dX3_firstBroken_4 rfl (lv_at hl 1 rfl) ?_
      refine g_callV (25) (C := RX3) (T := TX3) (N := 7) (ci := 2) (As := [.int (nI (k))]) (rest := [.int (nI (x))]) (c_X3_numbers l hI (k := k) hk5 h4k) (cwV 1 hts gX3_firstBroken_X3_numbers rfl rfl rfl (by decide +kernel) ⟨Nat.le_of_ble_eq_true rfl, Nat.le_of_ble_eq_true rfl⟩) hx hb hml hown hts hK hP  (by decide) rfl rfl rfl hl.1 rfl (Nat.le_of_ble_eq_true rfl) (Nat.zero_le _) (Nat.zero_le _) dX3_firstBroken_5 ?_
      refine n_ge (tgt := 51) hx hb dX3_firstBroken_8 (by decide) (by omega) (by omega) (fun h_8 => ?_) (fun h_8 => ?_)
      · refine lv_bipush (v := (-9)) hx hb dX3_firstBroken_51 (by decide) ?_
        exact g_iret hx hb hrt hlocks dX3_firstBroken_53 (by rw [show fbO (S 26 k) (rC S k) = none from fbO_n.mpr (fl_no (fun j h1 h2 => hno j h1 (by omega)))]; rfl)
      · refine n_iconst 1 hx hb dX3_firstBroken_11 ?_
        refine lv_istore_n (lv' := [(3, .int (nI (1))), (0, .ref (ad (25))), (1, .int (nI (k))), (2, .int (nI (x)))]) hx hb dX3_firstBroken_12 rfl hl (by decide) rfl (fun ls hl => ?_)
        have L_13 : ∀ (r : Nat) (y : Nat), (1 ≤ y) → (y ≤ 2 ^ S 26 k) → (2 ^ S 26 k < y + r) → (∀ j, 1 ≤ j → j < y → (tm (S 26 k) (rC S k) x j == 0) = false) → ∀ (ls : Array Slot), lv_has ls 4 [(0, .ref (ad (25))), (1, .int (nI (k))), (2, .int (nI (x))), (3, .int (nI (y)))] → W p l e ({ frames := 1, cells := 0, slots := 0, locals := 26 } : Room) s m args below meth c s.heap [] 0 0 (MQ below (k2_QcV (.int (oI (fbO (S 26 k) (rC S k))))) args s 0 0 (fun _ => False)) (F0 m 13 ls []) := by
          intro r
          induction r with
          | zero => intro y hy1 hy2 hr2 hno2; intros; exact absurd hr2 (by omega)
          | succ r ih =>
            intro y hy1 hy2 hr2 hno2 ls hl
            have ih_13 := ih
            refine lv_iload_n hx hb dX3_firstBroken_13 rfl (lv_at hl 3 rfl) ?_
            refine lv_aload_n hx hb dX3_firstBroken_14 rfl (lv_at hl 0 rfl) ?_
            refine lv_iload_n hx hb dX3_firstBroken_15 rfl (lv_at hl 1 rfl) ?_
            refine g_callV (25) (C := RX3) (T := TX3) (N := 7) (ci := 2) (As := [.int (nI (k))]) (rest := [.int (nI (y))]) (c_X3_numbers l hI (k := k) hk5 h4k) (cwV 1 hts gX3_firstBroken_X3_numbers rfl rfl rfl (by decide +kernel) ⟨Nat.le_of_ble_eq_true rfl, Nat.le_of_ble_eq_true rfl⟩) hx hb hml hown hts hK hP  (by decide) rfl rfl rfl hl.1 rfl (Nat.le_of_ble_eq_true rfl) (Nat.zero_le _) (Nat.zero_le _) dX3_firstBroken_16 ?_
            refine n_ge (tgt := 45) hx hb dX3_firstBroken_19 (by decide) (by omega) (by omega) (fun h_19 => ?_) (fun h_19 => ?_)
            · refine n_iinc 2 1 (lv' := [(2, .int (nI (x + 1))), (0, .ref (ad (25))), (1, .int (nI (k))), (3, .int (nI (y)))]) hx hb dX3_firstBroken_45 hl rfl (by decide) rfl (fun ls hl => ?_)
              refine n_goto 2 hx hb dX3_firstBroken_48 (by decide) ?_
              exact ih_2 (x + 1) (by omega) (by omega) (by omega) (no_s hno (sF (fl_no (fun j h1 h2 => hno2 j h1 (by omega))))) _ (lv_sub hl [1, 2, 0] rfl)
            · refine lv_aload_n hx hb dX3_firstBroken_22 rfl (lv_at hl 0 rfl) ?_
              refine lv_iload_n hx hb dX3_firstBroken_23 rfl (lv_at hl 1 rfl) ?_
              refine lv_iload_n hx hb dX3_firstBroken_24 rfl (lv_at hl 2 rfl) ?_
              refine lv_iload_n hx hb dX3_firstBroken_25 rfl (lv_at hl 3 rfl) ?_
              refine g_callV (25) (C := RX3) (T := TX3) (N := 7) (ci := 2) (As := [.int (nI (k)), .int (nI (x)), .int (nI (y))]) (rest := []) (c_X3_times l hI (k := k) hk5 h4k (X := x) (Y := y) (by omega) (by omega)) (cwV 3 hts gX3_firstBroken_X3_times rfl rfl rfl (by decide +kernel) ⟨Nat.le_of_ble_eq_true rfl, Nat.le_of_ble_eq_true rfl⟩) hx hb hml hown hts hK hP  (by decide) rfl rfl rfl hl.1 rfl (Nat.le_of_ble_eq_true rfl) (Nat.zero_le _) (Nat.zero_le _) dX3_firstBroken_26 ?_
              have hm9 := tm_lt hcb x y
              refine n_z_ne (tgt := 39) hx hb dX3_firstBroken_29 (by decide) (by omega) (fun h_29 => ?_) (fun h_29 => ?_)
              · refine n_iinc 3 1 (lv' := [(3, .int (nI (y + 1))), (0, .ref (ad (25))), (1, .int (nI (k))), (2, .int (nI (x)))]) hx hb dX3_firstBroken_39 hl rfl (by decide) rfl (fun ls hl => ?_)
                refine n_goto 13 hx hb dX3_firstBroken_42 (by decide) ?_
                exact ih_13 (y + 1) (by omega) (by omega) (by omega) (no_s hno2 (bF h_29)) _ (lv_sub hl [1, 2, 3, 0] rfl)
              · refine lv_bipush (v := nI 16) hx hb dX3_firstBroken_32 (by decide) ?_
                refine lv_iload_n hx hb dX3_firstBroken_34 rfl (lv_at hl 2 rfl) ?_
                refine n_imul hx hb dX3_firstBroken_35 ?_
                refine lv_iload_n hx hb dX3_firstBroken_36 rfl (lv_at hl 3 rfl) ?_
                refine n_iadd hx hb dX3_firstBroken_37 ?_
                exact g_iret hx hb hrt hlocks dX3_firstBroken_38 (by
              have e1 : lpr (S 26 k) (rC S k) x = some y := fl_at hy1 (by omega) (bT h_29) hno2
              have e2 : lbr (S 26 k) (rC S k) = some x := fl_at hx1 (by omega) (by rw [e1]; rfl) hno
              rw [fbO_s e2 e1]; rfl)
        exact L_13 (2 ^ S 26 k + 1) (1) (Nat.le_refl _) (by omega) (by omega) (fun j h1 h2 => absurd h1 (by omega)) _ (lv_sub hl [1, 2, 3, 0] rfl)
  exact L_2 (2 ^ S 26 k + 1) (1) (Nat.le_refl _) (by omega) (by omega) (fun j h1 h2 => absurd h1 (by omega)) _ (lv_sub hl [1, 2, 0] rfl)
set_option maxHeartbeats 4000000 in
set_option maxRecDepth 100000 in
theorem c_X3_bit (l : Launch) {D : va_G} {tys : List (ClassId × FieldType)} {ad : Nat → Nat} {cI cW cM : ClassId} {tI : Nat} {S : Nat → Nat → Nat} (hI : tys[tI]? = some (cI, .int)) {k : Nat} (hk5 : k < 5) (h4k : S 26 k ≤ 4) (hcb : CB (S 26 k) (rC S k)) {I J K : Nat} (hI4 : I < S 26 k) (hJ4 : J < S 26 k) (hK4 : K < S 26 k) : Met l yX3_bit wsX3_bit ({ frames := 0, cells := 0, slots := 0, locals := 0 } : Room) (va_Pc [.ref (ad (25)), .int (nI (k)), .int (nI (I)), .int (nI (J)), .int (nI (K))] (PB D tys 33 ad (gE cI cW cM ad S))) (k2_QcV (.int (nI (cbt (rC S k) I J K)))) 0 0 (fun _ => False) := by
  have p4 := pow4 h4k
  have p0 : 0 < 2 ^ S 26 k := Nat.pow_pos (by decide)
  have hc9 := hcb I hI4 J hJ4
  refine g_pure (cc := cX3_bit) (maxL := 5) (ret := (some .int)) (by decide) rfl (Nat.le_of_ble_eq_true rfl) ?_
  intro p e s m args below meth c hx hb hrt hts hown hlocks hml hP hK ls hl
  show W p l e ({ frames := 0, cells := 0, slots := 0, locals := 0 } : Room) s m args below meth c s.heap [] 0 0 _ _
  have hl : lv_has ls 5 [(0, .ref (ad (25))), (1, .int (nI (k))), (2, .int (nI (I))), (3, .int (nI (J))), (4, .int (nI (K)))] := hl
  refine lv_aload_n hx hb dX3_bit_0 rfl (lv_at hl 0 rfl) ?_
  refine g_get (25) 1 (C := RX3) (T := TX3) (N := 7) (ci := 2) (ref := "CubeWorldsModel") hx hb hts (by decide +kernel) hown hK hP (by decide) rfl rfl (by decide) (by decide +kernel) rfl rfl dX3_bit_1 ?_
  refine lv_bipush (v := nI 16) hx hb dX3_bit_4 (by decide) ?_
  refine lv_iload_n hx hb dX3_bit_6 rfl (lv_at hl 1 rfl) ?_
  refine n_imul hx hb dX3_bit_7 ?_
  refine n_iconst 4 hx hb dX3_bit_8 ?_
  refine lv_iload_n hx hb dX3_bit_9 rfl (lv_at hl 2 rfl) ?_
  refine n_imul hx hb dX3_bit_10 ?_
  refine n_iadd hx hb dX3_bit_11 ?_
  refine lv_iload_n hx hb dX3_bit_12 rfl (lv_at hl 3 rfl) ?_
  refine n_iadd hx hb dX3_bit_13 ?_
  refine g_iald (27) (((16 * k) + (4 * I)) + J) (t0 := _) hx hb hK hP (by decide) (gI (S := S) 27 80 rfl (by decide)) hI (by omega) (by decide) dX3_bit_14 ?_
  refine n_eq (show nI ((S 27) (((16 * k) + (4 * I)) + J)) = nI (rC S k (4 * I + J)) from by rw [rC_at S k I J (by omega) (by omega)]) ?_
  refine lv_iload hx hb dX3_bit_15 (lv_at hl 4 rfl) ?_
  refine n_ishr hx hb dX3_bit_17 (by omega) (by omega) ?_
  refine n_iconst 1 hx hb dX3_bit_18 ?_
  refine n_iand hx hb dX3_bit_19 ?_
  exact g_iret hx hb hrt hlocks dX3_bit_20 rfl
set_option maxHeartbeats 4000000 in
set_option maxRecDepth 100000 in
theorem c_X3_turned (l : Launch) {D : va_G} {tys : List (ClassId × FieldType)} {ad : Nat → Nat} {cI cW cM : ClassId} {tI : Nat} {S : Nat → Nat → Nat} (hI : tys[tI]? = some (cI, .int)) {k : Nat} (hk5 : k < 5) (h4k : S 26 k ≤ 4) (hcb : CB (S 26 k) (rC S k)) {I J K T : Nat} (hI4 : I < S 26 k) (hJ4 : J < S 26 k) (hK4 : K < S 26 k) (hT : T < 6) : Met l yX3_turned wsX3_turned ({ frames := 1, cells := 0, slots := 0, locals := 24 } : Room) (va_Pc [.ref (ad (25)), .int (nI (k)), .int (nI (T)), .int (nI (I)), .int (nI (J)), .int (nI (K))] (PB D tys 33 ad (gE cI cW cM ad S))) (k2_QcV (.int (nI (tbS (rC S k) T I J K)))) 0 0 (fun _ => False) := by
  refine g_pure (cc := cX3_turned) (maxL := 6) (ret := (some .int)) (by decide) rfl (Nat.le_of_ble_eq_true rfl) ?_
  intro p e s m args below meth c hx hb hrt hts hown hlocks hml hP hK ls hl
  show W p l e ({ frames := 1, cells := 0, slots := 0, locals := 24 } : Room) s m args below meth c s.heap [] 0 0 _ _
  have hl : lv_has ls 6 [(0, .ref (ad (25))), (1, .int (nI (k))), (2, .int (nI (T))), (3, .int (nI (I))), (4, .int (nI (J))), (5, .int (nI (K)))] := hl
  refine lv_iload_n hx hb dX3_turned_0 rfl (lv_at hl 2 rfl) ?_
  rcases (show T = 0 ∨ T = 1 ∨ T = 2 ∨ T = 3 ∨ T = 4 ∨ T = 5 by omega) with e9 | e9 | e9 | e9 | e9 | e9
  · subst e9
    refine lv_tableIn (off := 35) (tgt := 36) hx hb dX3_turned_1 (by decide) (by decide) (by decide) (by decide) ?_
    refine lv_aload_n hx hb dX3_turned_36 rfl (lv_at hl 0 rfl) ?_
    refine lv_iload_n hx hb dX3_turned_37 rfl (lv_at hl 1 rfl) ?_
    refine lv_iload_n hx hb dX3_turned_38 rfl (lv_at hl 3 rfl) ?_
    refine lv_iload hx hb dX3_turned_39 (lv_at hl 4 rfl) ?_
    refine lv_iload hx hb dX3_turned_41 (lv_at hl 5 rfl) ?_
    refine g_callV (25) (C := RX3) (T := TX3) (N := 7) (ci := 2) (As := [.int (nI (k)), .int (nI (I)), .int (nI (J)), .int (nI (K))]) (rest := []) (c_X3_bit l hI (k := k) hk5 h4k hcb (I := I) (J := J) (K := K) (by omega) (by omega) (by omega)) (cwV 4 hts gX3_turned_X3_bit rfl rfl rfl (by decide +kernel) ⟨Nat.le_of_ble_eq_true rfl, Nat.le_of_ble_eq_true rfl⟩) hx hb hml hown hts hK hP  (by decide) rfl rfl rfl hl.1 rfl (Nat.le_of_ble_eq_true rfl) (Nat.zero_le _) (Nat.zero_le _) dX3_turned_43 ?_
    exact g_iret hx hb hrt hlocks dX3_turned_46 rfl
  · subst e9
    refine lv_tableIn (off := 46) (tgt := 47) hx hb dX3_turned_1 (by decide) (by decide) (by decide) (by decide) ?_
    refine lv_aload_n hx hb dX3_turned_47 rfl (lv_at hl 0 rfl) ?_
    refine lv_iload_n hx hb dX3_turned_48 rfl (lv_at hl 1 rfl) ?_
    refine lv_iload_n hx hb dX3_turned_49 rfl (lv_at hl 3 rfl) ?_
    refine lv_iload hx hb dX3_turned_50 (lv_at hl 5 rfl) ?_
    refine lv_iload hx hb dX3_turned_52 (lv_at hl 4 rfl) ?_
    refine g_callV (25) (C := RX3) (T := TX3) (N := 7) (ci := 2) (As := [.int (nI (k)), .int (nI (I)), .int (nI (K)), .int (nI (J))]) (rest := []) (c_X3_bit l hI (k := k) hk5 h4k hcb (I := I) (J := K) (K := J) (by omega) (by omega) (by omega)) (cwV 4 hts gX3_turned_X3_bit rfl rfl rfl (by decide +kernel) ⟨Nat.le_of_ble_eq_true rfl, Nat.le_of_ble_eq_true rfl⟩) hx hb hml hown hts hK hP  (by decide) rfl rfl rfl hl.1 rfl (Nat.le_of_ble_eq_true rfl) (Nat.zero_le _) (Nat.zero_le _) dX3_turned_54 ?_
    exact g_iret hx hb hrt hlocks dX3_turned_57 rfl
  · subst e9
    refine lv_tableIn (off := 57) (tgt := 58) hx hb dX3_turned_1 (by decide) (by decide) (by decide) (by decide) ?_
    refine lv_aload_n hx hb dX3_turned_58 rfl (lv_at hl 0 rfl) ?_
    refine lv_iload_n hx hb dX3_turned_59 rfl (lv_at hl 1 rfl) ?_
    refine lv_iload hx hb dX3_turned_60 (lv_at hl 4 rfl) ?_
    refine lv_iload_n hx hb dX3_turned_62 rfl (lv_at hl 3 rfl) ?_
    refine lv_iload hx hb dX3_turned_63 (lv_at hl 5 rfl) ?_
    refine g_callV (25) (C := RX3) (T := TX3) (N := 7) (ci := 2) (As := [.int (nI (k)), .int (nI (J)), .int (nI (I)), .int (nI (K))]) (rest := []) (c_X3_bit l hI (k := k) hk5 h4k hcb (I := J) (J := I) (K := K) (by omega) (by omega) (by omega)) (cwV 4 hts gX3_turned_X3_bit rfl rfl rfl (by decide +kernel) ⟨Nat.le_of_ble_eq_true rfl, Nat.le_of_ble_eq_true rfl⟩) hx hb hml hown hts hK hP  (by decide) rfl rfl rfl hl.1 rfl (Nat.le_of_ble_eq_true rfl) (Nat.zero_le _) (Nat.zero_le _) dX3_turned_65 ?_
    exact g_iret hx hb hrt hlocks dX3_turned_68 rfl
  · subst e9
    refine lv_tableIn (off := 68) (tgt := 69) hx hb dX3_turned_1 (by decide) (by decide) (by decide) (by decide) ?_
    refine lv_aload_n hx hb dX3_turned_69 rfl (lv_at hl 0 rfl) ?_
    refine lv_iload_n hx hb dX3_turned_70 rfl (lv_at hl 1 rfl) ?_
    refine lv_iload hx hb dX3_turned_71 (lv_at hl 4 rfl) ?_
    refine lv_iload hx hb dX3_turned_73 (lv_at hl 5 rfl) ?_
    refine lv_iload_n hx hb dX3_turned_75 rfl (lv_at hl 3 rfl) ?_
    refine g_callV (25) (C := RX3) (T := TX3) (N := 7) (ci := 2) (As := [.int (nI (k)), .int (nI (J)), .int (nI (K)), .int (nI (I))]) (rest := []) (c_X3_bit l hI (k := k) hk5 h4k hcb (I := J) (J := K) (K := I) (by omega) (by omega) (by omega)) (cwV 4 hts gX3_turned_X3_bit rfl rfl rfl (by decide +kernel) ⟨Nat.le_of_ble_eq_true rfl, Nat.le_of_ble_eq_true rfl⟩) hx hb hml hown hts hK hP  (by decide) rfl rfl rfl hl.1 rfl (Nat.le_of_ble_eq_true rfl) (Nat.zero_le _) (Nat.zero_le _) dX3_turned_76 ?_
    exact g_iret hx hb hrt hlocks dX3_turned_79 rfl
  · subst e9
    refine lv_tableIn (off := 79) (tgt := 80) hx hb dX3_turned_1 (by decide) (by decide) (by decide) (by decide) ?_
    refine lv_aload_n hx hb dX3_turned_80 rfl (lv_at hl 0 rfl) ?_
    refine lv_iload_n hx hb dX3_turned_81 rfl (lv_at hl 1 rfl) ?_
    refine lv_iload hx hb dX3_turned_82 (lv_at hl 5 rfl) ?_
    refine lv_iload_n hx hb dX3_turned_84 rfl (lv_at hl 3 rfl) ?_
    refine lv_iload hx hb dX3_turned_85 (lv_at hl 4 rfl) ?_
    refine g_callV (25) (C := RX3) (T := TX3) (N := 7) (ci := 2) (As := [.int (nI (k)), .int (nI (K)), .int (nI (I)), .int (nI (J))]) (rest := []) (c_X3_bit l hI (k := k) hk5 h4k hcb (I := K) (J := I) (K := J) (by omega) (by omega) (by omega)) (cwV 4 hts gX3_turned_X3_bit rfl rfl rfl (by decide +kernel) ⟨Nat.le_of_ble_eq_true rfl, Nat.le_of_ble_eq_true rfl⟩) hx hb hml hown hts hK hP  (by decide) rfl rfl rfl hl.1 rfl (Nat.le_of_ble_eq_true rfl) (Nat.zero_le _) (Nat.zero_le _) dX3_turned_87 ?_
    exact g_iret hx hb hrt hlocks dX3_turned_90 rfl
  · subst e9
    refine lv_tableOut (tgt := 91) hx hb dX3_turned_1 (by decide) (by decide) ?_
    refine lv_aload_n hx hb dX3_turned_91 rfl (lv_at hl 0 rfl) ?_
    refine lv_iload_n hx hb dX3_turned_92 rfl (lv_at hl 1 rfl) ?_
    refine lv_iload hx hb dX3_turned_93 (lv_at hl 5 rfl) ?_
    refine lv_iload hx hb dX3_turned_95 (lv_at hl 4 rfl) ?_
    refine lv_iload_n hx hb dX3_turned_97 rfl (lv_at hl 3 rfl) ?_
    refine g_callV (25) (C := RX3) (T := TX3) (N := 7) (ci := 2) (As := [.int (nI (k)), .int (nI (K)), .int (nI (J)), .int (nI (I))]) (rest := []) (c_X3_bit l hI (k := k) hk5 h4k hcb (I := K) (J := J) (K := I) (by omega) (by omega) (by omega)) (cwV 4 hts gX3_turned_X3_bit rfl rfl rfl (by decide +kernel) ⟨Nat.le_of_ble_eq_true rfl, Nat.le_of_ble_eq_true rfl⟩) hx hb hml hown hts hK hP  (by decide) rfl rfl rfl hl.1 rfl (Nat.le_of_ble_eq_true rfl) (Nat.zero_le _) (Nat.zero_le _) dX3_turned_98 ?_
    exact g_iret hx hb hrt hlocks dX3_turned_101 rfl
set_option maxHeartbeats 4000000 in
set_option maxRecDepth 100000 in
theorem c_X3_joinsTwo (l : Launch) {D : va_G} {tys : List (ClassId × FieldType)} {ad : Nat → Nat} {cI cW cM : ClassId} {tI : Nat} {S : Nat → Nat → Nat} (hI : tys[tI]? = some (cI, .int)) {k : Nat} (hk5 : k < 5) (h4k : S 26 k ≤ 4) (hcb : CB (S 26 k) (rC S k)) {X Y Z V : Nat} (hX : X < 2 ^ S 26 k) (hY : Y < 2 ^ S 26 k) (hZ : Z < 2 ^ S 26 k) (hV : V < 3) : Met l yX3_joinsTwo wsX3_joinsTwo ({ frames := 1, cells := 0, slots := 0, locals := 26 } : Room) (va_Pc [.ref (ad (25)), .int (nI (k)), .int (nI (X)), .int (nI (Y)), .int (nI (Z)), .int (nI (V))] (PB D tys 33 ad (gE cI cW cM ad S))) (k2_QcV (.int (bI (asw (S 26 k) (rC S k) X Y Z V)))) 0 0 (fun _ => False) := by
  have p4 := pow4 h4k
  have p0 : 0 < 2 ^ S 26 k := Nat.pow_pos (by decide)
  refine g_pure (cc := cX3_joinsTwo) (maxL := 6) (ret := (some .boolean)) (by decide) rfl (Nat.le_of_ble_eq_true rfl) ?_
  intro p e s m args below meth c hx hb hrt hts hown hlocks hml hP hK ls hl
  show W p l e ({ frames := 1, cells := 0, slots := 0, locals := 26 } : Room) s m args below meth c s.heap [] 0 0 _ _
  have hl : lv_has ls 6 [(0, .ref (ad (25))), (1, .int (nI (k))), (2, .int (nI (X))), (3, .int (nI (Y))), (4, .int (nI (Z))), (5, .int (nI (V)))] := hl
  refine lv_iload hx hb dX3_joinsTwo_0 (lv_at hl 5 rfl) ?_
  rcases (show V = 0 ∨ V = 1 ∨ V = 2 by omega) with e9 | e9 | e9
  · subst e9
    refine lv_lookup (off := 26) (tgt := 28) hx hb dX3_joinsTwo_2 (by decide) (by decide) (by decide) ?_
    have mYZ := tm_lt hcb Y Z
    have mXY := tm_lt hcb X Y
    have m8 := tm_lt hcb X (tm (S 26 k) (rC S k) Y Z)
    have m9 := tm_lt hcb (tm (S 26 k) (rC S k) X Y) Z
    refine lv_aload_n hx hb dX3_joinsTwo_28 rfl (lv_at hl 0 rfl) ?_
    refine lv_iload_n hx hb dX3_joinsTwo_29 rfl (lv_at hl 1 rfl) ?_
    refine lv_iload_n hx hb dX3_joinsTwo_30 rfl (lv_at hl 2 rfl) ?_
    refine lv_aload_n hx hb dX3_joinsTwo_31 rfl (lv_at hl 0 rfl) ?_
    refine lv_iload_n hx hb dX3_joinsTwo_32 rfl (lv_at hl 1 rfl) ?_
    refine lv_iload_n hx hb dX3_joinsTwo_33 rfl (lv_at hl 3 rfl) ?_
    refine lv_iload hx hb dX3_joinsTwo_34 (lv_at hl 4 rfl) ?_
    refine g_callV (25) (C := RX3) (T := TX3) (N := 7) (ci := 2) (As := [.int (nI (k)), .int (nI (Y)), .int (nI (Z))]) (rest := [.int (nI (X)), .int (nI (k)), .ref (ad (25))]) (c_X3_times l hI (k := k) hk5 h4k (X := Y) (Y := Z) (by omega) (by omega)) (cwV 3 hts gX3_joinsTwo_X3_times rfl rfl rfl (by decide +kernel) ⟨Nat.le_of_ble_eq_true rfl, Nat.le_of_ble_eq_true rfl⟩) hx hb hml hown hts hK hP  (by decide) rfl rfl rfl hl.1 rfl (Nat.le_of_ble_eq_true rfl) (Nat.zero_le _) (Nat.zero_le _) dX3_joinsTwo_36 ?_
    refine g_callV (25) (C := RX3) (T := TX3) (N := 7) (ci := 2) (As := [.int (nI (k)), .int (nI (X)), .int (nI (tm (S 26 k) (rC S k) Y Z))]) (rest := []) (c_X3_times l hI (k := k) hk5 h4k (X := X) (Y := tm (S 26 k) (rC S k) Y Z) (by omega) (by omega)) (cwV 3 hts gX3_joinsTwo_X3_times rfl rfl rfl (by decide +kernel) ⟨Nat.le_of_ble_eq_true rfl, Nat.le_of_ble_eq_true rfl⟩) hx hb hml hown hts hK hP  (by decide) rfl rfl rfl hl.1 rfl (Nat.le_of_ble_eq_true rfl) (Nat.zero_le _) (Nat.zero_le _) dX3_joinsTwo_39 ?_
    refine lv_aload_n hx hb dX3_joinsTwo_42 rfl (lv_at hl 0 rfl) ?_
    refine lv_iload_n hx hb dX3_joinsTwo_43 rfl (lv_at hl 1 rfl) ?_
    refine lv_aload_n hx hb dX3_joinsTwo_44 rfl (lv_at hl 0 rfl) ?_
    refine lv_iload_n hx hb dX3_joinsTwo_45 rfl (lv_at hl 1 rfl) ?_
    refine lv_iload_n hx hb dX3_joinsTwo_46 rfl (lv_at hl 2 rfl) ?_
    refine lv_iload_n hx hb dX3_joinsTwo_47 rfl (lv_at hl 3 rfl) ?_
    refine g_callV (25) (C := RX3) (T := TX3) (N := 7) (ci := 2) (As := [.int (nI (k)), .int (nI (X)), .int (nI (Y))]) (rest := [.int (nI (k)), .ref (ad (25)), .int (nI (tm (S 26 k) (rC S k) X (tm (S 26 k) (rC S k) Y Z)))]) (c_X3_times l hI (k := k) hk5 h4k (X := X) (Y := Y) (by omega) (by omega)) (cwV 3 hts gX3_joinsTwo_X3_times rfl rfl rfl (by decide +kernel) ⟨Nat.le_of_ble_eq_true rfl, Nat.le_of_ble_eq_true rfl⟩) hx hb hml hown hts hK hP  (by decide) rfl rfl rfl hl.1 rfl (Nat.le_of_ble_eq_true rfl) (Nat.zero_le _) (Nat.zero_le _) dX3_joinsTwo_48 ?_
    refine lv_iload hx hb dX3_joinsTwo_51 (lv_at hl 4 rfl) ?_
    refine g_callV (25) (C := RX3) (T := TX3) (N := 7) (ci := 2) (As := [.int (nI (k)), .int (nI (tm (S 26 k) (rC S k) X Y)), .int (nI (Z))]) (rest := [.int (nI (tm (S 26 k) (rC S k) X (tm (S 26 k) (rC S k) Y Z)))]) (c_X3_times l hI (k := k) hk5 h4k (X := tm (S 26 k) (rC S k) X Y) (Y := Z) (by omega) (by omega)) (cwV 3 hts gX3_joinsTwo_X3_times rfl rfl rfl (by decide +kernel) ⟨Nat.le_of_ble_eq_true rfl, Nat.le_of_ble_eq_true rfl⟩) hx hb hml hown hts hK hP  (by decide) rfl rfl rfl hl.1 rfl (Nat.le_of_ble_eq_true rfl) (Nat.zero_le _) (Nat.zero_le _) dX3_joinsTwo_53 ?_
    refine n_cne (tgt := 63) hx hb dX3_joinsTwo_56 (by decide) (by omega) (by omega) (fun h_56 => ?_) (fun h_56 => ?_)
    · refine n_iconst 0 hx hb dX3_joinsTwo_63 ?_
      exact g_zret (false) hx hb hrt hlocks dX3_joinsTwo_64 rfl (by rw [show asw (S 26 k) (rC S k) X Y Z 0 = false from bF h_56])
    · refine n_iconst 1 hx hb dX3_joinsTwo_59 ?_
      refine n_goto 64 hx hb dX3_joinsTwo_60 (by decide) ?_
      exact g_zret (true) hx hb hrt hlocks dX3_joinsTwo_64 rfl (by rw [show asw (S 26 k) (rC S k) X Y Z 0 = true from bT h_56])
  · subst e9
    refine lv_lookup (off := 63) (tgt := 65) hx hb dX3_joinsTwo_2 (by decide) (by decide) (by decide) ?_
    have mXZ := tm_lt hcb X Z
    have mYX := tm_lt hcb Y X
    have m8 := tm_lt hcb Y (tm (S 26 k) (rC S k) X Z)
    have m9 := tm_lt hcb (tm (S 26 k) (rC S k) Y X) Z
    refine lv_aload_n hx hb dX3_joinsTwo_65 rfl (lv_at hl 0 rfl) ?_
    refine lv_iload_n hx hb dX3_joinsTwo_66 rfl (lv_at hl 1 rfl) ?_
    refine lv_iload_n hx hb dX3_joinsTwo_67 rfl (lv_at hl 3 rfl) ?_
    refine lv_aload_n hx hb dX3_joinsTwo_68 rfl (lv_at hl 0 rfl) ?_
    refine lv_iload_n hx hb dX3_joinsTwo_69 rfl (lv_at hl 1 rfl) ?_
    refine lv_iload_n hx hb dX3_joinsTwo_70 rfl (lv_at hl 2 rfl) ?_
    refine lv_iload hx hb dX3_joinsTwo_71 (lv_at hl 4 rfl) ?_
    refine g_callV (25) (C := RX3) (T := TX3) (N := 7) (ci := 2) (As := [.int (nI (k)), .int (nI (X)), .int (nI (Z))]) (rest := [.int (nI (Y)), .int (nI (k)), .ref (ad (25))]) (c_X3_times l hI (k := k) hk5 h4k (X := X) (Y := Z) (by omega) (by omega)) (cwV 3 hts gX3_joinsTwo_X3_times rfl rfl rfl (by decide +kernel) ⟨Nat.le_of_ble_eq_true rfl, Nat.le_of_ble_eq_true rfl⟩) hx hb hml hown hts hK hP  (by decide) rfl rfl rfl hl.1 rfl (Nat.le_of_ble_eq_true rfl) (Nat.zero_le _) (Nat.zero_le _) dX3_joinsTwo_73 ?_
    refine g_callV (25) (C := RX3) (T := TX3) (N := 7) (ci := 2) (As := [.int (nI (k)), .int (nI (Y)), .int (nI (tm (S 26 k) (rC S k) X Z))]) (rest := []) (c_X3_times l hI (k := k) hk5 h4k (X := Y) (Y := tm (S 26 k) (rC S k) X Z) (by omega) (by omega)) (cwV 3 hts gX3_joinsTwo_X3_times rfl rfl rfl (by decide +kernel) ⟨Nat.le_of_ble_eq_true rfl, Nat.le_of_ble_eq_true rfl⟩) hx hb hml hown hts hK hP  (by decide) rfl rfl rfl hl.1 rfl (Nat.le_of_ble_eq_true rfl) (Nat.zero_le _) (Nat.zero_le _) dX3_joinsTwo_76 ?_
    refine lv_aload_n hx hb dX3_joinsTwo_79 rfl (lv_at hl 0 rfl) ?_
    refine lv_iload_n hx hb dX3_joinsTwo_80 rfl (lv_at hl 1 rfl) ?_
    refine lv_aload_n hx hb dX3_joinsTwo_81 rfl (lv_at hl 0 rfl) ?_
    refine lv_iload_n hx hb dX3_joinsTwo_82 rfl (lv_at hl 1 rfl) ?_
    refine lv_iload_n hx hb dX3_joinsTwo_83 rfl (lv_at hl 3 rfl) ?_
    refine lv_iload_n hx hb dX3_joinsTwo_84 rfl (lv_at hl 2 rfl) ?_
    refine g_callV (25) (C := RX3) (T := TX3) (N := 7) (ci := 2) (As := [.int (nI (k)), .int (nI (Y)), .int (nI (X))]) (rest := [.int (nI (k)), .ref (ad (25)), .int (nI (tm (S 26 k) (rC S k) Y (tm (S 26 k) (rC S k) X Z)))]) (c_X3_times l hI (k := k) hk5 h4k (X := Y) (Y := X) (by omega) (by omega)) (cwV 3 hts gX3_joinsTwo_X3_times rfl rfl rfl (by decide +kernel) ⟨Nat.le_of_ble_eq_true rfl, Nat.le_of_ble_eq_true rfl⟩) hx hb hml hown hts hK hP  (by decide) rfl rfl rfl hl.1 rfl (Nat.le_of_ble_eq_true rfl) (Nat.zero_le _) (Nat.zero_le _) dX3_joinsTwo_85 ?_
    refine lv_iload hx hb dX3_joinsTwo_88 (lv_at hl 4 rfl) ?_
    refine g_callV (25) (C := RX3) (T := TX3) (N := 7) (ci := 2) (As := [.int (nI (k)), .int (nI (tm (S 26 k) (rC S k) Y X)), .int (nI (Z))]) (rest := [.int (nI (tm (S 26 k) (rC S k) Y (tm (S 26 k) (rC S k) X Z)))]) (c_X3_times l hI (k := k) hk5 h4k (X := tm (S 26 k) (rC S k) Y X) (Y := Z) (by omega) (by omega)) (cwV 3 hts gX3_joinsTwo_X3_times rfl rfl rfl (by decide +kernel) ⟨Nat.le_of_ble_eq_true rfl, Nat.le_of_ble_eq_true rfl⟩) hx hb hml hown hts hK hP  (by decide) rfl rfl rfl hl.1 rfl (Nat.le_of_ble_eq_true rfl) (Nat.zero_le _) (Nat.zero_le _) dX3_joinsTwo_90 ?_
    refine n_cne (tgt := 100) hx hb dX3_joinsTwo_93 (by decide) (by omega) (by omega) (fun h_93 => ?_) (fun h_93 => ?_)
    · refine n_iconst 0 hx hb dX3_joinsTwo_100 ?_
      exact g_zret (false) hx hb hrt hlocks dX3_joinsTwo_101 rfl (by rw [show asw (S 26 k) (rC S k) X Y Z 1 = false from bF h_93])
    · refine n_iconst 1 hx hb dX3_joinsTwo_96 ?_
      refine n_goto 101 hx hb dX3_joinsTwo_97 (by decide) ?_
      exact g_zret (true) hx hb hrt hlocks dX3_joinsTwo_101 rfl (by rw [show asw (S 26 k) (rC S k) X Y Z 1 = true from bT h_93])
  · subst e9
    refine lv_lookup (off := 100) (tgt := 102) hx hb dX3_joinsTwo_2 (by decide) (by decide) (by decide) ?_
    have mZX := tm_lt hcb Z X
    have mYZ := tm_lt hcb Y Z
    have m8 := tm_lt hcb Y (tm (S 26 k) (rC S k) Z X)
    have m9 := tm_lt hcb (tm (S 26 k) (rC S k) Y Z) X
    refine lv_aload_n hx hb dX3_joinsTwo_102 rfl (lv_at hl 0 rfl) ?_
    refine lv_iload_n hx hb dX3_joinsTwo_103 rfl (lv_at hl 1 rfl) ?_
    refine lv_iload_n hx hb dX3_joinsTwo_104 rfl (lv_at hl 3 rfl) ?_
    refine lv_aload_n hx hb dX3_joinsTwo_105 rfl (lv_at hl 0 rfl) ?_
    refine lv_iload_n hx hb dX3_joinsTwo_106 rfl (lv_at hl 1 rfl) ?_
    refine lv_iload hx hb dX3_joinsTwo_107 (lv_at hl 4 rfl) ?_
    refine lv_iload_n hx hb dX3_joinsTwo_109 rfl (lv_at hl 2 rfl) ?_
    refine g_callV (25) (C := RX3) (T := TX3) (N := 7) (ci := 2) (As := [.int (nI (k)), .int (nI (Z)), .int (nI (X))]) (rest := [.int (nI (Y)), .int (nI (k)), .ref (ad (25))]) (c_X3_times l hI (k := k) hk5 h4k (X := Z) (Y := X) (by omega) (by omega)) (cwV 3 hts gX3_joinsTwo_X3_times rfl rfl rfl (by decide +kernel) ⟨Nat.le_of_ble_eq_true rfl, Nat.le_of_ble_eq_true rfl⟩) hx hb hml hown hts hK hP  (by decide) rfl rfl rfl hl.1 rfl (Nat.le_of_ble_eq_true rfl) (Nat.zero_le _) (Nat.zero_le _) dX3_joinsTwo_110 ?_
    refine g_callV (25) (C := RX3) (T := TX3) (N := 7) (ci := 2) (As := [.int (nI (k)), .int (nI (Y)), .int (nI (tm (S 26 k) (rC S k) Z X))]) (rest := []) (c_X3_times l hI (k := k) hk5 h4k (X := Y) (Y := tm (S 26 k) (rC S k) Z X) (by omega) (by omega)) (cwV 3 hts gX3_joinsTwo_X3_times rfl rfl rfl (by decide +kernel) ⟨Nat.le_of_ble_eq_true rfl, Nat.le_of_ble_eq_true rfl⟩) hx hb hml hown hts hK hP  (by decide) rfl rfl rfl hl.1 rfl (Nat.le_of_ble_eq_true rfl) (Nat.zero_le _) (Nat.zero_le _) dX3_joinsTwo_113 ?_
    refine lv_aload_n hx hb dX3_joinsTwo_116 rfl (lv_at hl 0 rfl) ?_
    refine lv_iload_n hx hb dX3_joinsTwo_117 rfl (lv_at hl 1 rfl) ?_
    refine lv_aload_n hx hb dX3_joinsTwo_118 rfl (lv_at hl 0 rfl) ?_
    refine lv_iload_n hx hb dX3_joinsTwo_119 rfl (lv_at hl 1 rfl) ?_
    refine lv_iload_n hx hb dX3_joinsTwo_120 rfl (lv_at hl 3 rfl) ?_
    refine lv_iload hx hb dX3_joinsTwo_121 (lv_at hl 4 rfl) ?_
    refine g_callV (25) (C := RX3) (T := TX3) (N := 7) (ci := 2) (As := [.int (nI (k)), .int (nI (Y)), .int (nI (Z))]) (rest := [.int (nI (k)), .ref (ad (25)), .int (nI (tm (S 26 k) (rC S k) Y (tm (S 26 k) (rC S k) Z X)))]) (c_X3_times l hI (k := k) hk5 h4k (X := Y) (Y := Z) (by omega) (by omega)) (cwV 3 hts gX3_joinsTwo_X3_times rfl rfl rfl (by decide +kernel) ⟨Nat.le_of_ble_eq_true rfl, Nat.le_of_ble_eq_true rfl⟩) hx hb hml hown hts hK hP  (by decide) rfl rfl rfl hl.1 rfl (Nat.le_of_ble_eq_true rfl) (Nat.zero_le _) (Nat.zero_le _) dX3_joinsTwo_123 ?_
    refine lv_iload_n hx hb dX3_joinsTwo_126 rfl (lv_at hl 2 rfl) ?_
    refine g_callV (25) (C := RX3) (T := TX3) (N := 7) (ci := 2) (As := [.int (nI (k)), .int (nI (tm (S 26 k) (rC S k) Y Z)), .int (nI (X))]) (rest := [.int (nI (tm (S 26 k) (rC S k) Y (tm (S 26 k) (rC S k) Z X)))]) (c_X3_times l hI (k := k) hk5 h4k (X := tm (S 26 k) (rC S k) Y Z) (Y := X) (by omega) (by omega)) (cwV 3 hts gX3_joinsTwo_X3_times rfl rfl rfl (by decide +kernel) ⟨Nat.le_of_ble_eq_true rfl, Nat.le_of_ble_eq_true rfl⟩) hx hb hml hown hts hK hP  (by decide) rfl rfl rfl hl.1 rfl (Nat.le_of_ble_eq_true rfl) (Nat.zero_le _) (Nat.zero_le _) dX3_joinsTwo_127 ?_
    refine n_cne (tgt := 137) hx hb dX3_joinsTwo_130 (by decide) (by omega) (by omega) (fun h_130 => ?_) (fun h_130 => ?_)
    · refine n_iconst 0 hx hb dX3_joinsTwo_137 ?_
      exact g_zret (false) hx hb hrt hlocks dX3_joinsTwo_138 rfl (by rw [show asw (S 26 k) (rC S k) X Y Z 2 = false from bF h_130])
    · refine n_iconst 1 hx hb dX3_joinsTwo_133 ?_
      refine n_goto 138 hx hb dX3_joinsTwo_134 (by decide) ?_
      exact g_zret (true) hx hb hrt hlocks dX3_joinsTwo_138 rfl (by rw [show asw (S 26 k) (rC S k) X Y Z 2 = true from bT h_130])
set_option maxHeartbeats 4000000 in
set_option maxRecDepth 100000 in
theorem c_X3_joinsAll (l : Launch) {D : va_G} {tys : List (ClassId × FieldType)} {ad : Nat → Nat} {cI cW cM : ClassId} {tI : Nat} {S : Nat → Nat → Nat} (hI : tys[tI]? = some (cI, .int)) {k : Nat} (hk5 : k < 5) (h4k : S 26 k ≤ 4) (hcb : CB (S 26 k) (rC S k)) {X V : Nat} (hX : X < 2 ^ S 26 k) (hV : V ≤ 3) : Met l yX3_joinsAll wsX3_joinsAll ({ frames := 2, cells := 0, slots := 0, locals := 51 } : Room) (va_Pc [.ref (ad (25)), .int (nI (k)), .int (nI (X)), .int (nI (V))] (PB D tys 33 ad (gE cI cW cM ad S))) (k2_QcV (.int (bI (jaR (S 26 k) (rC S k) X V)))) 0 0 (fun _ => False) := by
  have p4 := pow4 h4k
  have p0 : 0 < 2 ^ S 26 k := Nat.pow_pos (by decide)
  refine g_pure (cc := cX3_joinsAll) (maxL := 7) (ret := (some .boolean)) (by decide) rfl (Nat.le_of_ble_eq_true rfl) ?_
  intro p e s m args below meth c hx hb hrt hts hown hlocks hml hP hK ls hl
  show W p l e ({ frames := 2, cells := 0, slots := 0, locals := 51 } : Room) s m args below meth c s.heap [] 0 0 _ _
  have hl : lv_has ls 7 [(0, .ref (ad (25))), (1, .int (nI (k))), (2, .int (nI (X))), (3, .int (nI (V)))] := hl
  refine n_iconst 1 hx hb dX3_joinsAll_0 ?_
  refine n_eq (show nI 1 = bI true from rfl) ?_
  refine lv_istore (lv' := [(4, .int (bI (true))), (0, .ref (ad (25))), (1, .int (nI (k))), (2, .int (nI (X))), (3, .int (nI (V)))]) hx hb dX3_joinsAll_1 hl (by decide) rfl (fun ls hl => ?_)
  refine n_iconst 0 hx hb dX3_joinsAll_3 ?_
  refine lv_istore (lv' := [(5, .int (nI (0))), (4, .int (bI (true))), (0, .ref (ad (25))), (1, .int (nI (k))), (2, .int (nI (X))), (3, .int (nI (V)))]) hx hb dX3_joinsAll_4 hl (by decide) rfl (fun ls hl => ?_)
  have L_6 : ∀ (r : Nat) (is1 : Bool) (y : Nat), (y ≤ 2 ^ S 26 k) → (2 ^ S 26 k < y + r) → (is1 = al (jq (S 26 k) (rC S k) X V) y) → ∀ (ls : Array Slot), lv_has ls 7 [(0, .ref (ad (25))), (1, .int (nI (k))), (2, .int (nI (X))), (3, .int (nI (V))), (4, .int (bI (is1))), (5, .int (nI (y)))] → W p l e ({ frames := 2, cells := 0, slots := 0, locals := 51 } : Room) s m args below meth c s.heap [] 0 0 (MQ below (k2_QcV (.int (bI (jaR (S 26 k) (rC S k) X V)))) args s 0 0 (fun _ => False)) (F0 m 6 ls []) := by
    intro r
    induction r with
    | zero => intro is1 y hy hr ha; intros; exact absurd hr (by omega)
    | succ r ih =>
      intro is1 y hy hr ha ls hl
      have ih_6 := ih
      refine lv_iload hx hb dX3_joinsAll_6 (lv_at hl 5 rfl) ?_
      refine lv_aload_n hx hb dX3_joinsAll_8 rfl (lv_at hl 0 rfl) ?_
      refine lv_iload_n hx hb dX3_joinsAll_9 rfl (lv_at hl 1 rfl) ?_
      refine g_callV (25) (C := RX3) (T := TX3) (N := 7) (ci := 2) (As := [.int (nI (k))]) (rest := [.int (nI (y))]) (c_X3_numbers l hI (k := k) hk5 h4k) (cwV 1 hts gX3_joinsAll_X3_numbers rfl rfl rfl (by decide +kernel) ⟨Nat.le_of_ble_eq_true rfl, Nat.le_of_ble_eq_true rfl⟩) hx hb hml hown hts hK hP  (by decide) rfl rfl rfl hl.1 rfl (Nat.le_of_ble_eq_true rfl) (Nat.zero_le _) (Nat.zero_le _) dX3_joinsAll_10 ?_
      refine n_ge (tgt := 150) hx hb dX3_joinsAll_13 (by decide) (by omega) (by omega) (fun h_13 => ?_) (fun h_13 => ?_)
      · refine lv_iload hx hb dX3_joinsAll_150 (lv_at hl 4 rfl) ?_
        exact g_zret (is1) hx hb hrt hlocks dX3_joinsAll_152 rfl (by rw [ha, show y = 2 ^ S 26 k by omega]; rfl)
      · refine lv_iload hx hb dX3_joinsAll_16 (lv_at hl 4 rfl) ?_
        refine n_ifeq_b (tgt := 150) hx hb dX3_joinsAll_18 (by decide) (fun h_18 => ?_) (fun h_18 => ?_)
        · refine lv_iload hx hb dX3_joinsAll_150 (lv_at hl 4 rfl) ?_
          exact g_zret (is1) hx hb hrt hlocks dX3_joinsAll_152 rfl (by rw [show jaR (S 26 k) (rC S k) X V = is1 from by rw [h_18] at ha ⊢; exact al_pre (by omega) ha.symm])
        · refine lv_iload_n hx hb dX3_joinsAll_21 rfl (lv_at hl 3 rfl) ?_
          refine n_iconst 3 hx hb dX3_joinsAll_22 ?_
          refine n_lt (tgt := 45) hx hb dX3_joinsAll_23 (by decide) (by omega) (by decide) (fun h_23 => ?_) (fun h_23 => ?_)
          · refine n_iconst 1 hx hb dX3_joinsAll_45 ?_
            refine n_goto 50 hx hb dX3_joinsAll_46 (by decide) ?_
            refine n_eq (show nI 1 = bI true from rfl) ?_
            refine lv_istore (lv' := [(4, .int (bI (true))), (0, .ref (ad (25))), (1, .int (nI (k))), (2, .int (nI (X))), (3, .int (nI (V))), (5, .int (nI (y)))]) hx hb dX3_joinsAll_50 hl (by decide) rfl (fun ls hl => ?_)
            refine n_iconst 0 hx hb dX3_joinsAll_52 ?_
            refine lv_istore (lv' := [(6, .int (nI (0))), (4, .int (bI (true))), (0, .ref (ad (25))), (1, .int (nI (k))), (2, .int (nI (X))), (3, .int (nI (V))), (5, .int (nI (y)))]) hx hb dX3_joinsAll_53 hl (by decide) rfl (fun ls hl => ?_)
            have L_55 : ∀ (r : Nat) (is2 : Bool) (z : Nat), (z ≤ 2 ^ S 26 k) → (2 ^ S 26 k < z + r) → (is2 = ((decide (V < 3) || (tm (S 26 k) (rC S k) X y == tm (S 26 k) (rC S k) y X)) && al (jp (S 26 k) (rC S k) X V y) z)) → ∀ (ls : Array Slot), lv_has ls 7 [(0, .ref (ad (25))), (1, .int (nI (k))), (2, .int (nI (X))), (3, .int (nI (V))), (4, .int (bI (is2))), (5, .int (nI (y))), (6, .int (nI (z)))] → W p l e ({ frames := 2, cells := 0, slots := 0, locals := 51 } : Room) s m args below meth c s.heap [] 0 0 (MQ below (k2_QcV (.int (bI (jaR (S 26 k) (rC S k) X V)))) args s 0 0 (fun _ => False)) (F0 m 55 ls []) := by
              intro r
              induction r with
              | zero => intro is2 z hz hr2 ha2; intros; exact absurd hr2 (by omega)
              | succ r ih =>
                intro is2 z hz hr2 ha2 ls hl
                have ih_55 := ih
                refine lv_iload hx hb dX3_joinsAll_55 (lv_at hl 6 rfl) ?_
                refine lv_aload_n hx hb dX3_joinsAll_57 rfl (lv_at hl 0 rfl) ?_
                refine lv_iload_n hx hb dX3_joinsAll_58 rfl (lv_at hl 1 rfl) ?_
                refine g_callV (25) (C := RX3) (T := TX3) (N := 7) (ci := 2) (As := [.int (nI (k))]) (rest := [.int (nI (z))]) (c_X3_numbers l hI (k := k) hk5 h4k) (cwV 1 hts gX3_joinsAll_X3_numbers rfl rfl rfl (by decide +kernel) ⟨Nat.le_of_ble_eq_true rfl, Nat.le_of_ble_eq_true rfl⟩) hx hb hml hown hts hK hP  (by decide) rfl rfl rfl hl.1 rfl (Nat.le_of_ble_eq_true rfl) (Nat.zero_le _) (Nat.zero_le _) dX3_joinsAll_59 ?_
                refine n_ge (tgt := 144) hx hb dX3_joinsAll_62 (by decide) (by omega) (by omega) (fun h_62 => ?_) (fun h_62 => ?_)
                · refine n_iinc 5 1 (lv' := [(5, .int (nI (y + 1))), (0, .ref (ad (25))), (1, .int (nI (k))), (2, .int (nI (X))), (3, .int (nI (V))), (4, .int (bI (is2))), (6, .int (nI (z)))]) hx hb dX3_joinsAll_144 hl rfl (by decide) rfl (fun ls hl => ?_)
                  refine n_goto 6 hx hb dX3_joinsAll_147 (by decide) ?_
                  exact ih_6 (is2) (y + 1) (by omega) (by omega) (ja_out (q := jq (S 26 k) (rC S k) X V) ha2 (Or.inl ⟨by omega, by omega⟩) rfl ha h_18) _ (lv_sub hl [1, 2, 3, 4, 5, 0] rfl)
                · refine lv_iload hx hb dX3_joinsAll_65 (lv_at hl 4 rfl) ?_
                  refine n_ifeq_b (tgt := 144) hx hb dX3_joinsAll_67 (by decide) (fun h_67 => ?_) (fun h_67 => ?_)
                  · refine n_iinc 5 1 (lv' := [(5, .int (nI (y + 1))), (0, .ref (ad (25))), (1, .int (nI (k))), (2, .int (nI (X))), (3, .int (nI (V))), (4, .int (bI (is2))), (6, .int (nI (z)))]) hx hb dX3_joinsAll_144 hl rfl (by decide) rfl (fun ls hl => ?_)
                    refine n_goto 6 hx hb dX3_joinsAll_147 (by decide) ?_
                    exact ih_6 (is2) (y + 1) (by omega) (by omega) (ja_out (q := jq (S 26 k) (rC S k) X V) ha2 (Or.inr ⟨h_67, by omega⟩) rfl ha h_18) _ (lv_sub hl [1, 2, 3, 4, 5, 0] rfl)
                  · refine lv_iload_n hx hb dX3_joinsAll_70 rfl (lv_at hl 3 rfl) ?_
                    refine n_iconst 3 hx hb dX3_joinsAll_71 ?_
                    refine n_cne (tgt := 125) hx hb dX3_joinsAll_72 (by decide) (by omega) (by decide) (fun h_72 => ?_) (fun h_72 => ?_)
                    · refine lv_aload_n hx hb dX3_joinsAll_125 rfl (lv_at hl 0 rfl) ?_
                      refine lv_iload_n hx hb dX3_joinsAll_126 rfl (lv_at hl 1 rfl) ?_
                      refine lv_iload_n hx hb dX3_joinsAll_127 rfl (lv_at hl 2 rfl) ?_
                      refine lv_iload hx hb dX3_joinsAll_128 (lv_at hl 5 rfl) ?_
                      refine lv_iload hx hb dX3_joinsAll_130 (lv_at hl 6 rfl) ?_
                      refine lv_iload_n hx hb dX3_joinsAll_132 rfl (lv_at hl 3 rfl) ?_
                      refine g_callV (25) (C := RX3) (T := TX3) (N := 7) (ci := 2) (As := [.int (nI (k)), .int (nI (X)), .int (nI (y)), .int (nI (z)), .int (nI (V))]) (rest := []) (c_X3_joinsTwo l hI (k := k) hk5 h4k hcb (X := X) (Y := y) (Z := z) (V := V) (by omega) (by omega) (by omega) (by omega)) (cwV 5 hts gX3_joinsAll_X3_joinsTwo rfl rfl rfl (by decide +kernel) ⟨Nat.le_of_ble_eq_true rfl, Nat.le_of_ble_eq_true rfl⟩) hx hb hml hown hts hK hP  (by decide) rfl rfl rfl hl.1 rfl (Nat.le_of_ble_eq_true rfl) (Nat.zero_le _) (Nat.zero_le _) dX3_joinsAll_133 ?_
                      refine lv_istore (lv' := [(4, .int (bI (asw (S 26 k) (rC S k) X y z V))), (0, .ref (ad (25))), (1, .int (nI (k))), (2, .int (nI (X))), (3, .int (nI (V))), (5, .int (nI (y))), (6, .int (nI (z)))]) hx hb dX3_joinsAll_136 hl (by decide) rfl (fun ls hl => ?_)
                      refine n_iinc 6 1 (lv' := [(6, .int (nI (z + 1))), (4, .int (bI (asw (S 26 k) (rC S k) X y z V))), (0, .ref (ad (25))), (1, .int (nI (k))), (2, .int (nI (X))), (3, .int (nI (V))), (5, .int (nI (y)))]) hx hb dX3_joinsAll_138 hl rfl (by decide) rfl (fun ls hl => ?_)
                      refine n_goto 55 hx hb dX3_joinsAll_141 (by decide) ?_
                      exact ih_55 (asw (S 26 k) (rC S k) X y z V) (z + 1) (by omega) (by omega) (ja_in ha2 h_67 (by unfold jp; rw [if_neg h_72])) _ (lv_sub hl [2, 3, 4, 5, 1, 6, 0] rfl)
                    · refine lv_aload_n hx hb dX3_joinsAll_75 rfl (lv_at hl 0 rfl) ?_
                      refine lv_iload_n hx hb dX3_joinsAll_76 rfl (lv_at hl 1 rfl) ?_
                      refine lv_iload_n hx hb dX3_joinsAll_77 rfl (lv_at hl 2 rfl) ?_
                      refine lv_iload hx hb dX3_joinsAll_78 (lv_at hl 5 rfl) ?_
                      refine lv_iload hx hb dX3_joinsAll_80 (lv_at hl 6 rfl) ?_
                      refine n_iconst 0 hx hb dX3_joinsAll_82 ?_
                      refine g_callV (25) (C := RX3) (T := TX3) (N := 7) (ci := 2) (As := [.int (nI (k)), .int (nI (X)), .int (nI (y)), .int (nI (z)), .int (nI (0))]) (rest := []) (c_X3_joinsTwo l hI (k := k) hk5 h4k hcb (X := X) (Y := y) (Z := z) (V := 0) (by omega) (by omega) (by omega) (by omega)) (cwV 5 hts gX3_joinsAll_X3_joinsTwo rfl rfl rfl (by decide +kernel) ⟨Nat.le_of_ble_eq_true rfl, Nat.le_of_ble_eq_true rfl⟩) hx hb hml hown hts hK hP  (by decide) rfl rfl rfl hl.1 rfl (Nat.le_of_ble_eq_true rfl) (Nat.zero_le _) (Nat.zero_le _) dX3_joinsAll_83 ?_
                      refine n_ifeq_b (tgt := 121) hx hb dX3_joinsAll_86 (by decide) (fun h_86 => ?_) (fun h_86 => ?_)
                      · refine n_iconst 0 hx hb dX3_joinsAll_121 ?_
                        refine n_goto 136 hx hb dX3_joinsAll_122 (by decide) ?_
                        refine n_eq (show nI 0 = bI false from rfl) ?_
                        refine lv_istore (lv' := [(4, .int (bI (false))), (0, .ref (ad (25))), (1, .int (nI (k))), (2, .int (nI (X))), (3, .int (nI (V))), (5, .int (nI (y))), (6, .int (nI (z)))]) hx hb dX3_joinsAll_136 hl (by decide) rfl (fun ls hl => ?_)
                        refine n_iinc 6 1 (lv' := [(6, .int (nI (z + 1))), (4, .int (bI (false))), (0, .ref (ad (25))), (1, .int (nI (k))), (2, .int (nI (X))), (3, .int (nI (V))), (5, .int (nI (y)))]) hx hb dX3_joinsAll_138 hl rfl (by decide) rfl (fun ls hl => ?_)
                        refine n_goto 55 hx hb dX3_joinsAll_141 (by decide) ?_
                        exact ih_55 (false) (z + 1) (by omega) (by omega) (ja_in ha2 h_67 (by unfold jp; rw [if_pos h_72, h_86]; first | rfl | simp)) _ (lv_sub hl [2, 3, 4, 5, 1, 6, 0] rfl)
                      · refine lv_aload_n hx hb dX3_joinsAll_89 rfl (lv_at hl 0 rfl) ?_
                        refine lv_iload_n hx hb dX3_joinsAll_90 rfl (lv_at hl 1 rfl) ?_
                        refine lv_iload_n hx hb dX3_joinsAll_91 rfl (lv_at hl 2 rfl) ?_
                        refine lv_iload hx hb dX3_joinsAll_92 (lv_at hl 5 rfl) ?_
                        refine lv_iload hx hb dX3_joinsAll_94 (lv_at hl 6 rfl) ?_
                        refine n_iconst 1 hx hb dX3_joinsAll_96 ?_
                        refine g_callV (25) (C := RX3) (T := TX3) (N := 7) (ci := 2) (As := [.int (nI (k)), .int (nI (X)), .int (nI (y)), .int (nI (z)), .int (nI (1))]) (rest := []) (c_X3_joinsTwo l hI (k := k) hk5 h4k hcb (X := X) (Y := y) (Z := z) (V := 1) (by omega) (by omega) (by omega) (by omega)) (cwV 5 hts gX3_joinsAll_X3_joinsTwo rfl rfl rfl (by decide +kernel) ⟨Nat.le_of_ble_eq_true rfl, Nat.le_of_ble_eq_true rfl⟩) hx hb hml hown hts hK hP  (by decide) rfl rfl rfl hl.1 rfl (Nat.le_of_ble_eq_true rfl) (Nat.zero_le _) (Nat.zero_le _) dX3_joinsAll_97 ?_
                        refine n_ifeq_b (tgt := 121) hx hb dX3_joinsAll_100 (by decide) (fun h_100 => ?_) (fun h_100 => ?_)
                        · refine n_iconst 0 hx hb dX3_joinsAll_121 ?_
                          refine n_goto 136 hx hb dX3_joinsAll_122 (by decide) ?_
                          refine n_eq (show nI 0 = bI false from rfl) ?_
                          refine lv_istore (lv' := [(4, .int (bI (false))), (0, .ref (ad (25))), (1, .int (nI (k))), (2, .int (nI (X))), (3, .int (nI (V))), (5, .int (nI (y))), (6, .int (nI (z)))]) hx hb dX3_joinsAll_136 hl (by decide) rfl (fun ls hl => ?_)
                          refine n_iinc 6 1 (lv' := [(6, .int (nI (z + 1))), (4, .int (bI (false))), (0, .ref (ad (25))), (1, .int (nI (k))), (2, .int (nI (X))), (3, .int (nI (V))), (5, .int (nI (y)))]) hx hb dX3_joinsAll_138 hl rfl (by decide) rfl (fun ls hl => ?_)
                          refine n_goto 55 hx hb dX3_joinsAll_141 (by decide) ?_
                          exact ih_55 (false) (z + 1) (by omega) (by omega) (ja_in ha2 h_67 (by unfold jp; rw [if_pos h_72, h_86, h_100]; first | rfl | simp)) _ (lv_sub hl [2, 3, 4, 5, 1, 6, 0] rfl)
                        · refine lv_aload_n hx hb dX3_joinsAll_103 rfl (lv_at hl 0 rfl) ?_
                          refine lv_iload_n hx hb dX3_joinsAll_104 rfl (lv_at hl 1 rfl) ?_
                          refine lv_iload_n hx hb dX3_joinsAll_105 rfl (lv_at hl 2 rfl) ?_
                          refine lv_iload hx hb dX3_joinsAll_106 (lv_at hl 5 rfl) ?_
                          refine lv_iload hx hb dX3_joinsAll_108 (lv_at hl 6 rfl) ?_
                          refine n_iconst 2 hx hb dX3_joinsAll_110 ?_
                          refine g_callV (25) (C := RX3) (T := TX3) (N := 7) (ci := 2) (As := [.int (nI (k)), .int (nI (X)), .int (nI (y)), .int (nI (z)), .int (nI (2))]) (rest := []) (c_X3_joinsTwo l hI (k := k) hk5 h4k hcb (X := X) (Y := y) (Z := z) (V := 2) (by omega) (by omega) (by omega) (by omega)) (cwV 5 hts gX3_joinsAll_X3_joinsTwo rfl rfl rfl (by decide +kernel) ⟨Nat.le_of_ble_eq_true rfl, Nat.le_of_ble_eq_true rfl⟩) hx hb hml hown hts hK hP  (by decide) rfl rfl rfl hl.1 rfl (Nat.le_of_ble_eq_true rfl) (Nat.zero_le _) (Nat.zero_le _) dX3_joinsAll_111 ?_
                          refine n_ifeq_b (tgt := 121) hx hb dX3_joinsAll_114 (by decide) (fun h_114 => ?_) (fun h_114 => ?_)
                          · refine n_iconst 0 hx hb dX3_joinsAll_121 ?_
                            refine n_goto 136 hx hb dX3_joinsAll_122 (by decide) ?_
                            refine n_eq (show nI 0 = bI false from rfl) ?_
                            refine lv_istore (lv' := [(4, .int (bI (false))), (0, .ref (ad (25))), (1, .int (nI (k))), (2, .int (nI (X))), (3, .int (nI (V))), (5, .int (nI (y))), (6, .int (nI (z)))]) hx hb dX3_joinsAll_136 hl (by decide) rfl (fun ls hl => ?_)
                            refine n_iinc 6 1 (lv' := [(6, .int (nI (z + 1))), (4, .int (bI (false))), (0, .ref (ad (25))), (1, .int (nI (k))), (2, .int (nI (X))), (3, .int (nI (V))), (5, .int (nI (y)))]) hx hb dX3_joinsAll_138 hl rfl (by decide) rfl (fun ls hl => ?_)
                            refine n_goto 55 hx hb dX3_joinsAll_141 (by decide) ?_
                            exact ih_55 (false) (z + 1) (by omega) (by omega) (ja_in ha2 h_67 (by unfold jp; rw [if_pos h_72, h_86, h_100, h_114]; first | rfl | simp)) _ (lv_sub hl [2, 3, 4, 5, 1, 6, 0] rfl)
                          · refine n_iconst 1 hx hb dX3_joinsAll_117 ?_
                            refine n_goto 136 hx hb dX3_joinsAll_118 (by decide) ?_
                            refine n_eq (show nI 1 = bI true from rfl) ?_
                            refine lv_istore (lv' := [(4, .int (bI (true))), (0, .ref (ad (25))), (1, .int (nI (k))), (2, .int (nI (X))), (3, .int (nI (V))), (5, .int (nI (y))), (6, .int (nI (z)))]) hx hb dX3_joinsAll_136 hl (by decide) rfl (fun ls hl => ?_)
                            refine n_iinc 6 1 (lv' := [(6, .int (nI (z + 1))), (4, .int (bI (true))), (0, .ref (ad (25))), (1, .int (nI (k))), (2, .int (nI (X))), (3, .int (nI (V))), (5, .int (nI (y)))]) hx hb dX3_joinsAll_138 hl rfl (by decide) rfl (fun ls hl => ?_)
                            refine n_goto 55 hx hb dX3_joinsAll_141 (by decide) ?_
                            exact ih_55 (true) (z + 1) (by omega) (by omega) (ja_in ha2 h_67 (by unfold jp; rw [if_pos h_72, h_86, h_100, h_114]; first | rfl | simp)) _ (lv_sub hl [2, 3, 4, 5, 1, 6, 0] rfl)
            exact L_55 (2 ^ S 26 k + 1) (true) (0) (Nat.zero_le _) (by omega) (by rw [decide_eq_true h_23]; rfl) _ (lv_sub hl [2, 3, 4, 5, 1, 6, 0] rfl)
          · refine lv_aload_n hx hb dX3_joinsAll_26 rfl (lv_at hl 0 rfl) ?_
            refine lv_iload_n hx hb dX3_joinsAll_27 rfl (lv_at hl 1 rfl) ?_
            refine lv_iload_n hx hb dX3_joinsAll_28 rfl (lv_at hl 2 rfl) ?_
            refine lv_iload hx hb dX3_joinsAll_29 (lv_at hl 5 rfl) ?_
            refine g_callV (25) (C := RX3) (T := TX3) (N := 7) (ci := 2) (As := [.int (nI (k)), .int (nI (X)), .int (nI (y))]) (rest := []) (c_X3_times l hI (k := k) hk5 h4k (X := X) (Y := y) (by omega) (by omega)) (cwV 3 hts gX3_joinsAll_X3_times rfl rfl rfl (by decide +kernel) ⟨Nat.le_of_ble_eq_true rfl, Nat.le_of_ble_eq_true rfl⟩) hx hb hml hown hts hK hP  (by decide) rfl rfl rfl hl.1 rfl (Nat.le_of_ble_eq_true rfl) (Nat.zero_le _) (Nat.zero_le _) dX3_joinsAll_31 ?_
            refine lv_aload_n hx hb dX3_joinsAll_34 rfl (lv_at hl 0 rfl) ?_
            refine lv_iload_n hx hb dX3_joinsAll_35 rfl (lv_at hl 1 rfl) ?_
            refine lv_iload hx hb dX3_joinsAll_36 (lv_at hl 5 rfl) ?_
            refine lv_iload_n hx hb dX3_joinsAll_38 rfl (lv_at hl 2 rfl) ?_
            refine g_callV (25) (C := RX3) (T := TX3) (N := 7) (ci := 2) (As := [.int (nI (k)), .int (nI (y)), .int (nI (X))]) (rest := [.int (nI (tm (S 26 k) (rC S k) X y))]) (c_X3_times l hI (k := k) hk5 h4k (X := y) (Y := X) (by omega) (by omega)) (cwV 3 hts gX3_joinsAll_X3_times rfl rfl rfl (by decide +kernel) ⟨Nat.le_of_ble_eq_true rfl, Nat.le_of_ble_eq_true rfl⟩) hx hb hml hown hts hK hP  (by decide) rfl rfl rfl hl.1 rfl (Nat.le_of_ble_eq_true rfl) (Nat.zero_le _) (Nat.zero_le _) dX3_joinsAll_39 ?_
            have hm8 := tm_lt hcb X y
            have hm9 := tm_lt hcb y X
            refine n_cne (tgt := 49) hx hb dX3_joinsAll_42 (by decide) (by omega) (by omega) (fun h_42 => ?_) (fun h_42 => ?_)
            · refine n_iconst 0 hx hb dX3_joinsAll_49 ?_
              refine n_eq (show nI 0 = bI false from rfl) ?_
              refine lv_istore (lv' := [(4, .int (bI (false))), (0, .ref (ad (25))), (1, .int (nI (k))), (2, .int (nI (X))), (3, .int (nI (V))), (5, .int (nI (y)))]) hx hb dX3_joinsAll_50 hl (by decide) rfl (fun ls hl => ?_)
              refine n_iconst 0 hx hb dX3_joinsAll_52 ?_
              refine lv_istore (lv' := [(6, .int (nI (0))), (4, .int (bI (false))), (0, .ref (ad (25))), (1, .int (nI (k))), (2, .int (nI (X))), (3, .int (nI (V))), (5, .int (nI (y)))]) hx hb dX3_joinsAll_53 hl (by decide) rfl (fun ls hl => ?_)
              have L_55 : ∀ (r : Nat) (is2 : Bool) (z : Nat), (z ≤ 2 ^ S 26 k) → (2 ^ S 26 k < z + r) → (is2 = ((decide (V < 3) || (tm (S 26 k) (rC S k) X y == tm (S 26 k) (rC S k) y X)) && al (jp (S 26 k) (rC S k) X V y) z)) → ∀ (ls : Array Slot), lv_has ls 7 [(0, .ref (ad (25))), (1, .int (nI (k))), (2, .int (nI (X))), (3, .int (nI (V))), (4, .int (bI (is2))), (5, .int (nI (y))), (6, .int (nI (z)))] → W p l e ({ frames := 2, cells := 0, slots := 0, locals := 51 } : Room) s m args below meth c s.heap [] 0 0 (MQ below (k2_QcV (.int (bI (jaR (S 26 k) (rC S k) X V)))) args s 0 0 (fun _ => False)) (F0 m 55 ls []) := by
                intro r
                induction r with
                | zero => intro is2 z hz hr2 ha2; intros; exact absurd hr2 (by omega)
                | succ r ih =>
                  intro is2 z hz hr2 ha2 ls hl
                  have ih_55 := ih
                  refine lv_iload hx hb dX3_joinsAll_55 (lv_at hl 6 rfl) ?_
                  refine lv_aload_n hx hb dX3_joinsAll_57 rfl (lv_at hl 0 rfl) ?_
                  refine lv_iload_n hx hb dX3_joinsAll_58 rfl (lv_at hl 1 rfl) ?_
                  refine g_callV (25) (C := RX3) (T := TX3) (N := 7) (ci := 2) (As := [.int (nI (k))]) (rest := [.int (nI (z))]) (c_X3_numbers l hI (k := k) hk5 h4k) (cwV 1 hts gX3_joinsAll_X3_numbers rfl rfl rfl (by decide +kernel) ⟨Nat.le_of_ble_eq_true rfl, Nat.le_of_ble_eq_true rfl⟩) hx hb hml hown hts hK hP  (by decide) rfl rfl rfl hl.1 rfl (Nat.le_of_ble_eq_true rfl) (Nat.zero_le _) (Nat.zero_le _) dX3_joinsAll_59 ?_
                  refine n_ge (tgt := 144) hx hb dX3_joinsAll_62 (by decide) (by omega) (by omega) (fun h_62 => ?_) (fun h_62 => ?_)
                  · refine n_iinc 5 1 (lv' := [(5, .int (nI (y + 1))), (0, .ref (ad (25))), (1, .int (nI (k))), (2, .int (nI (X))), (3, .int (nI (V))), (4, .int (bI (is2))), (6, .int (nI (z)))]) hx hb dX3_joinsAll_144 hl rfl (by decide) rfl (fun ls hl => ?_)
                    refine n_goto 6 hx hb dX3_joinsAll_147 (by decide) ?_
                    exact ih_6 (is2) (y + 1) (by omega) (by omega) (ja_out (q := jq (S 26 k) (rC S k) X V) ha2 (Or.inl ⟨by omega, by omega⟩) rfl ha h_18) _ (lv_sub hl [1, 2, 3, 4, 5, 0] rfl)
                  · refine lv_iload hx hb dX3_joinsAll_65 (lv_at hl 4 rfl) ?_
                    refine n_ifeq_b (tgt := 144) hx hb dX3_joinsAll_67 (by decide) (fun h_67 => ?_) (fun h_67 => ?_)
                    · refine n_iinc 5 1 (lv' := [(5, .int (nI (y + 1))), (0, .ref (ad (25))), (1, .int (nI (k))), (2, .int (nI (X))), (3, .int (nI (V))), (4, .int (bI (is2))), (6, .int (nI (z)))]) hx hb dX3_joinsAll_144 hl rfl (by decide) rfl (fun ls hl => ?_)
                      refine n_goto 6 hx hb dX3_joinsAll_147 (by decide) ?_
                      exact ih_6 (is2) (y + 1) (by omega) (by omega) (ja_out (q := jq (S 26 k) (rC S k) X V) ha2 (Or.inr ⟨h_67, by omega⟩) rfl ha h_18) _ (lv_sub hl [1, 2, 3, 4, 5, 0] rfl)
                    · refine lv_iload_n hx hb dX3_joinsAll_70 rfl (lv_at hl 3 rfl) ?_
                      refine n_iconst 3 hx hb dX3_joinsAll_71 ?_
                      refine n_cne (tgt := 125) hx hb dX3_joinsAll_72 (by decide) (by omega) (by decide) (fun h_72 => ?_) (fun h_72 => ?_)
                      · refine lv_aload_n hx hb dX3_joinsAll_125 rfl (lv_at hl 0 rfl) ?_
                        refine lv_iload_n hx hb dX3_joinsAll_126 rfl (lv_at hl 1 rfl) ?_
                        refine lv_iload_n hx hb dX3_joinsAll_127 rfl (lv_at hl 2 rfl) ?_
                        refine lv_iload hx hb dX3_joinsAll_128 (lv_at hl 5 rfl) ?_
                        refine lv_iload hx hb dX3_joinsAll_130 (lv_at hl 6 rfl) ?_
                        refine lv_iload_n hx hb dX3_joinsAll_132 rfl (lv_at hl 3 rfl) ?_
                        refine g_callV (25) (C := RX3) (T := TX3) (N := 7) (ci := 2) (As := [.int (nI (k)), .int (nI (X)), .int (nI (y)), .int (nI (z)), .int (nI (V))]) (rest := []) (c_X3_joinsTwo l hI (k := k) hk5 h4k hcb (X := X) (Y := y) (Z := z) (V := V) (by omega) (by omega) (by omega) (by omega)) (cwV 5 hts gX3_joinsAll_X3_joinsTwo rfl rfl rfl (by decide +kernel) ⟨Nat.le_of_ble_eq_true rfl, Nat.le_of_ble_eq_true rfl⟩) hx hb hml hown hts hK hP  (by decide) rfl rfl rfl hl.1 rfl (Nat.le_of_ble_eq_true rfl) (Nat.zero_le _) (Nat.zero_le _) dX3_joinsAll_133 ?_
                        refine lv_istore (lv' := [(4, .int (bI (asw (S 26 k) (rC S k) X y z V))), (0, .ref (ad (25))), (1, .int (nI (k))), (2, .int (nI (X))), (3, .int (nI (V))), (5, .int (nI (y))), (6, .int (nI (z)))]) hx hb dX3_joinsAll_136 hl (by decide) rfl (fun ls hl => ?_)
                        refine n_iinc 6 1 (lv' := [(6, .int (nI (z + 1))), (4, .int (bI (asw (S 26 k) (rC S k) X y z V))), (0, .ref (ad (25))), (1, .int (nI (k))), (2, .int (nI (X))), (3, .int (nI (V))), (5, .int (nI (y)))]) hx hb dX3_joinsAll_138 hl rfl (by decide) rfl (fun ls hl => ?_)
                        refine n_goto 55 hx hb dX3_joinsAll_141 (by decide) ?_
                        exact ih_55 (asw (S 26 k) (rC S k) X y z V) (z + 1) (by omega) (by omega) (ja_in ha2 h_67 (by unfold jp; rw [if_neg h_72])) _ (lv_sub hl [2, 3, 4, 5, 1, 6, 0] rfl)
                      · refine lv_aload_n hx hb dX3_joinsAll_75 rfl (lv_at hl 0 rfl) ?_
                        refine lv_iload_n hx hb dX3_joinsAll_76 rfl (lv_at hl 1 rfl) ?_
                        refine lv_iload_n hx hb dX3_joinsAll_77 rfl (lv_at hl 2 rfl) ?_
                        refine lv_iload hx hb dX3_joinsAll_78 (lv_at hl 5 rfl) ?_
                        refine lv_iload hx hb dX3_joinsAll_80 (lv_at hl 6 rfl) ?_
                        refine n_iconst 0 hx hb dX3_joinsAll_82 ?_
                        refine g_callV (25) (C := RX3) (T := TX3) (N := 7) (ci := 2) (As := [.int (nI (k)), .int (nI (X)), .int (nI (y)), .int (nI (z)), .int (nI (0))]) (rest := []) (c_X3_joinsTwo l hI (k := k) hk5 h4k hcb (X := X) (Y := y) (Z := z) (V := 0) (by omega) (by omega) (by omega) (by omega)) (cwV 5 hts gX3_joinsAll_X3_joinsTwo rfl rfl rfl (by decide +kernel) ⟨Nat.le_of_ble_eq_true rfl, Nat.le_of_ble_eq_true rfl⟩) hx hb hml hown hts hK hP  (by decide) rfl rfl rfl hl.1 rfl (Nat.le_of_ble_eq_true rfl) (Nat.zero_le _) (Nat.zero_le _) dX3_joinsAll_83 ?_
                        refine n_ifeq_b (tgt := 121) hx hb dX3_joinsAll_86 (by decide) (fun h_86 => ?_) (fun h_86 => ?_)
                        · refine n_iconst 0 hx hb dX3_joinsAll_121 ?_
                          refine n_goto 136 hx hb dX3_joinsAll_122 (by decide) ?_
                          refine n_eq (show nI 0 = bI false from rfl) ?_
                          refine lv_istore (lv' := [(4, .int (bI (false))), (0, .ref (ad (25))), (1, .int (nI (k))), (2, .int (nI (X))), (3, .int (nI (V))), (5, .int (nI (y))), (6, .int (nI (z)))]) hx hb dX3_joinsAll_136 hl (by decide) rfl (fun ls hl => ?_)
                          refine n_iinc 6 1 (lv' := [(6, .int (nI (z + 1))), (4, .int (bI (false))), (0, .ref (ad (25))), (1, .int (nI (k))), (2, .int (nI (X))), (3, .int (nI (V))), (5, .int (nI (y)))]) hx hb dX3_joinsAll_138 hl rfl (by decide) rfl (fun ls hl => ?_)
                          refine n_goto 55 hx hb dX3_joinsAll_141 (by decide) ?_
                          exact ih_55 (false) (z + 1) (by omega) (by omega) (ja_in ha2 h_67 (by unfold jp; rw [if_pos h_72, h_86]; first | rfl | simp)) _ (lv_sub hl [2, 3, 4, 5, 1, 6, 0] rfl)
                        · refine lv_aload_n hx hb dX3_joinsAll_89 rfl (lv_at hl 0 rfl) ?_
                          refine lv_iload_n hx hb dX3_joinsAll_90 rfl (lv_at hl 1 rfl) ?_
                          refine lv_iload_n hx hb dX3_joinsAll_91 rfl (lv_at hl 2 rfl) ?_
                          refine lv_iload hx hb dX3_joinsAll_92 (lv_at hl 5 rfl) ?_
                          refine lv_iload hx hb dX3_joinsAll_94 (lv_at hl 6 rfl) ?_
                          refine n_iconst 1 hx hb dX3_joinsAll_96 ?_
                          refine g_callV (25) (C := RX3) (T := TX3) (N := 7) (ci := 2) (As := [.int (nI (k)), .int (nI (X)), .int (nI (y)), .int (nI (z)), .int (nI (1))]) (rest := []) (c_X3_joinsTwo l hI (k := k) hk5 h4k hcb (X := X) (Y := y) (Z := z) (V := 1) (by omega) (by omega) (by omega) (by omega)) (cwV 5 hts gX3_joinsAll_X3_joinsTwo rfl rfl rfl (by decide +kernel) ⟨Nat.le_of_ble_eq_true rfl, Nat.le_of_ble_eq_true rfl⟩) hx hb hml hown hts hK hP  (by decide) rfl rfl rfl hl.1 rfl (Nat.le_of_ble_eq_true rfl) (Nat.zero_le _) (Nat.zero_le _) dX3_joinsAll_97 ?_
                          refine n_ifeq_b (tgt := 121) hx hb dX3_joinsAll_100 (by decide) (fun h_100 => ?_) (fun h_100 => ?_)
                          · refine n_iconst 0 hx hb dX3_joinsAll_121 ?_
                            refine n_goto 136 hx hb dX3_joinsAll_122 (by decide) ?_
                            refine n_eq (show nI 0 = bI false from rfl) ?_
                            refine lv_istore (lv' := [(4, .int (bI (false))), (0, .ref (ad (25))), (1, .int (nI (k))), (2, .int (nI (X))), (3, .int (nI (V))), (5, .int (nI (y))), (6, .int (nI (z)))]) hx hb dX3_joinsAll_136 hl (by decide) rfl (fun ls hl => ?_)
                            refine n_iinc 6 1 (lv' := [(6, .int (nI (z + 1))), (4, .int (bI (false))), (0, .ref (ad (25))), (1, .int (nI (k))), (2, .int (nI (X))), (3, .int (nI (V))), (5, .int (nI (y)))]) hx hb dX3_joinsAll_138 hl rfl (by decide) rfl (fun ls hl => ?_)
                            refine n_goto 55 hx hb dX3_joinsAll_141 (by decide) ?_
                            exact ih_55 (false) (z + 1) (by omega) (by omega) (ja_in ha2 h_67 (by unfold jp; rw [if_pos h_72, h_86, h_100]; first | rfl | simp)) _ (lv_sub hl [2, 3, 4, 5, 1, 6, 0] rfl)
                          · refine lv_aload_n hx hb dX3_joinsAll_103 rfl (lv_at hl 0 rfl) ?_
                            refine lv_iload_n hx hb dX3_joinsAll_104 rfl (lv_at hl 1 rfl) ?_
                            refine lv_iload_n hx hb dX3_joinsAll_105 rfl (lv_at hl 2 rfl) ?_
                            refine lv_iload hx hb dX3_joinsAll_106 (lv_at hl 5 rfl) ?_
                            refine lv_iload hx hb dX3_joinsAll_108 (lv_at hl 6 rfl) ?_
                            refine n_iconst 2 hx hb dX3_joinsAll_110 ?_
                            refine g_callV (25) (C := RX3) (T := TX3) (N := 7) (ci := 2) (As := [.int (nI (k)), .int (nI (X)), .int (nI (y)), .int (nI (z)), .int (nI (2))]) (rest := []) (c_X3_joinsTwo l hI (k := k) hk5 h4k hcb (X := X) (Y := y) (Z := z) (V := 2) (by omega) (by omega) (by omega) (by omega)) (cwV 5 hts gX3_joinsAll_X3_joinsTwo rfl rfl rfl (by decide +kernel) ⟨Nat.le_of_ble_eq_true rfl, Nat.le_of_ble_eq_true rfl⟩) hx hb hml hown hts hK hP  (by decide) rfl rfl rfl hl.1 rfl (Nat.le_of_ble_eq_true rfl) (Nat.zero_le _) (Nat.zero_le _) dX3_joinsAll_111 ?_
                            refine n_ifeq_b (tgt := 121) hx hb dX3_joinsAll_114 (by decide) (fun h_114 => ?_) (fun h_114 => ?_)
                            · refine n_iconst 0 hx hb dX3_joinsAll_121 ?_
                              refine n_goto 136 hx hb dX3_joinsAll_122 (by decide) ?_
                              refine n_eq (show nI 0 = bI false from rfl) ?_
                              refine lv_istore (lv' := [(4, .int (bI (false))), (0, .ref (ad (25))), (1, .int (nI (k))), (2, .int (nI (X))), (3, .int (nI (V))), (5, .int (nI (y))), (6, .int (nI (z)))]) hx hb dX3_joinsAll_136 hl (by decide) rfl (fun ls hl => ?_)
                              refine n_iinc 6 1 (lv' := [(6, .int (nI (z + 1))), (4, .int (bI (false))), (0, .ref (ad (25))), (1, .int (nI (k))), (2, .int (nI (X))), (3, .int (nI (V))), (5, .int (nI (y)))]) hx hb dX3_joinsAll_138 hl rfl (by decide) rfl (fun ls hl => ?_)
                              refine n_goto 55 hx hb dX3_joinsAll_141 (by decide) ?_
                              exact ih_55 (false) (z + 1) (by omega) (by omega) (ja_in ha2 h_67 (by unfold jp; rw [if_pos h_72, h_86, h_100, h_114]; first | rfl | simp)) _ (lv_sub hl [2, 3, 4, 5, 1, 6, 0] rfl)
                            · refine n_iconst 1 hx hb dX3_joinsAll_117 ?_
                              refine n_goto 136 hx hb dX3_joinsAll_118 (by decide) ?_
                              refine n_eq (show nI 1 = bI true from rfl) ?_
                              refine lv_istore (lv' := [(4, .int (bI (true))), (0, .ref (ad (25))), (1, .int (nI (k))), (2, .int (nI (X))), (3, .int (nI (V))), (5, .int (nI (y))), (6, .int (nI (z)))]) hx hb dX3_joinsAll_136 hl (by decide) rfl (fun ls hl => ?_)
                              refine n_iinc 6 1 (lv' := [(6, .int (nI (z + 1))), (4, .int (bI (true))), (0, .ref (ad (25))), (1, .int (nI (k))), (2, .int (nI (X))), (3, .int (nI (V))), (5, .int (nI (y)))]) hx hb dX3_joinsAll_138 hl rfl (by decide) rfl (fun ls hl => ?_)
                              refine n_goto 55 hx hb dX3_joinsAll_141 (by decide) ?_
                              exact ih_55 (true) (z + 1) (by omega) (by omega) (ja_in ha2 h_67 (by unfold jp; rw [if_pos h_72, h_86, h_100, h_114]; first | rfl | simp)) _ (lv_sub hl [2, 3, 4, 5, 1, 6, 0] rfl)
              exact L_55 (2 ^ S 26 k + 1) (false) (0) (Nat.zero_le _) (by omega) (by rw [decide_eq_false (Nat.not_lt.mpr h_23), bF h_42]; rfl) _ (lv_sub hl [2, 3, 4, 5, 1, 6, 0] rfl)
            · refine n_iconst 1 hx hb dX3_joinsAll_45 ?_
              refine n_goto 50 hx hb dX3_joinsAll_46 (by decide) ?_
              refine n_eq (show nI 1 = bI true from rfl) ?_
              refine lv_istore (lv' := [(4, .int (bI (true))), (0, .ref (ad (25))), (1, .int (nI (k))), (2, .int (nI (X))), (3, .int (nI (V))), (5, .int (nI (y)))]) hx hb dX3_joinsAll_50 hl (by decide) rfl (fun ls hl => ?_)
              refine n_iconst 0 hx hb dX3_joinsAll_52 ?_
              refine lv_istore (lv' := [(6, .int (nI (0))), (4, .int (bI (true))), (0, .ref (ad (25))), (1, .int (nI (k))), (2, .int (nI (X))), (3, .int (nI (V))), (5, .int (nI (y)))]) hx hb dX3_joinsAll_53 hl (by decide) rfl (fun ls hl => ?_)
              have L_55 : ∀ (r : Nat) (is2 : Bool) (z : Nat), (z ≤ 2 ^ S 26 k) → (2 ^ S 26 k < z + r) → (is2 = ((decide (V < 3) || (tm (S 26 k) (rC S k) X y == tm (S 26 k) (rC S k) y X)) && al (jp (S 26 k) (rC S k) X V y) z)) → ∀ (ls : Array Slot), lv_has ls 7 [(0, .ref (ad (25))), (1, .int (nI (k))), (2, .int (nI (X))), (3, .int (nI (V))), (4, .int (bI (is2))), (5, .int (nI (y))), (6, .int (nI (z)))] → W p l e ({ frames := 2, cells := 0, slots := 0, locals := 51 } : Room) s m args below meth c s.heap [] 0 0 (MQ below (k2_QcV (.int (bI (jaR (S 26 k) (rC S k) X V)))) args s 0 0 (fun _ => False)) (F0 m 55 ls []) := by
                intro r
                induction r with
                | zero => intro is2 z hz hr2 ha2; intros; exact absurd hr2 (by omega)
                | succ r ih =>
                  intro is2 z hz hr2 ha2 ls hl
                  have ih_55 := ih
                  refine lv_iload hx hb dX3_joinsAll_55 (lv_at hl 6 rfl) ?_
                  refine lv_aload_n hx hb dX3_joinsAll_57 rfl (lv_at hl 0 rfl) ?_
                  refine lv_iload_n hx hb dX3_joinsAll_58 rfl (lv_at hl 1 rfl) ?_
                  refine g_callV (25) (C := RX3) (T := TX3) (N := 7) (ci := 2) (As := [.int (nI (k))]) (rest := [.int (nI (z))]) (c_X3_numbers l hI (k := k) hk5 h4k) (cwV 1 hts gX3_joinsAll_X3_numbers rfl rfl rfl (by decide +kernel) ⟨Nat.le_of_ble_eq_true rfl, Nat.le_of_ble_eq_true rfl⟩) hx hb hml hown hts hK hP  (by decide) rfl rfl rfl hl.1 rfl (Nat.le_of_ble_eq_true rfl) (Nat.zero_le _) (Nat.zero_le _) dX3_joinsAll_59 ?_
                  refine n_ge (tgt := 144) hx hb dX3_joinsAll_62 (by decide) (by omega) (by omega) (fun h_62 => ?_) (fun h_62 => ?_)
                  · refine n_iinc 5 1 (lv' := [(5, .int (nI (y + 1))), (0, .ref (ad (25))), (1, .int (nI (k))), (2, .int (nI (X))), (3, .int (nI (V))), (4, .int (bI (is2))), (6, .int (nI (z)))]) hx hb dX3_joinsAll_144 hl rfl (by decide) rfl (fun ls hl => ?_)
                    refine n_goto 6 hx hb dX3_joinsAll_147 (by decide) ?_
                    exact ih_6 (is2) (y + 1) (by omega) (by omega) (ja_out (q := jq (S 26 k) (rC S k) X V) ha2 (Or.inl ⟨by omega, by omega⟩) rfl ha h_18) _ (lv_sub hl [1, 2, 3, 4, 5, 0] rfl)
                  · refine lv_iload hx hb dX3_joinsAll_65 (lv_at hl 4 rfl) ?_
                    refine n_ifeq_b (tgt := 144) hx hb dX3_joinsAll_67 (by decide) (fun h_67 => ?_) (fun h_67 => ?_)
                    · refine n_iinc 5 1 (lv' := [(5, .int (nI (y + 1))), (0, .ref (ad (25))), (1, .int (nI (k))), (2, .int (nI (X))), (3, .int (nI (V))), (4, .int (bI (is2))), (6, .int (nI (z)))]) hx hb dX3_joinsAll_144 hl rfl (by decide) rfl (fun ls hl => ?_)
                      refine n_goto 6 hx hb dX3_joinsAll_147 (by decide) ?_
                      exact ih_6 (is2) (y + 1) (by omega) (by omega) (ja_out (q := jq (S 26 k) (rC S k) X V) ha2 (Or.inr ⟨h_67, by omega⟩) rfl ha h_18) _ (lv_sub hl [1, 2, 3, 4, 5, 0] rfl)
                    · refine lv_iload_n hx hb dX3_joinsAll_70 rfl (lv_at hl 3 rfl) ?_
                      refine n_iconst 3 hx hb dX3_joinsAll_71 ?_
                      refine n_cne (tgt := 125) hx hb dX3_joinsAll_72 (by decide) (by omega) (by decide) (fun h_72 => ?_) (fun h_72 => ?_)
                      · refine lv_aload_n hx hb dX3_joinsAll_125 rfl (lv_at hl 0 rfl) ?_
                        refine lv_iload_n hx hb dX3_joinsAll_126 rfl (lv_at hl 1 rfl) ?_
                        refine lv_iload_n hx hb dX3_joinsAll_127 rfl (lv_at hl 2 rfl) ?_
                        refine lv_iload hx hb dX3_joinsAll_128 (lv_at hl 5 rfl) ?_
                        refine lv_iload hx hb dX3_joinsAll_130 (lv_at hl 6 rfl) ?_
                        refine lv_iload_n hx hb dX3_joinsAll_132 rfl (lv_at hl 3 rfl) ?_
                        refine g_callV (25) (C := RX3) (T := TX3) (N := 7) (ci := 2) (As := [.int (nI (k)), .int (nI (X)), .int (nI (y)), .int (nI (z)), .int (nI (V))]) (rest := []) (c_X3_joinsTwo l hI (k := k) hk5 h4k hcb (X := X) (Y := y) (Z := z) (V := V) (by omega) (by omega) (by omega) (by omega)) (cwV 5 hts gX3_joinsAll_X3_joinsTwo rfl rfl rfl (by decide +kernel) ⟨Nat.le_of_ble_eq_true rfl, Nat.le_of_ble_eq_true rfl⟩) hx hb hml hown hts hK hP  (by decide) rfl rfl rfl hl.1 rfl (Nat.le_of_ble_eq_true rfl) (Nat.zero_le _) (Nat.zero_le _) dX3_joinsAll_133 ?_
                        refine lv_istore (lv' := [(4, .int (bI (asw (S 26 k) (rC S k) X y z V))), (0, .ref (ad (25))), (1, .int (nI (k))), (2, .int (nI (X))), (3, .int (nI (V))), (5, .int (nI (y))), (6, .int (nI (z)))]) hx hb dX3_joinsAll_136 hl (by decide) rfl (fun ls hl => ?_)
                        refine n_iinc 6 1 (lv' := [(6, .int (nI (z + 1))), (4, .int (bI (asw (S 26 k) (rC S k) X y z V))), (0, .ref (ad (25))), (1, .int (nI (k))), (2, .int (nI (X))), (3, .int (nI (V))), (5, .int (nI (y)))]) hx hb dX3_joinsAll_138 hl rfl (by decide) rfl (fun ls hl => ?_)
                        refine n_goto 55 hx hb dX3_joinsAll_141 (by decide) ?_
                        exact ih_55 (asw (S 26 k) (rC S k) X y z V) (z + 1) (by omega) (by omega) (ja_in ha2 h_67 (by unfold jp; rw [if_neg h_72])) _ (lv_sub hl [2, 3, 4, 5, 1, 6, 0] rfl)
                      · refine lv_aload_n hx hb dX3_joinsAll_75 rfl (lv_at hl 0 rfl) ?_
                        refine lv_iload_n hx hb dX3_joinsAll_76 rfl (lv_at hl 1 rfl) ?_
                        refine lv_iload_n hx hb dX3_joinsAll_77 rfl (lv_at hl 2 rfl) ?_
                        refine lv_iload hx hb dX3_joinsAll_78 (lv_at hl 5 rfl) ?_
                        refine lv_iload hx hb dX3_joinsAll_80 (lv_at hl 6 rfl) ?_
                        refine n_iconst 0 hx hb dX3_joinsAll_82 ?_
                        refine g_callV (25) (C := RX3) (T := TX3) (N := 7) (ci := 2) (As := [.int (nI (k)), .int (nI (X)), .int (nI (y)), .int (nI (z)), .int (nI (0))]) (rest := []) (c_X3_joinsTwo l hI (k := k) hk5 h4k hcb (X := X) (Y := y) (Z := z) (V := 0) (by omega) (by omega) (by omega) (by omega)) (cwV 5 hts gX3_joinsAll_X3_joinsTwo rfl rfl rfl (by decide +kernel) ⟨Nat.le_of_ble_eq_true rfl, Nat.le_of_ble_eq_true rfl⟩) hx hb hml hown hts hK hP  (by decide) rfl rfl rfl hl.1 rfl (Nat.le_of_ble_eq_true rfl) (Nat.zero_le _) (Nat.zero_le _) dX3_joinsAll_83 ?_
                        refine n_ifeq_b (tgt := 121) hx hb dX3_joinsAll_86 (by decide) (fun h_86 => ?_) (fun h_86 => ?_)
                        · refine n_iconst 0 hx hb dX3_joinsAll_121 ?_
                          refine n_goto 136 hx hb dX3_joinsAll_122 (by decide) ?_
                          refine n_eq (show nI 0 = bI false from rfl) ?_
                          refine lv_istore (lv' := [(4, .int (bI (false))), (0, .ref (ad (25))), (1, .int (nI (k))), (2, .int (nI (X))), (3, .int (nI (V))), (5, .int (nI (y))), (6, .int (nI (z)))]) hx hb dX3_joinsAll_136 hl (by decide) rfl (fun ls hl => ?_)
                          refine n_iinc 6 1 (lv' := [(6, .int (nI (z + 1))), (4, .int (bI (false))), (0, .ref (ad (25))), (1, .int (nI (k))), (2, .int (nI (X))), (3, .int (nI (V))), (5, .int (nI (y)))]) hx hb dX3_joinsAll_138 hl rfl (by decide) rfl (fun ls hl => ?_)
                          refine n_goto 55 hx hb dX3_joinsAll_141 (by decide) ?_
                          exact ih_55 (false) (z + 1) (by omega) (by omega) (ja_in ha2 h_67 (by unfold jp; rw [if_pos h_72, h_86]; first | rfl | simp)) _ (lv_sub hl [2, 3, 4, 5, 1, 6, 0] rfl)
                        · refine lv_aload_n hx hb dX3_joinsAll_89 rfl (lv_at hl 0 rfl) ?_
                          refine lv_iload_n hx hb dX3_joinsAll_90 rfl (lv_at hl 1 rfl) ?_
                          refine lv_iload_n hx hb dX3_joinsAll_91 rfl (lv_at hl 2 rfl) ?_
                          refine lv_iload hx hb dX3_joinsAll_92 (lv_at hl 5 rfl) ?_
                          refine lv_iload hx hb dX3_joinsAll_94 (lv_at hl 6 rfl) ?_
                          refine n_iconst 1 hx hb dX3_joinsAll_96 ?_
                          refine g_callV (25) (C := RX3) (T := TX3) (N := 7) (ci := 2) (As := [.int (nI (k)), .int (nI (X)), .int (nI (y)), .int (nI (z)), .int (nI (1))]) (rest := []) (c_X3_joinsTwo l hI (k := k) hk5 h4k hcb (X := X) (Y := y) (Z := z) (V := 1) (by omega) (by omega) (by omega) (by omega)) (cwV 5 hts gX3_joinsAll_X3_joinsTwo rfl rfl rfl (by decide +kernel) ⟨Nat.le_of_ble_eq_true rfl, Nat.le_of_ble_eq_true rfl⟩) hx hb hml hown hts hK hP  (by decide) rfl rfl rfl hl.1 rfl (Nat.le_of_ble_eq_true rfl) (Nat.zero_le _) (Nat.zero_le _) dX3_joinsAll_97 ?_
                          refine n_ifeq_b (tgt := 121) hx hb dX3_joinsAll_100 (by decide) (fun h_100 => ?_) (fun h_100 => ?_)
                          · refine n_iconst 0 hx hb dX3_joinsAll_121 ?_
                            refine n_goto 136 hx hb dX3_joinsAll_122 (by decide) ?_
                            refine n_eq (show nI 0 = bI false from rfl) ?_
                            refine lv_istore (lv' := [(4, .int (bI (false))), (0, .ref (ad (25))), (1, .int (nI (k))), (2, .int (nI (X))), (3, .int (nI (V))), (5, .int (nI (y))), (6, .int (nI (z)))]) hx hb dX3_joinsAll_136 hl (by decide) rfl (fun ls hl => ?_)
                            refine n_iinc 6 1 (lv' := [(6, .int (nI (z + 1))), (4, .int (bI (false))), (0, .ref (ad (25))), (1, .int (nI (k))), (2, .int (nI (X))), (3, .int (nI (V))), (5, .int (nI (y)))]) hx hb dX3_joinsAll_138 hl rfl (by decide) rfl (fun ls hl => ?_)
                            refine n_goto 55 hx hb dX3_joinsAll_141 (by decide) ?_
                            exact ih_55 (false) (z + 1) (by omega) (by omega) (ja_in ha2 h_67 (by unfold jp; rw [if_pos h_72, h_86, h_100]; first | rfl | simp)) _ (lv_sub hl [2, 3, 4, 5, 1, 6, 0] rfl)
                          · refine lv_aload_n hx hb dX3_joinsAll_103 rfl (lv_at hl 0 rfl) ?_
                            refine lv_iload_n hx hb dX3_joinsAll_104 rfl (lv_at hl 1 rfl) ?_
                            refine lv_iload_n hx hb dX3_joinsAll_105 rfl (lv_at hl 2 rfl) ?_
                            refine lv_iload hx hb dX3_joinsAll_106 (lv_at hl 5 rfl) ?_
                            refine lv_iload hx hb dX3_joinsAll_108 (lv_at hl 6 rfl) ?_
                            refine n_iconst 2 hx hb dX3_joinsAll_110 ?_
                            refine g_callV (25) (C := RX3) (T := TX3) (N := 7) (ci := 2) (As := [.int (nI (k)), .int (nI (X)), .int (nI (y)), .int (nI (z)), .int (nI (2))]) (rest := []) (c_X3_joinsTwo l hI (k := k) hk5 h4k hcb (X := X) (Y := y) (Z := z) (V := 2) (by omega) (by omega) (by omega) (by omega)) (cwV 5 hts gX3_joinsAll_X3_joinsTwo rfl rfl rfl (by decide +kernel) ⟨Nat.le_of_ble_eq_true rfl, Nat.le_of_ble_eq_true rfl⟩) hx hb hml hown hts hK hP  (by decide) rfl rfl rfl hl.1 rfl (Nat.le_of_ble_eq_true rfl) (Nat.zero_le _) (Nat.zero_le _) dX3_joinsAll_111 ?_
                            refine n_ifeq_b (tgt := 121) hx hb dX3_joinsAll_114 (by decide) (fun h_114 => ?_) (fun h_114 => ?_)
                            · refine n_iconst 0 hx hb dX3_joinsAll_121 ?_
                              refine n_goto 136 hx hb dX3_joinsAll_122 (by decide) ?_
                              refine n_eq (show nI 0 = bI false from rfl) ?_
                              refine lv_istore (lv' := [(4, .int (bI (false))), (0, .ref (ad (25))), (1, .int (nI (k))), (2, .int (nI (X))), (3, .int (nI (V))), (5, .int (nI (y))), (6, .int (nI (z)))]) hx hb dX3_joinsAll_136 hl (by decide) rfl (fun ls hl => ?_)
                              refine n_iinc 6 1 (lv' := [(6, .int (nI (z + 1))), (4, .int (bI (false))), (0, .ref (ad (25))), (1, .int (nI (k))), (2, .int (nI (X))), (3, .int (nI (V))), (5, .int (nI (y)))]) hx hb dX3_joinsAll_138 hl rfl (by decide) rfl (fun ls hl => ?_)
                              refine n_goto 55 hx hb dX3_joinsAll_141 (by decide) ?_
                              exact ih_55 (false) (z + 1) (by omega) (by omega) (ja_in ha2 h_67 (by unfold jp; rw [if_pos h_72, h_86, h_100, h_114]; first | rfl | simp)) _ (lv_sub hl [2, 3, 4, 5, 1, 6, 0] rfl)
                            · refine n_iconst 1 hx hb dX3_joinsAll_117 ?_
                              refine n_goto 136 hx hb dX3_joinsAll_118 (by decide) ?_
                              refine n_eq (show nI 1 = bI true from rfl) ?_
                              refine lv_istore (lv' := [(4, .int (bI (true))), (0, .ref (ad (25))), (1, .int (nI (k))), (2, .int (nI (X))), (3, .int (nI (V))), (5, .int (nI (y))), (6, .int (nI (z)))]) hx hb dX3_joinsAll_136 hl (by decide) rfl (fun ls hl => ?_)
                              refine n_iinc 6 1 (lv' := [(6, .int (nI (z + 1))), (4, .int (bI (true))), (0, .ref (ad (25))), (1, .int (nI (k))), (2, .int (nI (X))), (3, .int (nI (V))), (5, .int (nI (y)))]) hx hb dX3_joinsAll_138 hl rfl (by decide) rfl (fun ls hl => ?_)
                              refine n_goto 55 hx hb dX3_joinsAll_141 (by decide) ?_
                              exact ih_55 (true) (z + 1) (by omega) (by omega) (ja_in ha2 h_67 (by unfold jp; rw [if_pos h_72, h_86, h_100, h_114]; first | rfl | simp)) _ (lv_sub hl [2, 3, 4, 5, 1, 6, 0] rfl)
              exact L_55 (2 ^ S 26 k + 1) (true) (0) (Nat.zero_le _) (by omega) (by rw [decide_eq_false (Nat.not_lt.mpr h_23), bT h_42]; rfl) _ (lv_sub hl [2, 3, 4, 5, 1, 6, 0] rfl)
  exact L_6 (2 ^ S 26 k + 1) (true) (0) (Nat.zero_le _) (by omega) rfl _ (lv_sub hl [2, 3, 4, 5, 1, 0] rfl)
set_option maxHeartbeats 4000000 in
set_option maxRecDepth 100000 in
theorem c_X3_product (l : Launch) {D : va_G} {tys : List (ClassId × FieldType)} {ad : Nat → Nat} {cI cW cM : ClassId} {tI : Nat} {S : Nat → Nat → Nat} (hI : tys[tI]? = some (cI, .int)) (hRF : RF S) {a x y : Int32} : Met l yX3_product wsX3_product ({ frames := 2, cells := 0, slots := 0, locals := 44 } : Room) (va_Pc [.ref (ad (25)), .int (a), .int (x), .int (y)] (PB D tys 33 ad (gE cI cW cM ad S))) (k2_QcV (.int (sC_product (rN_ S) (rC S) a x y))) 0 0 (fun _ => False) := by
  refine g_pure (cc := cX3_product) (maxL := 4) (ret := (some .int)) (by decide) rfl (Nat.le_of_ble_eq_true rfl) ?_
  intro p e s m args below meth c hx hb hrt hts hown hlocks hml hP hK ls hl
  show W p l e ({ frames := 2, cells := 0, slots := 0, locals := 44 } : Room) s m args below meth c s.heap [] 0 0 _ _
  have hl : lv_has ls 4 [(0, .ref (ad (25))), (1, .int (a)), (2, .int (x)), (3, .int (y))] := hl
  refine lv_iload_n hx hb dX3_product_0 rfl (lv_at hl 1 rfl) ?_
  refine g_callS (As := [.int (a)]) (rest := []) (c_X3_isSlot l hI (v := a)) (va_cwS 1 hts gX3_product_X3_isSlot rfl rfl rfl (by decide +kernel) ⟨Nat.le_of_ble_eq_true rfl, Nat.le_of_ble_eq_true rfl⟩) hx hb hml hown hts hK hP  rfl hl.1 rfl (Nat.le_of_ble_eq_true rfl) (Nat.zero_le _) (Nat.zero_le _) dX3_product_1 ?_
  refine n_ifeq_b (tgt := 35) hx hb dX3_product_4 (by decide) (fun h_4 => ?_) (fun h_4 => ?_)
  · refine lv_iconst (v := (-1)) hx hb dX3_product_35 (by decide) ?_
    exact g_iret hx hb hrt hlocks dX3_product_36 (by unfold sC_product; (try dsimp only [rN_]); rw [rg_n h_4])
  · obtain ⟨k, hk1, hk2, e9⟩ := rB_some (by omega) (by omega) h_4
    subst e9
    have hk5 : k < 5 := by omega
    have qk1 := (hRF.1 k (by omega)).1
    have h4k := qk1.2
    have hcbk := (hRF.1 k (by omega)).2
    have qk2 := pow4 h4k
    have qk3 : 0 < 2 ^ S 26 k := Nat.pow_pos (by decide)
    have qk4 := sq4 qk2
    refine lv_aload_n hx hb dX3_product_7 rfl (lv_at hl 0 rfl) ?_
    refine lv_iload_n hx hb dX3_product_8 rfl (lv_at hl 1 rfl) ?_
    refine lv_iload_n hx hb dX3_product_9 rfl (lv_at hl 2 rfl) ?_
    refine g_callV (25) (C := RX3) (T := TX3) (N := 7) (ci := 2) (As := [.int (nI (k)), .int (x)]) (rest := []) (c_X3_isNumber l hI (k := k) hk5 h4k (v := x)) (cwV 2 hts gX3_product_X3_isNumber rfl rfl rfl (by decide +kernel) ⟨Nat.le_of_ble_eq_true rfl, Nat.le_of_ble_eq_true rfl⟩) hx hb hml hown hts hK hP  (by decide) rfl rfl rfl hl.1 rfl (Nat.le_of_ble_eq_true rfl) (Nat.zero_le _) (Nat.zero_le _) dX3_product_10 ?_
    refine n_ifeq_b (tgt := 35) hx hb dX3_product_13 (by decide) (fun h_13 => ?_) (fun h_13 => ?_)
    · refine lv_iconst (v := (-1)) hx hb dX3_product_35 (by decide) ?_
      exact g_iret hx hb hrt hlocks dX3_product_36 (by unfold sC_product; (try dsimp only [rN_]); rw [rg_y (by omega) (by omega) (by omega), rg_n h_13])
    · obtain ⟨X, hX1, hX2, e9⟩ := rB_some (by omega) (by omega) h_13
      subst e9
      refine lv_aload_n hx hb dX3_product_16 rfl (lv_at hl 0 rfl) ?_
      refine lv_iload_n hx hb dX3_product_17 rfl (lv_at hl 1 rfl) ?_
      refine lv_iload_n hx hb dX3_product_18 rfl (lv_at hl 3 rfl) ?_
      refine g_callV (25) (C := RX3) (T := TX3) (N := 7) (ci := 2) (As := [.int (nI (k)), .int (y)]) (rest := []) (c_X3_isNumber l hI (k := k) hk5 h4k (v := y)) (cwV 2 hts gX3_product_X3_isNumber rfl rfl rfl (by decide +kernel) ⟨Nat.le_of_ble_eq_true rfl, Nat.le_of_ble_eq_true rfl⟩) hx hb hml hown hts hK hP  (by decide) rfl rfl rfl hl.1 rfl (Nat.le_of_ble_eq_true rfl) (Nat.zero_le _) (Nat.zero_le _) dX3_product_19 ?_
      refine n_ifeq_b (tgt := 35) hx hb dX3_product_22 (by decide) (fun h_22 => ?_) (fun h_22 => ?_)
      · refine lv_iconst (v := (-1)) hx hb dX3_product_35 (by decide) ?_
        exact g_iret hx hb hrt hlocks dX3_product_36 (by unfold sC_product; (try dsimp only [rN_]); rw [rg_y (by omega) (by omega) (by omega), rg_y (by omega) (by omega) (by omega), rg_n h_22])
      · obtain ⟨Y, hY1, hY2, e9⟩ := rB_some (by omega) (by omega) h_22
        subst e9
        refine lv_aload_n hx hb dX3_product_25 rfl (lv_at hl 0 rfl) ?_
        refine lv_iload_n hx hb dX3_product_26 rfl (lv_at hl 1 rfl) ?_
        refine lv_iload_n hx hb dX3_product_27 rfl (lv_at hl 2 rfl) ?_
        refine lv_iload_n hx hb dX3_product_28 rfl (lv_at hl 3 rfl) ?_
        refine g_callV (25) (C := RX3) (T := TX3) (N := 7) (ci := 2) (As := [.int (nI (k)), .int (nI (X)), .int (nI (Y))]) (rest := []) (c_X3_times l hI (k := k) hk5 h4k (X := X) (Y := Y) (by omega) (by omega)) (cwV 3 hts gX3_product_X3_times rfl rfl rfl (by decide +kernel) ⟨Nat.le_of_ble_eq_true rfl, Nat.le_of_ble_eq_true rfl⟩) hx hb hml hown hts hK hP  (by decide) rfl rfl rfl hl.1 rfl (Nat.le_of_ble_eq_true rfl) (Nat.zero_le _) (Nat.zero_le _) dX3_product_29 ?_
        refine n_goto 36 hx hb dX3_product_32 (by decide) ?_
        exact g_iret hx hb hrt hlocks dX3_product_36 (by unfold sC_product; (try dsimp only [rN_]); rw [rg_y (by omega) (by omega) (by omega), rg_y (by omega) (by omega) (by omega), rg_y (by omega) (by omega) (by omega)])
set_option maxHeartbeats 4000000 in
set_option maxRecDepth 100000 in
theorem c_X3_divides (l : Launch) {D : va_G} {tys : List (ClassId × FieldType)} {ad : Nat → Nat} {cI cW cM : ClassId} {tI : Nat} {S : Nat → Nat → Nat} (hI : tys[tI]? = some (cI, .int)) (hRF : RF S) {a : Int32} : Met l yX3_divides wsX3_divides ({ frames := 2, cells := 0, slots := 0, locals := 49 } : Room) (va_Pc [.ref (ad (25)), .int (a)] (PB D tys 33 ad (gE cI cW cM ad S))) (k2_QcV (.int (sC_divides (rN_ S) (rC S) a))) 0 0 (fun _ => False) := by
  refine g_pure (cc := cX3_divides) (maxL := 2) (ret := (some .int)) (by decide) rfl (Nat.le_of_ble_eq_true rfl) ?_
  intro p e s m args below meth c hx hb hrt hts hown hlocks hml hP hK ls hl
  show W p l e ({ frames := 2, cells := 0, slots := 0, locals := 49 } : Room) s m args below meth c s.heap [] 0 0 _ _
  have hl : lv_has ls 2 [(0, .ref (ad (25))), (1, .int (a))] := hl
  refine lv_iload_n hx hb dX3_divides_0 rfl (lv_at hl 1 rfl) ?_
  refine g_callS (As := [.int (a)]) (rest := []) (c_X3_isSlot l hI (v := a)) (va_cwS 1 hts gX3_divides_X3_isSlot rfl rfl rfl (by decide +kernel) ⟨Nat.le_of_ble_eq_true rfl, Nat.le_of_ble_eq_true rfl⟩) hx hb hml hown hts hK hP  rfl hl.1 rfl (Nat.le_of_ble_eq_true rfl) (Nat.zero_le _) (Nat.zero_le _) dX3_divides_1 ?_
  refine n_ifne_b (tgt := 11) hx hb dX3_divides_4 (by decide) (fun h_4 => ?_) (fun h_4 => ?_)
  · obtain ⟨k, hk1, hk2, e9⟩ := rB_some (by omega) (by omega) h_4
    subst e9
    have hk5 : k < 5 := by omega
    have qk1 := (hRF.1 k (by omega)).1
    have h4k := qk1.2
    have hcbk := (hRF.1 k (by omega)).2
    have qk2 := pow4 h4k
    have qk3 : 0 < 2 ^ S 26 k := Nat.pow_pos (by decide)
    have qk4 := sq4 qk2
    refine lv_aload_n hx hb dX3_divides_11 rfl (lv_at hl 0 rfl) ?_
    refine lv_iload_n hx hb dX3_divides_12 rfl (lv_at hl 1 rfl) ?_
    refine g_callV (25) (C := RX3) (T := TX3) (N := 7) (ci := 2) (As := [.int (nI (k))]) (rest := []) (c_X3_firstBroken l hI (k := k) hk5 h4k hcbk) (cwV 1 hts gX3_divides_X3_firstBroken rfl rfl rfl (by decide +kernel) ⟨Nat.le_of_ble_eq_true rfl, Nat.le_of_ble_eq_true rfl⟩) hx hb hml hown hts hK hP  (by decide) rfl rfl rfl hl.1 rfl (Nat.le_of_ble_eq_true rfl) (Nat.zero_le _) (Nat.zero_le _) dX3_divides_13 ?_
    refine lv_bipush (v := (-9)) hx hb dX3_divides_16 (by decide) ?_
    refine n_cne_o (tgt := 25) hx hb dX3_divides_18 (by decide) (fun q hq => by have := fbO_b qk2 hq; omega) (fun h_18 => ?_) (fun h_18 => ?_)
    · refine n_iconst 0 hx hb dX3_divides_25 ?_
      exact g_iret hx hb hrt hlocks dX3_divides_26 (by unfold sC_divides; (try dsimp only [rN_]); rw [rg_y (by omega) (by omega) (by omega), show (lbr (S 26 k) (rC S k)).isNone = false from iN (fun z => h_18 (fbO_n.mpr z))]; rfl)
    · refine n_iconst 1 hx hb dX3_divides_21 ?_
      refine n_goto 26 hx hb dX3_divides_22 (by decide) ?_
      exact g_iret hx hb hrt hlocks dX3_divides_26 (by unfold sC_divides; (try dsimp only [rN_]); rw [rg_y (by omega) (by omega) (by omega), show (lbr (S 26 k) (rC S k)).isNone = true from isN_1 (fbO_n.mp h_18)]; rfl)
  · refine lv_iconst (v := (-1)) hx hb dX3_divides_7 (by decide) ?_
    refine n_goto 26 hx hb dX3_divides_8 (by decide) ?_
    exact g_iret hx hb hrt hlocks dX3_divides_26 (by unfold sC_divides; (try dsimp only [rN_]); rw [rg_n h_4])
set_option maxHeartbeats 4000000 in
set_option maxRecDepth 100000 in
theorem c_X3_broken (l : Launch) {D : va_G} {tys : List (ClassId × FieldType)} {ad : Nat → Nat} {cI cW cM : ClassId} {tI : Nat} {S : Nat → Nat → Nat} (hI : tys[tI]? = some (cI, .int)) (hRF : RF S) {a : Int32} {B : Bool} : Met l yX3_broken wsX3_broken ({ frames := 2, cells := 0, slots := 0, locals := 49 } : Room) (va_Pc [.ref (ad (25)), .int (a), .int (bI (B))] (PB D tys 33 ad (gE cI cW cM ad S))) (k2_QcV (.int (sC_broken (rN_ S) (rC S) a B))) 0 0 (fun _ => False) := by
  refine g_pure (cc := cX3_broken) (maxL := 4) (ret := (some .int)) (by decide) rfl (Nat.le_of_ble_eq_true rfl) ?_
  intro p e s m args below meth c hx hb hrt hts hown hlocks hml hP hK ls hl
  show W p l e ({ frames := 2, cells := 0, slots := 0, locals := 49 } : Room) s m args below meth c s.heap [] 0 0 _ _
  have hl : lv_has ls 4 [(0, .ref (ad (25))), (1, .int (a)), (2, .int (bI (B)))] := hl
  refine lv_iload_n hx hb dX3_broken_0 rfl (lv_at hl 1 rfl) ?_
  refine g_callS (As := [.int (a)]) (rest := []) (c_X3_isSlot l hI (v := a)) (va_cwS 1 hts gX3_broken_X3_isSlot rfl rfl rfl (by decide +kernel) ⟨Nat.le_of_ble_eq_true rfl, Nat.le_of_ble_eq_true rfl⟩) hx hb hml hown hts hK hP  rfl hl.1 rfl (Nat.le_of_ble_eq_true rfl) (Nat.zero_le _) (Nat.zero_le _) dX3_broken_1 ?_
  refine n_ifne_b (tgt := 9) hx hb dX3_broken_4 (by decide) (fun h_4 => ?_) (fun h_4 => ?_)
  · obtain ⟨k, hk1, hk2, e9⟩ := rB_some (by omega) (by omega) h_4
    subst e9
    have hk5 : k < 5 := by omega
    have qk1 := (hRF.1 k (by omega)).1
    have h4k := qk1.2
    have hcbk := (hRF.1 k (by omega)).2
    have qk2 := pow4 h4k
    have qk3 : 0 < 2 ^ S 26 k := Nat.pow_pos (by decide)
    have qk4 := sq4 qk2
    refine lv_aload_n hx hb dX3_broken_9 rfl (lv_at hl 0 rfl) ?_
    refine lv_iload_n hx hb dX3_broken_10 rfl (lv_at hl 1 rfl) ?_
    refine g_callV (25) (C := RX3) (T := TX3) (N := 7) (ci := 2) (As := [.int (nI (k))]) (rest := []) (c_X3_firstBroken l hI (k := k) hk5 h4k hcbk) (cwV 1 hts gX3_broken_X3_firstBroken rfl rfl rfl (by decide +kernel) ⟨Nat.le_of_ble_eq_true rfl, Nat.le_of_ble_eq_true rfl⟩) hx hb hml hown hts hK hP  (by decide) rfl rfl rfl hl.1 rfl (Nat.le_of_ble_eq_true rfl) (Nat.zero_le _) (Nat.zero_le _) dX3_broken_11 ?_
    refine lv_istore_n (lv' := [(3, .int (oI (fbO (S 26 k) (rC S k)))), (0, .ref (ad (25))), (1, .int (nI (k))), (2, .int (bI (B)))]) hx hb dX3_broken_14 rfl hl (by decide) rfl (fun ls hl => ?_)
    refine lv_iload_n hx hb dX3_broken_15 rfl (lv_at hl 0 rfl) ?_
    refine lv_bipush (v := (-9)) hx hb dX3_broken_16 (by decide) ?_
    refine n_cne_o (tgt := 26) hx hb dX3_broken_18 (by decide) (fun q hq => by have := fbO_b qk2 hq; omega) (fun h_18 => ?_) (fun h_18 => ?_)
    · obtain ⟨b, hb0⟩ : ∃ b, fbO (S 26 k) (rC S k) = some b := Option.ne_none_iff_exists'.mp h_18
      have hb1 := fbO_b qk2 hb0
      rw [hb0] at hl
      have hl : lv_has ls 4 [(3, .int (nI (b))), (0, .ref (ad (25))), (1, .int (nI (k))), (2, .int (bI (B)))] := hl
      refine lv_iload_n hx hb dX3_broken_26 rfl (lv_at hl 3 rfl) ?_
      refine n_ifeq_b (tgt := 37) hx hb dX3_broken_27 (by decide) (fun h_27 => ?_) (fun h_27 => ?_)
      · refine lv_iload_n hx hb dX3_broken_37 rfl (lv_at hl 0 rfl) ?_
        refine lv_bipush (v := nI 16) hx hb dX3_broken_38 (by decide) ?_
        refine n_idiv hx hb dX3_broken_40 (by omega) (by decide) (by decide) ?_
        exact g_iret hx hb hrt hlocks dX3_broken_41 (by unfold sC_broken; (try dsimp only [rN_]); rw [rg_y (by omega) (by omega) (by omega), show brS _ _ B = _ from brS_f h_27, hb1.2.1]; rfl)
      · refine lv_iload_n hx hb dX3_broken_30 rfl (lv_at hl 0 rfl) ?_
        refine lv_bipush (v := nI 16) hx hb dX3_broken_31 (by decide) ?_
        refine n_irem hx hb dX3_broken_33 (by omega) (by decide) (by decide) ?_
        refine n_goto 41 hx hb dX3_broken_34 (by decide) ?_
        exact g_iret hx hb hrt hlocks dX3_broken_41 (by unfold sC_broken; (try dsimp only [rN_]); rw [rg_y (by omega) (by omega) (by omega), show brS _ _ B = _ from brS_t h_27 hb1.2.1, hb1.2.2]; rfl)
    · refine lv_bipush (v := (-9)) hx hb dX3_broken_21 (by decide) ?_
      refine n_goto 41 hx hb dX3_broken_23 (by decide) ?_
      exact g_iret hx hb hrt hlocks dX3_broken_41 (by unfold sC_broken; (try dsimp only [rN_]); rw [rg_y (by omega) (by omega) (by omega), show brS _ _ B = none from brS_n (fbO_n.mp h_18)]; rfl)
  · refine lv_iconst (v := (-1)) hx hb dX3_broken_7 (by decide) ?_
    exact g_iret hx hb hrt hlocks dX3_broken_8 (by unfold sC_broken; (try dsimp only [rN_]); rw [rg_n h_4])
set_option maxHeartbeats 4000000 in
set_option maxRecDepth 100000 in
theorem c_X3_one (l : Launch) {D : va_G} {tys : List (ClassId × FieldType)} {ad : Nat → Nat} {cI cW cM : ClassId} {tI : Nat} {S : Nat → Nat → Nat} (hI : tys[tI]? = some (cI, .int)) (hRF : RF S) {a : Int32} : Met l yX3_one wsX3_one ({ frames := 2, cells := 0, slots := 0, locals := 42 } : Room) (va_Pc [.ref (ad (25)), .int (a)] (PB D tys 33 ad (gE cI cW cM ad S))) (k2_QcV (.int (sC_one (rN_ S) (rC S) a))) 0 0 (fun _ => False) := by
  refine g_pure (cc := cX3_one) (maxL := 5) (ret := (some .int)) (by decide) rfl (Nat.le_of_ble_eq_true rfl) ?_
  intro p e s m args below meth c hx hb hrt hts hown hlocks hml hP hK ls hl
  show W p l e ({ frames := 2, cells := 0, slots := 0, locals := 42 } : Room) s m args below meth c s.heap [] 0 0 _ _
  have hl : lv_has ls 5 [(0, .ref (ad (25))), (1, .int (a))] := hl
  refine lv_iload_n hx hb dX3_one_0 rfl (lv_at hl 1 rfl) ?_
  refine g_callS (As := [.int (a)]) (rest := []) (c_X3_isSlot l hI (v := a)) (va_cwS 1 hts gX3_one_X3_isSlot rfl rfl rfl (by decide +kernel) ⟨Nat.le_of_ble_eq_true rfl, Nat.le_of_ble_eq_true rfl⟩) hx hb hml hown hts hK hP  rfl hl.1 rfl (Nat.le_of_ble_eq_true rfl) (Nat.zero_le _) (Nat.zero_le _) dX3_one_1 ?_
  refine n_ifne_b (tgt := 9) hx hb dX3_one_4 (by decide) (fun h_4 => ?_) (fun h_4 => ?_)
  · obtain ⟨k, hk1, hk2, e9⟩ := rB_some (by omega) (by omega) h_4
    subst e9
    have hk5 : k < 5 := by omega
    have qk1 := (hRF.1 k (by omega)).1
    have h4k := qk1.2
    have hcbk := (hRF.1 k (by omega)).2
    have qk2 := pow4 h4k
    have qk3 : 0 < 2 ^ S 26 k := Nat.pow_pos (by decide)
    have qk4 := sq4 qk2
    refine n_iconst 0 hx hb dX3_one_9 ?_
    refine lv_istore_n (lv' := [(2, .int (nI (0))), (0, .ref (ad (25))), (1, .int (nI (k)))]) hx hb dX3_one_10 rfl hl (by decide) rfl (fun ls hl => ?_)
    have L_11 : ∀ (r : Nat) (e0 : Nat), (e0 ≤ 2 ^ S 26 k) → (2 ^ S 26 k < e0 + r) → (∀ j, 0 ≤ j → j < e0 → isU (S 26 k) (rC S k) j = false) → ∀ (ls : Array Slot), lv_has ls 5 [(0, .ref (ad (25))), (1, .int (nI (k))), (2, .int (nI (e0)))] → W p l e ({ frames := 2, cells := 0, slots := 0, locals := 42 } : Room) s m args below meth c s.heap [] 0 0 (MQ below (k2_QcV (.int (sC_one (rN_ S) (rC S) ((nI k))))) args s 0 0 (fun _ => False)) (F0 m 11 ls []) := by
      intro r
      induction r with
      | zero => intro e0 hy hr hno; intros; exact absurd hr (by omega)
      | succ r ih =>
        intro e0 hy hr hno ls hl
        have ih_11 := ih
        refine lv_iload_n hx hb dX3_one_11 rfl (lv_at hl 2 rfl) ?_
        refine lv_aload_n hx hb dX3_one_12 rfl (lv_at hl 0 rfl) ?_
        refine lv_iload_n hx hb dX3_one_13 rfl (lv_at hl 1 rfl) ?_
        refine g_callV (25) (C := RX3) (T := TX3) (N := 7) (ci := 2) (As := [.int (nI (k))]) (rest := [.int (nI (e0))]) (c_X3_numbers l hI (k := k) hk5 h4k) (cwV 1 hts gX3_one_X3_numbers rfl rfl rfl (by decide +kernel) ⟨Nat.le_of_ble_eq_true rfl, Nat.le_of_ble_eq_true rfl⟩) hx hb hml hown hts hK hP  (by decide) rfl rfl rfl hl.1 rfl (Nat.le_of_ble_eq_true rfl) (Nat.zero_le _) (Nat.zero_le _) dX3_one_14 ?_
        refine n_ge (tgt := 89) hx hb dX3_one_17 (by decide) (by omega) (by omega) (fun h_17 => ?_) (fun h_17 => ?_)
        · refine lv_bipush (v := (-9)) hx hb dX3_one_89 (by decide) ?_
          exact g_iret hx hb hrt hlocks dX3_one_91 (by unfold sC_one; (try dsimp only [rN_]); rw [rg_y (by omega) (by omega) (by omega), show unt (S 26 k) (rC S k) = none from fl_no (fun j h1 h2 => hno j h1 (by omega))]; rfl)
        · refine n_iconst 1 hx hb dX3_one_20 ?_
          refine n_eq (show nI 1 = bI true from rfl) ?_
          refine lv_istore_n (lv' := [(3, .int (bI (true))), (0, .ref (ad (25))), (1, .int (nI (k))), (2, .int (nI (e0)))]) hx hb dX3_one_21 rfl hl (by decide) rfl (fun ls hl => ?_)
          refine n_iconst 0 hx hb dX3_one_22 ?_
          refine lv_istore (lv' := [(4, .int (nI (0))), (3, .int (bI (true))), (0, .ref (ad (25))), (1, .int (nI (k))), (2, .int (nI (e0)))]) hx hb dX3_one_23 hl (by decide) rfl (fun ls hl => ?_)
          have L_25 : ∀ (r : Nat) (is2 : Bool) (y : Nat), (y ≤ 2 ^ S 26 k) → (2 ^ S 26 k < y + r) → (is2 = al (fun j => (tm (S 26 k) (rC S k) e0 j == j) && (tm (S 26 k) (rC S k) j e0 == j)) y) → ∀ (ls : Array Slot), lv_has ls 5 [(0, .ref (ad (25))), (1, .int (nI (k))), (2, .int (nI (e0))), (3, .int (bI (is2))), (4, .int (nI (y)))] → W p l e ({ frames := 2, cells := 0, slots := 0, locals := 42 } : Room) s m args below meth c s.heap [] 0 0 (MQ below (k2_QcV (.int (sC_one (rN_ S) (rC S) ((nI k))))) args s 0 0 (fun _ => False)) (F0 m 25 ls []) := by
            intro r
            induction r with
            | zero => intro is2 y hy2 hr2 ha2; intros; exact absurd hr2 (by omega)
            | succ r ih =>
              intro is2 y hy2 hr2 ha2 ls hl
              have ih_25 := ih
              refine lv_iload hx hb dX3_one_25 (lv_at hl 4 rfl) ?_
              refine lv_aload_n hx hb dX3_one_27 rfl (lv_at hl 0 rfl) ?_
              refine lv_iload_n hx hb dX3_one_28 rfl (lv_at hl 1 rfl) ?_
              refine g_callV (25) (C := RX3) (T := TX3) (N := 7) (ci := 2) (As := [.int (nI (k))]) (rest := [.int (nI (y))]) (c_X3_numbers l hI (k := k) hk5 h4k) (cwV 1 hts gX3_one_X3_numbers rfl rfl rfl (by decide +kernel) ⟨Nat.le_of_ble_eq_true rfl, Nat.le_of_ble_eq_true rfl⟩) hx hb hml hown hts hK hP  (by decide) rfl rfl rfl hl.1 rfl (Nat.le_of_ble_eq_true rfl) (Nat.zero_le _) (Nat.zero_le _) dX3_one_29 ?_
              refine n_ge (tgt := 77) hx hb dX3_one_32 (by decide) (by omega) (by omega) (fun h_32 => ?_) (fun h_32 => ?_)
              · refine lv_iload_n hx hb dX3_one_77 rfl (lv_at hl 3 rfl) ?_
                refine n_ifeq_b (tgt := 83) hx hb dX3_one_78 (by decide) (fun h_78 => ?_) (fun h_78 => ?_)
                · refine n_iinc 2 1 (lv' := [(2, .int (nI (e0 + 1))), (0, .ref (ad (25))), (1, .int (nI (k))), (3, .int (bI (is2))), (4, .int (nI (y)))]) hx hb dX3_one_83 hl rfl (by decide) rfl (fun ls hl => ?_)
                  refine n_goto 11 hx hb dX3_one_86 (by decide) ?_
                  exact ih_11 (e0 + 1) (by omega) (by omega) (no_s hno (al_pre hy2 (ha2.symm.trans h_78))) _ (lv_sub hl [1, 2, 0] rfl)
                · refine lv_iload_n hx hb dX3_one_81 rfl (lv_at hl 2 rfl) ?_
                  exact g_iret hx hb hrt hlocks dX3_one_82 (by unfold sC_one; (try dsimp only [rN_]); rw [rg_y (by omega) (by omega) (by omega), show unt (S 26 k) (rC S k) = some e0 from fl_at (Nat.zero_le _) (by omega) (by rw [h_78, show y = 2 ^ S 26 k by omega] at ha2; exact ha2.symm) hno]; rfl)
              · refine lv_iload_n hx hb dX3_one_35 rfl (lv_at hl 3 rfl) ?_
                refine n_ifeq_b (tgt := 77) hx hb dX3_one_36 (by decide) (fun h_36 => ?_) (fun h_36 => ?_)
                · refine lv_iload_n hx hb dX3_one_77 rfl (lv_at hl 3 rfl) ?_
                  refine n_ifeq_b (tgt := 83) hx hb dX3_one_78 (by decide) (fun h_78 => ?_) (fun h_78 => ?_)
                  · refine n_iinc 2 1 (lv' := [(2, .int (nI (e0 + 1))), (0, .ref (ad (25))), (1, .int (nI (k))), (3, .int (bI (is2))), (4, .int (nI (y)))]) hx hb dX3_one_83 hl rfl (by decide) rfl (fun ls hl => ?_)
                    refine n_goto 11 hx hb dX3_one_86 (by decide) ?_
                    exact ih_11 (e0 + 1) (by omega) (by omega) (no_s hno (al_pre hy2 (ha2.symm.trans h_78))) _ (lv_sub hl [1, 2, 0] rfl)
                  · exact absurd (h_36.symm.trans h_78) (by decide)
                · refine lv_aload_n hx hb dX3_one_39 rfl (lv_at hl 0 rfl) ?_
                  refine lv_iload_n hx hb dX3_one_40 rfl (lv_at hl 1 rfl) ?_
                  refine lv_iload_n hx hb dX3_one_41 rfl (lv_at hl 2 rfl) ?_
                  refine lv_iload hx hb dX3_one_42 (lv_at hl 4 rfl) ?_
                  refine g_callV (25) (C := RX3) (T := TX3) (N := 7) (ci := 2) (As := [.int (nI (k)), .int (nI (e0)), .int (nI (y))]) (rest := []) (c_X3_times l hI (k := k) hk5 h4k (X := e0) (Y := y) (by omega) (by omega)) (cwV 3 hts gX3_one_X3_times rfl rfl rfl (by decide +kernel) ⟨Nat.le_of_ble_eq_true rfl, Nat.le_of_ble_eq_true rfl⟩) hx hb hml hown hts hK hP  (by decide) rfl rfl rfl hl.1 rfl (Nat.le_of_ble_eq_true rfl) (Nat.zero_le _) (Nat.zero_le _) dX3_one_44 ?_
                  refine lv_iload hx hb dX3_one_47 (lv_at hl 4 rfl) ?_
                  have hm9 := tm_lt hcbk e0 y
                  refine n_cne (tgt := 69) hx hb dX3_one_49 (by decide) (by omega) (by omega) (fun h_49 => ?_) (fun h_49 => ?_)
                  · refine n_iconst 0 hx hb dX3_one_69 ?_
                    refine n_eq (show nI 0 = bI false from rfl) ?_
                    refine lv_istore_n (lv' := [(3, .int (bI (false))), (0, .ref (ad (25))), (1, .int (nI (k))), (2, .int (nI (e0))), (4, .int (nI (y)))]) hx hb dX3_one_70 rfl hl (by decide) rfl (fun ls hl => ?_)
                    refine n_iinc 4 1 (lv' := [(4, .int (nI (y + 1))), (3, .int (bI (false))), (0, .ref (ad (25))), (1, .int (nI (k))), (2, .int (nI (e0)))]) hx hb dX3_one_71 hl rfl (by decide) rfl (fun ls hl => ?_)
                    refine n_goto 25 hx hb dX3_one_74 (by decide) ?_
                    exact ih_25 (false) (y + 1) (by omega) (by omega) (fl_in (p := (fun j => (tm (S 26 k) (rC S k) e0 j == j) && (tm (S 26 k) (rC S k) j e0 == j))) ha2 h_36 (by rw [bF h_49]; rfl)) _ (lv_sub hl [2, 3, 4, 1, 0] rfl)
                  · refine lv_aload_n hx hb dX3_one_52 rfl (lv_at hl 0 rfl) ?_
                    refine lv_iload_n hx hb dX3_one_53 rfl (lv_at hl 1 rfl) ?_
                    refine lv_iload hx hb dX3_one_54 (lv_at hl 4 rfl) ?_
                    refine lv_iload_n hx hb dX3_one_56 rfl (lv_at hl 2 rfl) ?_
                    refine g_callV (25) (C := RX3) (T := TX3) (N := 7) (ci := 2) (As := [.int (nI (k)), .int (nI (y)), .int (nI (e0))]) (rest := []) (c_X3_times l hI (k := k) hk5 h4k (X := y) (Y := e0) (by omega) (by omega)) (cwV 3 hts gX3_one_X3_times rfl rfl rfl (by decide +kernel) ⟨Nat.le_of_ble_eq_true rfl, Nat.le_of_ble_eq_true rfl⟩) hx hb hml hown hts hK hP  (by decide) rfl rfl rfl hl.1 rfl (Nat.le_of_ble_eq_true rfl) (Nat.zero_le _) (Nat.zero_le _) dX3_one_57 ?_
                    refine lv_iload hx hb dX3_one_60 (lv_at hl 4 rfl) ?_
                    have hm9 := tm_lt hcbk y e0
                    refine n_cne (tgt := 69) hx hb dX3_one_62 (by decide) (by omega) (by omega) (fun h_62 => ?_) (fun h_62 => ?_)
                    · refine n_iconst 0 hx hb dX3_one_69 ?_
                      refine n_eq (show nI 0 = bI false from rfl) ?_
                      refine lv_istore_n (lv' := [(3, .int (bI (false))), (0, .ref (ad (25))), (1, .int (nI (k))), (2, .int (nI (e0))), (4, .int (nI (y)))]) hx hb dX3_one_70 rfl hl (by decide) rfl (fun ls hl => ?_)
                      refine n_iinc 4 1 (lv' := [(4, .int (nI (y + 1))), (3, .int (bI (false))), (0, .ref (ad (25))), (1, .int (nI (k))), (2, .int (nI (e0)))]) hx hb dX3_one_71 hl rfl (by decide) rfl (fun ls hl => ?_)
                      refine n_goto 25 hx hb dX3_one_74 (by decide) ?_
                      exact ih_25 (false) (y + 1) (by omega) (by omega) (fl_in (p := (fun j => (tm (S 26 k) (rC S k) e0 j == j) && (tm (S 26 k) (rC S k) j e0 == j))) ha2 h_36 (by rw [bF h_62, Bool.and_false])) _ (lv_sub hl [2, 3, 4, 1, 0] rfl)
                    · refine n_iconst 1 hx hb dX3_one_65 ?_
                      refine n_goto 70 hx hb dX3_one_66 (by decide) ?_
                      refine n_eq (show nI 1 = bI true from rfl) ?_
                      refine lv_istore_n (lv' := [(3, .int (bI (true))), (0, .ref (ad (25))), (1, .int (nI (k))), (2, .int (nI (e0))), (4, .int (nI (y)))]) hx hb dX3_one_70 rfl hl (by decide) rfl (fun ls hl => ?_)
                      refine n_iinc 4 1 (lv' := [(4, .int (nI (y + 1))), (3, .int (bI (true))), (0, .ref (ad (25))), (1, .int (nI (k))), (2, .int (nI (e0)))]) hx hb dX3_one_71 hl rfl (by decide) rfl (fun ls hl => ?_)
                      refine n_goto 25 hx hb dX3_one_74 (by decide) ?_
                      exact ih_25 (true) (y + 1) (by omega) (by omega) (fl_in (p := (fun j => (tm (S 26 k) (rC S k) e0 j == j) && (tm (S 26 k) (rC S k) j e0 == j))) ha2 h_36 (by rw [bT h_49, bT h_62]; rfl)) _ (lv_sub hl [2, 3, 4, 1, 0] rfl)
          exact L_25 (2 ^ S 26 k + 1) (true) (0) (Nat.zero_le _) (by omega) rfl _ (lv_sub hl [2, 3, 4, 1, 0] rfl)
    exact L_11 (2 ^ S 26 k + 1) (0) (Nat.zero_le _) (by omega) (fun j h1 h2 => absurd h2 (by omega)) _ (lv_sub hl [1, 2, 0] rfl)
  · refine lv_iconst (v := (-1)) hx hb dX3_one_7 (by decide) ?_
    exact g_iret hx hb hrt hlocks dX3_one_8 (by unfold sC_one; (try dsimp only [rN_]); rw [rg_n h_4])
set_option maxHeartbeats 4000000 in
set_option maxRecDepth 100000 in
theorem c_X3_quotient (l : Launch) {D : va_G} {tys : List (ClassId × FieldType)} {ad : Nat → Nat} {cI cW cM : ClassId} {tI : Nat} {S : Nat → Nat → Nat} (hI : tys[tI]? = some (cI, .int)) (hRF : RF S) {a x z : Int32} {L : Bool} : Met l yX3_quotient wsX3_quotient ({ frames := 2, cells := 0, slots := 0, locals := 44 } : Room) (va_Pc [.ref (ad (25)), .int (a), .int (x), .int (z), .int (bI (L))] (PB D tys 33 ad (gE cI cW cM ad S))) (k2_QcV (.int (sC_quotient (rN_ S) (rC S) a x z L))) 0 0 (fun _ => False) := by
  refine g_pure (cc := cX3_quotient) (maxL := 8) (ret := (some .int)) (by decide) rfl (Nat.le_of_ble_eq_true rfl) ?_
  intro p e s m args below meth c hx hb hrt hts hown hlocks hml hP hK ls hl
  show W p l e ({ frames := 2, cells := 0, slots := 0, locals := 44 } : Room) s m args below meth c s.heap [] 0 0 _ _
  have hl : lv_has ls 8 [(0, .ref (ad (25))), (1, .int (a)), (2, .int (x)), (3, .int (z)), (4, .int (bI (L)))] := hl
  refine lv_iload_n hx hb dX3_quotient_0 rfl (lv_at hl 1 rfl) ?_
  refine g_callS (As := [.int (a)]) (rest := []) (c_X3_isSlot l hI (v := a)) (va_cwS 1 hts gX3_quotient_X3_isSlot rfl rfl rfl (by decide +kernel) ⟨Nat.le_of_ble_eq_true rfl, Nat.le_of_ble_eq_true rfl⟩) hx hb hml hown hts hK hP  rfl hl.1 rfl (Nat.le_of_ble_eq_true rfl) (Nat.zero_le _) (Nat.zero_le _) dX3_quotient_1 ?_
  refine n_ifeq_b (tgt := 25) hx hb dX3_quotient_4 (by decide) (fun h_4 => ?_) (fun h_4 => ?_)
  · refine lv_iconst (v := (-1)) hx hb dX3_quotient_25 (by decide) ?_
    exact g_iret hx hb hrt hlocks dX3_quotient_26 (by unfold sC_quotient; (try dsimp only [rN_]); rw [rg_n h_4])
  · obtain ⟨k, hk1, hk2, e9⟩ := rB_some (by omega) (by omega) h_4
    subst e9
    have hk5 : k < 5 := by omega
    have qk1 := (hRF.1 k (by omega)).1
    have h4k := qk1.2
    have hcbk := (hRF.1 k (by omega)).2
    have qk2 := pow4 h4k
    have qk3 : 0 < 2 ^ S 26 k := Nat.pow_pos (by decide)
    have qk4 := sq4 qk2
    refine lv_aload_n hx hb dX3_quotient_7 rfl (lv_at hl 0 rfl) ?_
    refine lv_iload_n hx hb dX3_quotient_8 rfl (lv_at hl 1 rfl) ?_
    refine lv_iload_n hx hb dX3_quotient_9 rfl (lv_at hl 2 rfl) ?_
    refine g_callV (25) (C := RX3) (T := TX3) (N := 7) (ci := 2) (As := [.int (nI (k)), .int (x)]) (rest := []) (c_X3_isNumber l hI (k := k) hk5 h4k (v := x)) (cwV 2 hts gX3_quotient_X3_isNumber rfl rfl rfl (by decide +kernel) ⟨Nat.le_of_ble_eq_true rfl, Nat.le_of_ble_eq_true rfl⟩) hx hb hml hown hts hK hP  (by decide) rfl rfl rfl hl.1 rfl (Nat.le_of_ble_eq_true rfl) (Nat.zero_le _) (Nat.zero_le _) dX3_quotient_10 ?_
    refine n_ifeq_b (tgt := 25) hx hb dX3_quotient_13 (by decide) (fun h_13 => ?_) (fun h_13 => ?_)
    · refine lv_iconst (v := (-1)) hx hb dX3_quotient_25 (by decide) ?_
      exact g_iret hx hb hrt hlocks dX3_quotient_26 (by unfold sC_quotient; (try dsimp only [rN_]); rw [rg_y (by omega) (by omega) (by omega), rg_n h_13])
    · obtain ⟨X, hX1, hX2, e9⟩ := rB_some (by omega) (by omega) h_13
      subst e9
      refine lv_aload_n hx hb dX3_quotient_16 rfl (lv_at hl 0 rfl) ?_
      refine lv_iload_n hx hb dX3_quotient_17 rfl (lv_at hl 1 rfl) ?_
      refine lv_iload_n hx hb dX3_quotient_18 rfl (lv_at hl 3 rfl) ?_
      refine g_callV (25) (C := RX3) (T := TX3) (N := 7) (ci := 2) (As := [.int (nI (k)), .int (z)]) (rest := []) (c_X3_isNumber l hI (k := k) hk5 h4k (v := z)) (cwV 2 hts gX3_quotient_X3_isNumber rfl rfl rfl (by decide +kernel) ⟨Nat.le_of_ble_eq_true rfl, Nat.le_of_ble_eq_true rfl⟩) hx hb hml hown hts hK hP  (by decide) rfl rfl rfl hl.1 rfl (Nat.le_of_ble_eq_true rfl) (Nat.zero_le _) (Nat.zero_le _) dX3_quotient_19 ?_
      refine n_ifne_b (tgt := 27) hx hb dX3_quotient_22 (by decide) (fun h_22 => ?_) (fun h_22 => ?_)
      · obtain ⟨Z, hZ1, hZ2, e9⟩ := rB_some (by omega) (by omega) h_22
        subst e9
        refine lv_bipush (v := (-9)) hx hb dX3_quotient_27 (by decide) ?_
        refine lv_istore (lv' := [(5, .int ((-9))), (0, .ref (ad (25))), (1, .int (nI (k))), (2, .int (nI (X))), (3, .int (nI (Z))), (4, .int (bI (L)))]) hx hb dX3_quotient_29 hl (by decide) rfl (fun ls hl => ?_)
        refine n_iconst 0 hx hb dX3_quotient_31 ?_
        refine lv_istore (lv' := [(6, .int (nI (0))), (5, .int ((-9))), (0, .ref (ad (25))), (1, .int (nI (k))), (2, .int (nI (X))), (3, .int (nI (Z))), (4, .int (bI (L)))]) hx hb dX3_quotient_32 hl (by decide) rfl (fun ls hl => ?_)
        refine n_iconst 0 hx hb dX3_quotient_34 ?_
        refine lv_istore (lv' := [(7, .int (nI (0))), (6, .int (nI (0))), (5, .int ((-9))), (0, .ref (ad (25))), (1, .int (nI (k))), (2, .int (nI (X))), (3, .int (nI (Z))), (4, .int (bI (L)))]) hx hb dX3_quotient_35 hl (by decide) rfl (fun ls hl => ?_)
        have L_37 : ∀ (r : Nat) (fo : Option Nat) (mc : Nat) (y : Nat), (y ≤ 2 ^ S 26 k) → (2 ^ S 26 k < y + r) → (fo = la (slp (S 26 k) (rC S k) X Z L) y) → (mc = cnt (slp (S 26 k) (rC S k) X Z L) y) → ∀ (ls : Array Slot), lv_has ls 8 [(0, .ref (ad (25))), (1, .int (nI (k))), (2, .int (nI (X))), (3, .int (nI (Z))), (4, .int (bI (L))), (5, .int (oI (fo))), (6, .int (nI (mc))), (7, .int (nI (y)))] → W p l e ({ frames := 2, cells := 0, slots := 0, locals := 44 } : Room) s m args below meth c s.heap [] 0 0 (MQ below (k2_QcV (.int (sC_quotient (rN_ S) (rC S) ((nI k)) ((nI X)) ((nI Z)) L))) args s 0 0 (fun _ => False)) (F0 m 37 ls []) := by
          intro r
          induction r with
          | zero => intro fo mc y hy hr hf hc; intros; exact absurd hr (by omega)
          | succ r ih =>
            intro fo mc y hy hr hf hc ls hl
            have ih_37 := ih
            refine lv_iload hx hb dX3_quotient_37 (lv_at hl 7 rfl) ?_
            refine lv_aload_n hx hb dX3_quotient_39 rfl (lv_at hl 0 rfl) ?_
            refine lv_iload_n hx hb dX3_quotient_40 rfl (lv_at hl 1 rfl) ?_
            refine g_callV (25) (C := RX3) (T := TX3) (N := 7) (ci := 2) (As := [.int (nI (k))]) (rest := [.int (nI (y))]) (c_X3_numbers l hI (k := k) hk5 h4k) (cwV 1 hts gX3_quotient_X3_numbers rfl rfl rfl (by decide +kernel) ⟨Nat.le_of_ble_eq_true rfl, Nat.le_of_ble_eq_true rfl⟩) hx hb hml hown hts hK hP  (by decide) rfl rfl rfl hl.1 rfl (Nat.le_of_ble_eq_true rfl) (Nat.zero_le _) (Nat.zero_le _) dX3_quotient_41 ?_
            refine n_ge (tgt := 88) hx hb dX3_quotient_44 (by decide) (by omega) (by omega) (fun h_44 => ?_) (fun h_44 => ?_)
            · refine lv_iload hx hb dX3_quotient_88 (lv_at hl 6 rfl) ?_
              refine n_iconst 1 hx hb dX3_quotient_90 ?_
              refine n_cne (tgt := 99) hx hb dX3_quotient_91 (by decide) (by rw [hc]; have := cnt_le (slp (S 26 k) (rC S k) X Z L) y; omega) (by decide) (fun h_91 => ?_) (fun h_91 => ?_)
              · refine lv_bipush (v := (-9)) hx hb dX3_quotient_99 (by decide) ?_
                exact g_iret hx hb hrt hlocks dX3_quotient_101 (by unfold sC_quotient; (try dsimp only [rN_]); rw [rg_y (by omega) (by omega) (by omega), rg_y (by omega) (by omega) (by omega), rg_y (by omega) (by omega) (by omega)]; unfold slv; rw [uq_la, ← show y = 2 ^ S 26 k by omega, ← hc, ← hf, if_neg h_91]; try rfl)
              · refine lv_iload hx hb dX3_quotient_94 (lv_at hl 5 rfl) ?_
                refine n_goto 101 hx hb dX3_quotient_96 (by decide) ?_
                exact g_iret hx hb hrt hlocks dX3_quotient_101 (by unfold sC_quotient; (try dsimp only [rN_]); rw [rg_y (by omega) (by omega) (by omega), rg_y (by omega) (by omega) (by omega), rg_y (by omega) (by omega) (by omega)]; unfold slv; rw [uq_la, ← show y = 2 ^ S 26 k by omega, ← hc, ← hf, if_pos h_91]; try rfl)
            · refine lv_iload hx hb dX3_quotient_47 (lv_at hl 4 rfl) ?_
              refine n_ifeq_b (tgt := 63) hx hb dX3_quotient_49 (by decide) (fun h_49 => ?_) (fun h_49 => ?_)
              · refine lv_aload_n hx hb dX3_quotient_63 rfl (lv_at hl 0 rfl) ?_
                refine lv_iload_n hx hb dX3_quotient_64 rfl (lv_at hl 1 rfl) ?_
                refine lv_iload hx hb dX3_quotient_65 (lv_at hl 7 rfl) ?_
                refine lv_iload_n hx hb dX3_quotient_67 rfl (lv_at hl 2 rfl) ?_
                refine g_callV (25) (C := RX3) (T := TX3) (N := 7) (ci := 2) (As := [.int (nI (k)), .int (nI (y)), .int (nI (X))]) (rest := []) (c_X3_times l hI (k := k) hk5 h4k (X := y) (Y := X) (by omega) (by omega)) (cwV 3 hts gX3_quotient_X3_times rfl rfl rfl (by decide +kernel) ⟨Nat.le_of_ble_eq_true rfl, Nat.le_of_ble_eq_true rfl⟩) hx hb hml hown hts hK hP  (by decide) rfl rfl rfl hl.1 rfl (Nat.le_of_ble_eq_true rfl) (Nat.zero_le _) (Nat.zero_le _) dX3_quotient_68 ?_
                have hm9 := tm_lt hcbk y X
                refine lv_iload_n hx hb dX3_quotient_71 rfl (lv_at hl 3 rfl) ?_
                refine n_cne (tgt := 82) hx hb dX3_quotient_72 (by decide) (by omega) (by omega) (fun h_72 => ?_) (fun h_72 => ?_)
                · refine n_iinc 7 1 (lv' := [(7, .int (nI (y + 1))), (0, .ref (ad (25))), (1, .int (nI (k))), (2, .int (nI (X))), (3, .int (nI (Z))), (4, .int (bI (L))), (5, .int (oI (fo))), (6, .int (nI (mc)))]) hx hb dX3_quotient_82 hl rfl (by decide) rfl (fun ls hl => ?_)
                  refine n_goto 37 hx hb dX3_quotient_85 (by decide) ?_
                  exact ih_37 (fo) (mc) (y + 1) (by omega) (by omega) (by rw [hf, la_n (slp_fn h_49 h_72)]) (by rw [hc, cnt_n (slp_fn h_49 h_72)]) _ (lv_sub hl [1, 2, 3, 4, 5, 6, 7, 0] rfl)
                · refine lv_iload hx hb dX3_quotient_75 (lv_at hl 7 rfl) ?_
                  refine n_eq (show nI y = oI (some y) from rfl) ?_
                  refine lv_istore (lv' := [(5, .int (oI (some y))), (0, .ref (ad (25))), (1, .int (nI (k))), (2, .int (nI (X))), (3, .int (nI (Z))), (4, .int (bI (L))), (6, .int (nI (mc))), (7, .int (nI (y)))]) hx hb dX3_quotient_77 hl (by decide) rfl (fun ls hl => ?_)
                  refine n_iinc 6 1 (lv' := [(6, .int (nI (mc + 1))), (5, .int (oI (some y))), (0, .ref (ad (25))), (1, .int (nI (k))), (2, .int (nI (X))), (3, .int (nI (Z))), (4, .int (bI (L))), (7, .int (nI (y)))]) hx hb dX3_quotient_79 hl rfl (by decide) rfl (fun ls hl => ?_)
                  refine n_iinc 7 1 (lv' := [(7, .int (nI (y + 1))), (6, .int (nI (mc + 1))), (5, .int (oI (some y))), (0, .ref (ad (25))), (1, .int (nI (k))), (2, .int (nI (X))), (3, .int (nI (Z))), (4, .int (bI (L)))]) hx hb dX3_quotient_82 hl rfl (by decide) rfl (fun ls hl => ?_)
                  refine n_goto 37 hx hb dX3_quotient_85 (by decide) ?_
                  exact ih_37 (some y) (mc + 1) (y + 1) (by omega) (by omega) (la_y (slp_f h_49 h_72)).symm (by rw [hc, cnt_y (slp_f h_49 h_72)]) _ (lv_sub hl [3, 4, 5, 6, 7, 2, 1, 0] rfl)
              · refine lv_aload_n hx hb dX3_quotient_52 rfl (lv_at hl 0 rfl) ?_
                refine lv_iload_n hx hb dX3_quotient_53 rfl (lv_at hl 1 rfl) ?_
                refine lv_iload_n hx hb dX3_quotient_54 rfl (lv_at hl 2 rfl) ?_
                refine lv_iload hx hb dX3_quotient_55 (lv_at hl 7 rfl) ?_
                refine g_callV (25) (C := RX3) (T := TX3) (N := 7) (ci := 2) (As := [.int (nI (k)), .int (nI (X)), .int (nI (y))]) (rest := []) (c_X3_times l hI (k := k) hk5 h4k (X := X) (Y := y) (by omega) (by omega)) (cwV 3 hts gX3_quotient_X3_times rfl rfl rfl (by decide +kernel) ⟨Nat.le_of_ble_eq_true rfl, Nat.le_of_ble_eq_true rfl⟩) hx hb hml hown hts hK hP  (by decide) rfl rfl rfl hl.1 rfl (Nat.le_of_ble_eq_true rfl) (Nat.zero_le _) (Nat.zero_le _) dX3_quotient_57 ?_
                refine n_goto 71 hx hb dX3_quotient_60 (by decide) ?_
                have hm9 := tm_lt hcbk X y
                refine lv_iload_n hx hb dX3_quotient_71 rfl (lv_at hl 3 rfl) ?_
                refine n_cne (tgt := 82) hx hb dX3_quotient_72 (by decide) (by omega) (by omega) (fun h_72 => ?_) (fun h_72 => ?_)
                · refine n_iinc 7 1 (lv' := [(7, .int (nI (y + 1))), (0, .ref (ad (25))), (1, .int (nI (k))), (2, .int (nI (X))), (3, .int (nI (Z))), (4, .int (bI (L))), (5, .int (oI (fo))), (6, .int (nI (mc)))]) hx hb dX3_quotient_82 hl rfl (by decide) rfl (fun ls hl => ?_)
                  refine n_goto 37 hx hb dX3_quotient_85 (by decide) ?_
                  exact ih_37 (fo) (mc) (y + 1) (by omega) (by omega) (by rw [hf, la_n (slp_tn h_49 h_72)]) (by rw [hc, cnt_n (slp_tn h_49 h_72)]) _ (lv_sub hl [1, 2, 3, 4, 5, 6, 7, 0] rfl)
                · refine lv_iload hx hb dX3_quotient_75 (lv_at hl 7 rfl) ?_
                  refine n_eq (show nI y = oI (some y) from rfl) ?_
                  refine lv_istore (lv' := [(5, .int (oI (some y))), (0, .ref (ad (25))), (1, .int (nI (k))), (2, .int (nI (X))), (3, .int (nI (Z))), (4, .int (bI (L))), (6, .int (nI (mc))), (7, .int (nI (y)))]) hx hb dX3_quotient_77 hl (by decide) rfl (fun ls hl => ?_)
                  refine n_iinc 6 1 (lv' := [(6, .int (nI (mc + 1))), (5, .int (oI (some y))), (0, .ref (ad (25))), (1, .int (nI (k))), (2, .int (nI (X))), (3, .int (nI (Z))), (4, .int (bI (L))), (7, .int (nI (y)))]) hx hb dX3_quotient_79 hl rfl (by decide) rfl (fun ls hl => ?_)
                  refine n_iinc 7 1 (lv' := [(7, .int (nI (y + 1))), (6, .int (nI (mc + 1))), (5, .int (oI (some y))), (0, .ref (ad (25))), (1, .int (nI (k))), (2, .int (nI (X))), (3, .int (nI (Z))), (4, .int (bI (L)))]) hx hb dX3_quotient_82 hl rfl (by decide) rfl (fun ls hl => ?_)
                  refine n_goto 37 hx hb dX3_quotient_85 (by decide) ?_
                  exact ih_37 (some y) (mc + 1) (y + 1) (by omega) (by omega) (la_y (slp_t h_49 h_72)).symm (by rw [hc, cnt_y (slp_t h_49 h_72)]) _ (lv_sub hl [3, 4, 5, 6, 7, 2, 1, 0] rfl)
        exact L_37 (2 ^ S 26 k + 1) (none) (0) (0) (Nat.zero_le _) (by omega) rfl rfl _ (lv_sub hl [3, 4, 5, 6, 7, 2, 1, 0] rfl)
      · refine lv_iconst (v := (-1)) hx hb dX3_quotient_25 (by decide) ?_
        exact g_iret hx hb hrt hlocks dX3_quotient_26 (by unfold sC_quotient; (try dsimp only [rN_]); rw [rg_y (by omega) (by omega) (by omega), rg_y (by omega) (by omega) (by omega), rg_n h_22])
