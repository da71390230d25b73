/-! CubeWorldsModel: the ways -/
def r3V (d q : Nat) : Nat := (d >>> (3 * q)) &&& 7
theorem r3V_lt (d q : Nat) : r3V d q < 2 ^ 3 := Nat.lt_of_le_of_lt Nat.and_le_right (by decide)
theorem im8 (d x : Nat) : im (r3V d) x < 2 ^ 3 := xs_lt (fun i _ => by
  show (if _ then _ else _) < _
  split
  · exact r3V_lt d i
  · decide)
theorem im_end {f : Nat → Nat} {n x : Nat} (hx : x < 2 ^ n) (hn : n ≤ 4) : xs (fun i => if x.testBit i then f i else 0) n = im f x := by
  have key : ∀ k, xs (fun i => if x.testBit i then f i else 0) (n + k) = xs (fun i => if x.testBit i then f i else 0) n := by
    intro k
    induction k with
    | zero => rfl
    | succ k ih =>
      rw [← Nat.add_assoc, xs_s, ih, Nat.testBit_lt_two_pow (Nat.lt_of_lt_of_le hx (pw2 (by omega)))]
      exact Nat.xor_zero _
  have h := key (4 - n)
  rw [show n + (4 - n) = 4 by omega] at h
  exact h.symm
def lyF (d : Nat) (f : Nat → Nat) (k q : Nat) : Nat := if q < k then im (r3V d) q else f q
theorem lyF_0 (d : Nat) (f : Nat → Nat) : lyF d f 0 = f := by
  funext q
  unfold lyF
  rw [if_neg (by omega)]
theorem lyF_at {d k q : Nat} {f : Nat → Nat} (h : q < k) : lyF d f k q = im (r3V d) q := if_pos h
theorem lyF_put {d x : Nat} {f : Nat → Nat} : va_up (lyF d f x) x (im (r3V d) x) = lyF d f (x + 1) := by
  funext q
  unfold va_up lyF
  by_cases h : q = x
  · rw [if_pos h, if_pos (by omega), h]
  · rw [if_neg h]
    by_cases h2 : q < x
    · rw [if_pos h2, if_pos (by omega)]
    · rw [if_neg h2, if_neg (by omega)]
def laS (S : Nat → Nat → Nat) (ri d n : Nat) : Nat → Nat → Nat := va_up S ri (lyF d (S ri) (2 ^ n))
def htF (P Q : Nat → Nat → Nat) (F G : Nat → Nat) (f : Nat → Nat) : Nat → Nat → Nat
  | 0 => f
  | k + 1 => va_up (htF P Q F G f k) (P 1 k) (Q (F 1) (G k))
def ivF (N : Nat) (P : Nat → Nat → Nat) (t : Nat) : Nat := (fl (fun y => P 1 y == t) 0 N).getD 0
theorem ivF_at {N : Nat} {P : Nat → Nat → Nat} {y : Nat} (hy : y < N) (hi : ∀ i j, i < j → j < N → P 1 i ≠ P 1 j) : ivF N P (P 1 y) = y := by
  unfold ivF
  rw [fl_at (p := fun q => P 1 q == P 1 y) (k := y) (Nat.zero_le y) (by omega) (bT rfl) (fun j _ hj => bF (hi j y hj hy))]
  rfl
theorem htF_at {N : Nat} {P Q : Nat → Nat → Nat} {F G f : Nat → Nat} (hi : ∀ i j, i < j → j < N → P 1 i ≠ P 1 j) {y : Nat} : ∀ k, y < k → k ≤ N → htF P Q F G f k (P 1 y) = Q (F 1) (G y)
  | 0, h, _ => absurd h (by omega)
  | k + 1, h, hk => by
    show va_up _ (P 1 k) _ (P 1 y) = _
    rcases Nat.lt_succ_iff_lt_or_eq.mp h with q | q
    · rw [va_up_o (hi y k q (by omega)), htF_at hi k q (by omega)]
    · rw [q, va_up_at]
theorem ht_end {N : Nat} {P Q : Nat → Nat → Nat} {F G f : Nat → Nat} (hi : ∀ i j, i < j → j < N → P 1 i ≠ P 1 j) (hl : ∀ y, y < N → P 1 y < N) {t : Nat} (ht : t < N) : htF P Q F G f N t = Q (F 1) (G (ivF N P t)) := by
  obtain ⟨y, hy, rfl⟩ := fb_onto hl hi ht
  rw [htF_at hi N hy (Nat.le_refl N), ivF_at hy hi]
def thS (S : Nat → Nat → Nat) (n : Nat) (P Q : Nat → Nat → Nat) (F G : Nat → Nat) : Nat → Nat → Nat := va_up S 32 (htF P Q F G (S 32) (2 ^ n))
def wq (n : Nat) (P Q : Nat → Nat → Nat) (F G : Nat → Nat) (x y : Nat) : Bool := x == 0 || (y == 0 || (Q (F 1) (G (ivF (2 ^ n) P (P x y))) == Q (F x) (G y)))
def w3B (n : Nat) (P Q : Nat → Nat → Nat) (F G : Nat → Nat) : Bool := al (fun x => al (wq n P Q F G x) (2 ^ n)) (2 ^ n)
theorem wq_0 {n : Nat} {P Q : Nat → Nat → Nat} {F G : Nat → Nat} {x : Nat} : wq n P Q F G x 0 = true := by
  unfold wq
  rw [show ((0 : Nat) == 0) = true from rfl, Bool.true_or, Bool.or_true]
theorem wq_y {n : Nat} {P Q : Nat → Nat → Nat} {F G : Nat → Nat} {x y : Nat} (h : Q (F 1) (G (ivF (2 ^ n) P (P x y))) = Q (F x) (G y)) : wq n P Q F G x y = true := by
  unfold wq
  rw [bT h, Bool.or_true, Bool.or_true]
theorem wq_n {n : Nat} {P Q : Nat → Nat → Nat} {F G : Nat → Nat} {x y : Nat} (hx : 1 ≤ x) (hy : 1 ≤ y) (h : ¬ Q (F 1) (G (ivF (2 ^ n) P (P x y))) = Q (F x) (G y)) : wq n P Q F G x y = false := by
  unfold wq
  rw [bF h, bF (show ¬ x = 0 by omega), bF (show ¬ y = 0 by omega)]
  rfl
def wgS (n : Nat) (P Q : Nat → Nat → Nat) (F : Nat → Nat) (S : Nat → Nat → Nat) : Nat → Nat → Nat → Nat
  | 0 => S
  | g + 1 => if fitB (r3V g) n then thS (laS (wgS n P Q F S g) 31 g n) n P Q F (im (r3V g)) else laS (wgS n P Q F S g) 31 g n
def wfS (n : Nat) (P Q : Nat → Nat → Nat) (S : Nat → Nat → Nat) : Nat → Nat → Nat → Nat
  | 0 => S
  | f + 1 => if fitB (r3V f) n then wgS n P Q (im (r3V f)) (laS (wfS n P Q S f) 30 f n) (2 ^ (3 * n)) else laS (wfS n P Q S f) 30 f n
theorem wgS_y {n : Nat} {P Q : Nat → Nat → Nat} {F : Nat → Nat} {S : Nat → Nat → Nat} {g : Nat} (h : fitB (r3V g) n = true) : wgS n P Q F S (g + 1) = thS (laS (wgS n P Q F S g) 31 g n) n P Q F (im (r3V g)) := if_pos h
theorem wgS_n {n : Nat} {P Q : Nat → Nat → Nat} {F : Nat → Nat} {S : Nat → Nat → Nat} {g : Nat} (h : fitB (r3V g) n = false) : wgS n P Q F S (g + 1) = laS (wgS n P Q F S g) 31 g n := if_neg (by rw [h]; decide)
theorem wfS_y {n : Nat} {P Q : Nat → Nat → Nat} {S : Nat → Nat → Nat} {f : Nat} (h : fitB (r3V f) n = true) : wfS n P Q S (f + 1) = wgS n P Q (im (r3V f)) (laS (wfS n P Q S f) 30 f n) (2 ^ (3 * n)) := if_pos h
theorem wfS_n {n : Nat} {P Q : Nat → Nat → Nat} {S : Nat → Nat → Nat} {f : Nat} (h : fitB (r3V f) n = false) : wfS n P Q S (f + 1) = laS (wfS n P Q S f) 30 f n := if_neg (by rw [h]; decide)
theorem wgS_o {n : Nat} {P Q : Nat → Nat → Nat} {F : Nat → Nat} {S : Nat → Nat → Nat} {i : Nat} (h1 : i ≠ 31) (h2 : i ≠ 32) : ∀ g, wgS n P Q F S g i = S i
  | 0 => rfl
  | g + 1 => by
    unfold wgS
    split
    · unfold thS laS
      rw [va_up_o h2, va_up_o h1, wgS_o h1 h2 g]
    · unfold laS
      rw [va_up_o h1, wgS_o h1 h2 g]
theorem wfS_o {n : Nat} {P Q : Nat → Nat → Nat} {S : Nat → Nat → Nat} {i : Nat} (h : i < 30) : ∀ f, wfS n P Q S f i = S i
  | 0 => rfl
  | f + 1 => by
    unfold wfS
    split
    · rw [wgS_o (by omega) (by omega)]
      unfold laS
      rw [va_up_o (by omega), wfS_o h f]
    · unfold laS
      rw [va_up_o (by omega), wfS_o h f]
/-- the table of both worlds' products -/
def tbF (N : Nat) (P Q : Nat → Nat → Nat) (f : Nat → Nat) (x y q : Nat) : Nat := if q < 64 ∧ ((q / 8 < x ∧ q % 8 < N) ∨ (q / 8 = x ∧ q % 8 < y)) then P (q / 8) (q % 8) else if 64 ≤ q ∧ q < 128 ∧ (((q - 64) / 8 < x ∧ (q - 64) % 8 < N) ∨ ((q - 64) / 8 = x ∧ (q - 64) % 8 < y)) then Q ((q - 64) / 8) ((q - 64) % 8) else f q
theorem tbF_00 (N : Nat) (P Q : Nat → Nat → Nat) (f : Nat → Nat) : tbF N P Q f 0 0 = f := by
  funext q
  unfold tbF
  rw [if_neg (by omega), if_neg (by omega)]
theorem tbF_put {N : Nat} {P Q : Nat → Nat → Nat} {f : Nat → Nat} {x y : Nat} (hx : x < 8) (hy : y < 8) : va_up (va_up (tbF N P Q f x y) (8 * x + y) (P x y)) (64 + 8 * x + y) (Q x y) = tbF N P Q f x (y + 1) := by
  funext q
  unfold va_up tbF
  by_cases h : q = 64 + 8 * x + y
  · have a1 : (q - 64) / 8 = x := by omega
    have a2 : (q - 64) % 8 = y := by omega
    rw [if_pos h, if_neg (by omega), a1, a2, if_pos (by omega)]
  · rw [if_neg h]
    by_cases h2 : q = 8 * x + y
    · have a1 : q / 8 = x := by omega
      have a2 : q % 8 = y := by omega
      rw [if_pos h2, a1, a2, if_pos (by omega)]
    · rw [if_neg h2]
      by_cases h3 : q < 64 ∧ ((q / 8 < x ∧ q % 8 < N) ∨ (q / 8 = x ∧ q % 8 < y))
      · rw [if_pos h3, if_pos (by omega)]
      · rw [if_neg h3, if_neg (show ¬ (q < 64 ∧ ((q / 8 < x ∧ q % 8 < N) ∨ (q / 8 = x ∧ q % 8 < y + 1))) by omega)]
        by_cases h4 : 64 ≤ q ∧ q < 128 ∧ (((q - 64) / 8 < x ∧ (q - 64) % 8 < N) ∨ ((q - 64) / 8 = x ∧ (q - 64) % 8 < y))
        · rw [if_pos h4, if_pos (by omega)]
        · rw [if_neg h4, if_neg (by omega)]
theorem tbF_row {N : Nat} {P Q : Nat → Nat → Nat} {f : Nat → Nat} {x : Nat} : tbF N P Q f x N = tbF N P Q f (x + 1) 0 := by
  funext q
  unfold tbF
  by_cases h3 : q < 64 ∧ ((q / 8 < x ∧ q % 8 < N) ∨ (q / 8 = x ∧ q % 8 < N))
  · rw [if_pos h3, if_pos (by omega)]
  · rw [if_neg h3, if_neg (show ¬ (q < 64 ∧ ((q / 8 < x + 1 ∧ q % 8 < N) ∨ (q / 8 = x + 1 ∧ q % 8 < 0))) by omega)]
    by_cases h4 : 64 ≤ q ∧ q < 128 ∧ (((q - 64) / 8 < x ∧ (q - 64) % 8 < N) ∨ ((q - 64) / 8 = x ∧ (q - 64) % 8 < N))
    · rw [if_pos h4, if_pos (by omega)]
    · rw [if_neg h4, if_neg (by omega)]
theorem tbF_P {N : Nat} {P Q : Nat → Nat → Nat} {f : Nat → Nat} {x y : Nat} (hN : N ≤ 8) (hx : x < N) (hy : y < N) : tbF N P Q f N 0 (8 * x + y) = P x y := by
  unfold tbF
  have a1 : (8 * x + y) / 8 = x := by omega
  have a2 : (8 * x + y) % 8 = y := by omega
  rw [a1, a2, if_pos (by omega)]
theorem tbF_Q {N : Nat} {P Q : Nat → Nat → Nat} {f : Nat → Nat} {x y : Nat} (hN : N ≤ 8) (hx : x < N) (hy : y < N) : tbF N P Q f N 0 (64 + 8 * x + y) = Q x y := by
  unfold tbF
  have a1 : (64 + 8 * x + y - 64) / 8 = x := by omega
  have a2 : (64 + 8 * x + y - 64) % 8 = y := by omega
  rw [if_neg (by omega), a1, a2, if_pos (by omega)]
def wyG (n : Nat) (P Q : Nat → Nat → Nat) (f : Nat) : Nat := if fitB (r3V f) n then cnt (fun g => fitB (r3V g) n && w3B n P Q (im (r3V f)) (im (r3V g))) (2 ^ (3 * n)) else 0
def wyT (n : Nat) (P Q : Nat → Nat → Nat) : Nat := sm (wyG n P Q) (2 ^ (3 * n))
def wyS (S : Nat → Nat → Nat) (n : Nat) (P Q : Nat → Nat → Nat) : Nat → Nat → Nat := va_up S 29 (tbF (2 ^ n) P Q (S 29) (2 ^ n) 0)
def sR_ways (n : Nat → Nat) (c : Nat → Nat → Nat) (a b : Int32) : Int32 := rg 0 3 a (-1) fun k => rg 0 3 b (-1) fun u => if ¬ n k = n u ∨ 3 < n k then -3 else if (lbr (n k) (c k)).isNone = false then -3 else if (lbr (n u) (c u)).isNone = false then -3 else nI (wyT (n k) (tm (n k) (c k)) (tm (n k) (c u)))
def nR_ways (S : Nat → Nat → Nat) (a b : Int32) : Nat → Nat → Nat := rg 0 3 a S fun k => rg 0 3 b S fun u => if ¬ rN_ S k = rN_ S u ∨ 3 < rN_ S k then S else if (lbr (rN_ S k) (rC S k)).isNone = false then S else if (lbr (rN_ S u) (rC S u)).isNone = false then S else wfS (rN_ S k) (tm (rN_ S k) (rC S k)) (tm (rN_ S k) (rC S u)) (wyS S (rN_ S k) (tm (rN_ S k) (rC S k)) (tm (rN_ S k) (rC S u))) (2 ^ (3 * rN_ S k))
theorem p8 {n : Nat} (h : n ≤ 3) : 2 ^ n ≤ 8 := pw2 (b := 3) h
theorem wgP {N : Nat} {P Q : Nat → Nat → Nat} {F : Nat → Nat} {f : Nat} {S : Nat → Nat → Nat} {g : Nat} (i : Nat) (h : i < 30) : wgS N P Q F (laS (wfS N P Q S f) 30 f N) g i = S i := by
  rw [wgS_o (by omega) (by omega)]
  unfold laS
  rw [va_up_o (by omega), wfS_o h]
theorem c9 : True := trivial

set_option maxHeartbeats 4000000 in
set_option maxRecDepth 100000 in
theorem c_X3_lay30 (l : Launch) {D : va_G} {tys : List (ClassId × FieldType)} {A : Nat → Prop} {ad : Nat → Nat} {cI cW cM : ClassId} {tI : Nat} {S : Nat → Nat → Nat} (hI : tys[tI]? = some (cI, .int)) {d n : Nat} (hn : n ≤ 3) (hd : d < 2 ^ 31) : Met l yX3_lay wsX3_lay ({ frames := 0, cells := 0, slots := 0, locals := 0 } : Room) (va_Pc [.ref (ad (30)), .int (nI (d)), .int (nI (n))] (PW D tys A 33 ad (gE cI cW cM ad S))) (QW (some (.int (bI (fitB (r3V d) n)))) (PW D tys A 33 ad (gE cI cW cM ad (laS S 30 d n))) A) 0 0 A := by
  have p8 := p8 hn
  have p6 := p16 (show 2 ^ n ≤ 16 by omega)
  have p9 : 0 < 2 ^ 2 ^ n := Nat.pow_pos (by decide)
  refine g_writes (cc := cX3_lay) (maxL := 6) (ret := (some .boolean)) (by decide) rfl (Nat.le_of_ble_eq_true rfl) ?_
  intro p e s m args below meth c hx hb hrt hts hown hlocks hml hP hK hD hS ls hl
  show W p l e ({ frames := 0, cells := 0, slots := 0, locals := 0 } : Room) s m args below meth c s.heap [] 0 0 _ _
  have hl : lv_has ls 6 [(0, .ref (ad (30))), (1, .int (nI (d))), (2, .int (nI (n)))] := hl
  refine n_iconst 0 hx hb dX3_lay_0 ?_
  refine lv_istore_n (lv' := [(3, .int (nI (0))), (0, .ref (ad (30))), (1, .int (nI (d))), (2, .int (nI (n)))]) hx hb dX3_lay_1 rfl hl (by decide) rfl (fun ls hl => ?_)
  refine n_iconst 0 hx hb dX3_lay_2 ?_
  refine lv_istore (lv' := [(4, .int (nI (0))), (3, .int (nI (0))), (0, .ref (ad (30))), (1, .int (nI (d))), (2, .int (nI (n)))]) hx hb dX3_lay_3 hl (by decide) rfl (fun ls hl => ?_)
  have hP : va_P D vwCl (pic 33 ad (gE cI cW cM ad (va_up S 30 (lyF d (S 30) 0)))) s.heap := by rw [lyF_0, va_up_same rfl]; exact hP
  have L_5 : ∀ (r : Nat) (acc : Nat) (x : Nat), (x ≤ 2 ^ n) → (2 ^ n < x + r) → (acc = os (fun x => 1 <<< im (r3V d) x) x) → ∀ (H : Heap) (locs : List Loc), va_P D vwCl (pic 33 ad (gE cI cW cM ad (va_up S 30 (lyF d (S 30) x)))) H → va_S A s.heap H locs → ∀ (ls : Array Slot), lv_has ls 6 [(0, .ref (ad (30))), (1, .int (nI (d))), (2, .int (nI (n))), (3, .int (nI (acc))), (4, .int (nI (x)))] → W p l e ({ frames := 0, cells := 0, slots := 0, locals := 0 } : Room) s m args below meth c H locs 0 0 (MQ below (QW (some (.int (bI (fitB (r3V d) n)))) (PW D tys A 33 ad (gE cI cW cM ad (laS S 30 d n))) A) args s 0 0 A) (F0 m 5 ls []) := by
    intro r
    induction r with
    | zero => intro acc x hx9 hr ha; intros; exact absurd hr (by omega)
    | succ r ih =>
      intro acc x hx9 hr ha H locs hP hS ls hl
      have ih_5 := ih
      refine lv_iload hx hb dX3_lay_5 (lv_at hl 4 rfl) ?_
      refine n_iconst 1 hx hb dX3_lay_7 ?_
      refine lv_iload_n hx hb dX3_lay_8 rfl (lv_at hl 2 rfl) ?_
      refine n_ishl hx hb dX3_lay_9 (by omega) ?_
      refine n_eq (show nI (1 <<< n) = nI (2 ^ n) from by rw [shl1]) ?_
      refine n_ge (tgt := 79) hx hb dX3_lay_10 (by decide) (by omega) (by omega) (fun h_10 => ?_) (fun h_10 => ?_)
      · rw [show x = 2 ^ n by omega] at hP
        refine lv_iload_n hx hb dX3_lay_79 rfl (lv_at hl 3 rfl) ?_
        refine n_iconst 1 hx hb dX3_lay_80 ?_
        refine n_iconst 1 hx hb dX3_lay_81 ?_
        refine lv_iload_n hx hb dX3_lay_82 rfl (lv_at hl 2 rfl) ?_
        refine n_ishl hx hb dX3_lay_83 (by omega) ?_
        refine n_eq (show nI (1 <<< n) = nI (2 ^ n) from by rw [shl1]) ?_
        refine n_ishl hx hb dX3_lay_84 (by omega) ?_
        refine n_eq (show nI (1 <<< (2 ^ n)) = nI (2 ^ 2 ^ n) from by rw [shl1]) ?_
        refine n_iconst 1 hx hb dX3_lay_85 ?_
        refine n_isub hx hb dX3_lay_86 (by omega) ?_
        have hos : acc < 2 ^ 16 := by rw [ha]; exact os_lt (fun i hi => shl1_lt (Nat.lt_of_lt_of_le (im8 d i) (by decide)))
        refine n_cne (tgt := 94) hx hb dX3_lay_87 (by decide) (by omega) (by omega) (fun h_87 => ?_) (fun h_87 => ?_)
        · refine n_iconst 0 hx hb dX3_lay_94 ?_
          exact g_zretW (false) hx hb hrt hlocks hK hP (pic_D _ hD) hS dX3_lay_95 rfl (by rw [← fit_eq, show fitR (r3V d) n = false from decide_eq_false (by have e9 : x = 2 ^ n := (by omega); rw [e9] at ha; rw [← ha]; exact h_87)])
        · refine n_iconst 1 hx hb dX3_lay_90 ?_
          refine n_goto 95 hx hb dX3_lay_91 (by decide) ?_
          exact g_zretW (true) hx hb hrt hlocks hK hP (pic_D _ hD) hS dX3_lay_95 rfl (by rw [← fit_eq, show fitR (r3V d) n = true from decide_eq_true (by have e9 : x = 2 ^ n := (by omega); rw [e9] at ha; rw [← ha]; exact h_87)])
      · refine lv_aload_n hx hb dX3_lay_13 rfl (lv_at hl 0 rfl) ?_
        refine lv_iload hx hb dX3_lay_14 (lv_at hl 4 rfl) ?_
        refine n_iconst 0 hx hb dX3_lay_16 ?_
        refine g_iast (30) (x) (0) hx hb hK hP (pic_D _ hD) hS (by decide) (gIX (S' := va_up S 30 (lyF d (S 30) x)) 30 8 rfl (by decide) (by exact va_up_at _ _ _)) hI (by omega) (by decide) dX3_lay_17 (fun H locs hP hS => ?_)
        rw [gE_upL 30 8 rfl (by decide), va_up_up] at hP
        have hP : va_P D vwCl (pic 33 ad (gE cI cW cM ad (va_up S 30 (va_up (lyF d (S 30) x) x (xs (fun i => if x.testBit i then r3V d i else 0) 0))))) H := hP
        refine n_iconst 0 hx hb dX3_lay_18 ?_
        refine lv_istore (lv' := [(5, .int (nI (0))), (0, .ref (ad (30))), (1, .int (nI (d))), (2, .int (nI (n))), (3, .int (nI (acc))), (4, .int (nI (x)))]) hx hb dX3_lay_19 hl (by decide) rfl (fun ls hl => ?_)
        have L_21 : ∀ (r : Nat) (i : Nat), (i ≤ n) → (n < i + r) → ∀ (H : Heap) (locs : List Loc), va_P D vwCl (pic 33 ad (gE cI cW cM ad (va_up S 30 (va_up (lyF d (S 30) x) x (xs (fun i => if x.testBit i then r3V d i else 0) i))))) H → va_S A s.heap H locs → ∀ (ls : Array Slot), lv_has ls 6 [(0, .ref (ad (30))), (1, .int (nI (d))), (2, .int (nI (n))), (3, .int (nI (acc))), (4, .int (nI (x))), (5, .int (nI (i)))] → W p l e ({ frames := 0, cells := 0, slots := 0, locals := 0 } : Room) s m args below meth c H locs 0 0 (MQ below (QW (some (.int (bI (fitB (r3V d) n)))) (PW D tys A 33 ad (gE cI cW cM ad (laS S 30 d n))) A) args s 0 0 A) (F0 m 21 ls []) := by
          intro r
          induction r with
          | zero => intro i hi hr2; intros; exact absurd hr2 (by omega)
          | succ r ih =>
            intro i hi hr2 H locs hP hS ls hl
            have ih_21 := ih
            refine lv_iload hx hb dX3_lay_21 (lv_at hl 5 rfl) ?_
            refine lv_iload_n hx hb dX3_lay_23 rfl (lv_at hl 2 rfl) ?_
            refine n_ge (tgt := 64) hx hb dX3_lay_24 (by decide) (by omega) (by omega) (fun h_24 => ?_) (fun h_24 => ?_)
            · rw [show i = n by omega, im_end (show x < 2 ^ n by omega) (by omega), lyF_put] at hP
              refine lv_iload_n hx hb dX3_lay_64 rfl (lv_at hl 3 rfl) ?_
              refine n_iconst 1 hx hb dX3_lay_65 ?_
              refine lv_aload_n hx hb dX3_lay_66 rfl (lv_at hl 0 rfl) ?_
              refine lv_iload hx hb dX3_lay_67 (lv_at hl 4 rfl) ?_
              refine g_iald (30) (x) (t0 := _) hx hb hK hP (by decide) (gIX (S' := va_up S 30 (lyF d (S 30) (x + 1))) 30 8 rfl (by decide) (by exact va_up_at _ _ _)) hI (by omega) (by decide) dX3_lay_69 ?_
              have hm9 := im8 d x
              refine n_eq (show nI ((lyF d (S 30) (x + 1)) (x)) = nI (im (r3V d) x) from by rw [lyF_at (by omega)]) ?_
              refine n_ishl hx hb dX3_lay_70 (by omega) ?_
              refine n_ior hx hb dX3_lay_71 ?_
              refine lv_istore_n (lv' := [(3, .int (nI (acc ||| (1 <<< (im (r3V d) x))))), (0, .ref (ad (30))), (1, .int (nI (d))), (2, .int (nI (n))), (4, .int (nI (x))), (5, .int (nI (i)))]) hx hb dX3_lay_72 rfl hl (by decide) rfl (fun ls hl => ?_)
              refine n_iinc 4 1 (lv' := [(4, .int (nI (x + 1))), (3, .int (nI (acc ||| (1 <<< (im (r3V d) x))))), (0, .ref (ad (30))), (1, .int (nI (d))), (2, .int (nI (n))), (5, .int (nI (i)))]) hx hb dX3_lay_73 hl rfl (by decide) rfl (fun ls hl => ?_)
              refine n_goto 5 hx hb dX3_lay_76 (by decide) ?_
              exact ih_5 (acc ||| (1 <<< (im (r3V d) x))) (x + 1) (by omega) (by omega) (by rw [ha]; rfl) _ _ hP hS _ (lv_sub hl [2, 3, 4, 1, 0] rfl)
            · refine lv_aload_n hx hb dX3_lay_27 rfl (lv_at hl 0 rfl) ?_
              refine lv_iload hx hb dX3_lay_28 (lv_at hl 4 rfl) ?_
              refine lv_dup2_11 hx hb dX3_lay_30 rfl rfl ?_
              refine g_iald (30) (x) (t0 := _) hx hb hK hP (by decide) (gIX (S' := va_up S 30 (va_up (lyF d (S 30) x) x (xs (fun i => if x.testBit i then r3V d i else 0) i))) 30 8 rfl (by decide) (by exact va_up_at _ _ _)) hI (by omega) (by decide) dX3_lay_31 ?_
              refine n_eq (show nI ((va_up (lyF d (S 30) x) x (xs (fun i => if x.testBit i then r3V d i else 0) i)) (x)) = nI (xs (fun i => if x.testBit i then r3V d i else 0) i) from by rw [va_up_at]) ?_
              refine lv_iload hx hb dX3_lay_32 (lv_at hl 4 rfl) ?_
              refine lv_iload hx hb dX3_lay_34 (lv_at hl 5 rfl) ?_
              refine n_ishr hx hb dX3_lay_36 (by omega) (by omega) ?_
              refine n_iconst 1 hx hb dX3_lay_37 ?_
              refine n_iand hx hb dX3_lay_38 ?_
              refine n_iconst 1 hx hb dX3_lay_39 ?_
              refine n_cne (tgt := 55) hx hb dX3_lay_40 (by decide) (and1_lt _) (by decide) (fun h_40 => ?_) (fun h_40 => ?_)
              · refine n_iconst 0 hx hb dX3_lay_55 ?_
                refine n_ixor hx hb dX3_lay_56 ?_
                refine g_iast (30) (x) ((xs (fun i => if x.testBit i then r3V d i else 0) i) ^^^ 0) hx hb hK hP (pic_D _ hD) hS (by decide) (gIX (S' := va_up S 30 (va_up (lyF d (S 30) x) x (xs (fun i => if x.testBit i then r3V d i else 0) i))) 30 8 rfl (by decide) (by exact va_up_at _ _ _)) hI (by omega) (by decide) dX3_lay_57 (fun H locs hP hS => ?_)
                rw [gE_upL 30 8 rfl (by decide), va_up_up, va_up_up] at hP
                rw [Nat.xor_zero, ← im_n (f := r3V d) (fun z => h_40 ((bit1' x i).mpr z))] at hP
                refine n_iinc 5 1 (lv' := [(5, .int (nI (i + 1))), (0, .ref (ad (30))), (1, .int (nI (d))), (2, .int (nI (n))), (3, .int (nI (acc))), (4, .int (nI (x)))]) hx hb dX3_lay_58 hl rfl (by decide) rfl (fun ls hl => ?_)
                refine n_goto 21 hx hb dX3_lay_61 (by decide) ?_
                exact ih_21 (i + 1) (by omega) (by omega) _ _ hP hS _ (lv_sub hl [1, 2, 3, 4, 5, 0] rfl)
              · refine lv_iload_n hx hb dX3_lay_43 rfl (lv_at hl 1 rfl) ?_
                refine n_iconst 3 hx hb dX3_lay_44 ?_
                refine lv_iload hx hb dX3_lay_45 (lv_at hl 5 rfl) ?_
                refine n_imul hx hb dX3_lay_47 ?_
                refine n_ishr hx hb dX3_lay_48 (by omega) (by omega) ?_
                refine lv_bipush (v := nI 7) hx hb dX3_lay_49 (by decide) ?_
                refine n_iand hx hb dX3_lay_51 ?_
                refine n_eq (show nI ((d >>> (3 * i)) &&& 7) = nI (r3V d i) from rfl) ?_
                refine n_goto 56 hx hb dX3_lay_52 (by decide) ?_
                refine n_ixor hx hb dX3_lay_56 ?_
                refine g_iast (30) (x) ((xs (fun i => if x.testBit i then r3V d i else 0) i) ^^^ (r3V d i)) hx hb hK hP (pic_D _ hD) hS (by decide) (gIX (S' := va_up S 30 (va_up (lyF d (S 30) x) x (xs (fun i => if x.testBit i then r3V d i else 0) i))) 30 8 rfl (by decide) (by exact va_up_at _ _ _)) hI (by omega) (by decide) dX3_lay_57 (fun H locs hP hS => ?_)
                rw [gE_upL 30 8 rfl (by decide), va_up_up, va_up_up] at hP
                rw [← im_y (f := r3V d) ((bit1' x i).mp h_40)] at hP
                refine n_iinc 5 1 (lv' := [(5, .int (nI (i + 1))), (0, .ref (ad (30))), (1, .int (nI (d))), (2, .int (nI (n))), (3, .int (nI (acc))), (4, .int (nI (x)))]) hx hb dX3_lay_58 hl rfl (by decide) rfl (fun ls hl => ?_)
                refine n_goto 21 hx hb dX3_lay_61 (by decide) ?_
                exact ih_21 (i + 1) (by omega) (by omega) _ _ hP hS _ (lv_sub hl [1, 2, 3, 4, 5, 0] rfl)
        exact L_21 (n + 1) (0) (Nat.zero_le _) (by omega) _ _ hP hS _ (lv_sub hl [1, 2, 3, 4, 5, 0] rfl)
  exact L_5 (2 ^ n + 1) (0) (0) (Nat.zero_le _) (by omega) rfl _ _ hP hS _ (lv_sub hl [2, 3, 4, 1, 0] rfl)
set_option maxHeartbeats 4000000 in
set_option maxRecDepth 100000 in
theorem c_X3_lay31 (l : Launch) {D : va_G} {tys : List (ClassId × FieldType)} {A : Nat → Prop} {ad : Nat → Nat} {cI cW cM : ClassId} {tI : Nat} {S : Nat → Nat → Nat} (hI : tys[tI]? = some (cI, .int)) {d n : Nat} (hn : n ≤ 3) (hd : d < 2 ^ 31) : Met l yX3_lay wsX3_lay ({ frames := 0, cells := 0, slots := 0, locals := 0 } : Room) (va_Pc [.ref (ad (31)), .int (nI (d)), .int (nI (n))] (PW D tys A 33 ad (gE cI cW cM ad S))) (QW (some (.int (bI (fitB (r3V d) n)))) (PW D tys A 33 ad (gE cI cW cM ad (laS S 31 d n))) A) 0 0 A := by
  have p8 := p8 hn
  have p6 := p16 (show 2 ^ n ≤ 16 by omega)
  have p9 : 0 < 2 ^ 2 ^ n := Nat.pow_pos (by decide)
  refine g_writes (cc := cX3_lay) (maxL := 6) (ret := (some .boolean)) (by decide) rfl (Nat.le_of_ble_eq_true rfl) ?_
  intro p e s m args below meth c hx hb hrt hts hown hlocks hml hP hK hD hS ls hl
  show W p l e ({ frames := 0, cells := 0, slots := 0, locals := 0 } : Room) s m args below meth c s.heap [] 0 0 _ _
  have hl : lv_has ls 6 [(0, .ref (ad (31))), (1, .int (nI (d))), (2, .int (nI (n)))] := hl
  refine n_iconst 0 hx hb dX3_lay_0 ?_
  refine lv_istore_n (lv' := [(3, .int (nI (0))), (0, .ref (ad (31))), (1, .int (nI (d))), (2, .int (nI (n)))]) hx hb dX3_lay_1 rfl hl (by decide) rfl (fun ls hl => ?_)
  refine n_iconst 0 hx hb dX3_lay_2 ?_
  refine lv_istore (lv' := [(4, .int (nI (0))), (3, .int (nI (0))), (0, .ref (ad (31))), (1, .int (nI (d))), (2, .int (nI (n)))]) hx hb dX3_lay_3 hl (by decide) rfl (fun ls hl => ?_)
  have hP : va_P D vwCl (pic 33 ad (gE cI cW cM ad (va_up S 31 (lyF d (S 31) 0)))) s.heap := by rw [lyF_0, va_up_same rfl]; exact hP
  have L_5 : ∀ (r : Nat) (acc : Nat) (x : Nat), (x ≤ 2 ^ n) → (2 ^ n < x + r) → (acc = os (fun x => 1 <<< im (r3V d) x) x) → ∀ (H : Heap) (locs : List Loc), va_P D vwCl (pic 33 ad (gE cI cW cM ad (va_up S 31 (lyF d (S 31) x)))) H → va_S A s.heap H locs → ∀ (ls : Array Slot), lv_has ls 6 [(0, .ref (ad (31))), (1, .int (nI (d))), (2, .int (nI (n))), (3, .int (nI (acc))), (4, .int (nI (x)))] → W p l e ({ frames := 0, cells := 0, slots := 0, locals := 0 } : Room) s m args below meth c H locs 0 0 (MQ below (QW (some (.int (bI (fitB (r3V d) n)))) (PW D tys A 33 ad (gE cI cW cM ad (laS S 31 d n))) A) args s 0 0 A) (F0 m 5 ls []) := by
    intro r
    induction r with
    | zero => intro acc x hx9 hr ha; intros; exact absurd hr (by omega)
    | succ r ih =>
      intro acc x hx9 hr ha H locs hP hS ls hl
      have ih_5 := ih
      refine lv_iload hx hb dX3_lay_5 (lv_at hl 4 rfl) ?_
      refine n_iconst 1 hx hb dX3_lay_7 ?_
      refine lv_iload_n hx hb dX3_lay_8 rfl (lv_at hl 2 rfl) ?_
      refine n_ishl hx hb dX3_lay_9 (by omega) ?_
      refine n_eq (show nI (1 <<< n) = nI (2 ^ n) from by rw [shl1]) ?_
      refine n_ge (tgt := 79) hx hb dX3_lay_10 (by decide) (by omega) (by omega) (fun h_10 => ?_) (fun h_10 => ?_)
      · rw [show x = 2 ^ n by omega] at hP
        refine lv_iload_n hx hb dX3_lay_79 rfl (lv_at hl 3 rfl) ?_
        refine n_iconst 1 hx hb dX3_lay_80 ?_
        refine n_iconst 1 hx hb dX3_lay_81 ?_
        refine lv_iload_n hx hb dX3_lay_82 rfl (lv_at hl 2 rfl) ?_
        refine n_ishl hx hb dX3_lay_83 (by omega) ?_
        refine n_eq (show nI (1 <<< n) = nI (2 ^ n) from by rw [shl1]) ?_
        refine n_ishl hx hb dX3_lay_84 (by omega) ?_
        refine n_eq (show nI (1 <<< (2 ^ n)) = nI (2 ^ 2 ^ n) from by rw [shl1]) ?_
        refine n_iconst 1 hx hb dX3_lay_85 ?_
        refine n_isub hx hb dX3_lay_86 (by omega) ?_
        have hos : acc < 2 ^ 16 := by rw [ha]; exact os_lt (fun i hi => shl1_lt (Nat.lt_of_lt_of_le (im8 d i) (by decide)))
        refine n_cne (tgt := 94) hx hb dX3_lay_87 (by decide) (by omega) (by omega) (fun h_87 => ?_) (fun h_87 => ?_)
        · refine n_iconst 0 hx hb dX3_lay_94 ?_
          exact g_zretW (false) hx hb hrt hlocks hK hP (pic_D _ hD) hS dX3_lay_95 rfl (by rw [← fit_eq, show fitR (r3V d) n = false from decide_eq_false (by have e9 : x = 2 ^ n := (by omega); rw [e9] at ha; rw [← ha]; exact h_87)])
        · refine n_iconst 1 hx hb dX3_lay_90 ?_
          refine n_goto 95 hx hb dX3_lay_91 (by decide) ?_
          exact g_zretW (true) hx hb hrt hlocks hK hP (pic_D _ hD) hS dX3_lay_95 rfl (by rw [← fit_eq, show fitR (r3V d) n = true from decide_eq_true (by have e9 : x = 2 ^ n := (by omega); rw [e9] at ha; rw [← ha]; exact h_87)])
      · refine lv_aload_n hx hb dX3_lay_13 rfl (lv_at hl 0 rfl) ?_
        refine lv_iload hx hb dX3_lay_14 (lv_at hl 4 rfl) ?_
        refine n_iconst 0 hx hb dX3_lay_16 ?_
        refine g_iast (31) (x) (0) hx hb hK hP (pic_D _ hD) hS (by decide) (gIX (S' := va_up S 31 (lyF d (S 31) x)) 31 8 rfl (by decide) (by exact va_up_at _ _ _)) hI (by omega) (by decide) dX3_lay_17 (fun H locs hP hS => ?_)
        rw [gE_upL 31 8 rfl (by decide), va_up_up] at hP
        have hP : va_P D vwCl (pic 33 ad (gE cI cW cM ad (va_up S 31 (va_up (lyF d (S 31) x) x (xs (fun i => if x.testBit i then r3V d i else 0) 0))))) H := hP
        refine n_iconst 0 hx hb dX3_lay_18 ?_
        refine lv_istore (lv' := [(5, .int (nI (0))), (0, .ref (ad (31))), (1, .int (nI (d))), (2, .int (nI (n))), (3, .int (nI (acc))), (4, .int (nI (x)))]) hx hb dX3_lay_19 hl (by decide) rfl (fun ls hl => ?_)
        have L_21 : ∀ (r : Nat) (i : Nat), (i ≤ n) → (n < i + r) → ∀ (H : Heap) (locs : List Loc), va_P D vwCl (pic 33 ad (gE cI cW cM ad (va_up S 31 (va_up (lyF d (S 31) x) x (xs (fun i => if x.testBit i then r3V d i else 0) i))))) H → va_S A s.heap H locs → ∀ (ls : Array Slot), lv_has ls 6 [(0, .ref (ad (31))), (1, .int (nI (d))), (2, .int (nI (n))), (3, .int (nI (acc))), (4, .int (nI (x))), (5, .int (nI (i)))] → W p l e ({ frames := 0, cells := 0, slots := 0, locals := 0 } : Room) s m args below meth c H locs 0 0 (MQ below (QW (some (.int (bI (fitB (r3V d) n)))) (PW D tys A 33 ad (gE cI cW cM ad (laS S 31 d n))) A) args s 0 0 A) (F0 m 21 ls []) := by
          intro r
          induction r with
          | zero => intro i hi hr2; intros; exact absurd hr2 (by omega)
          | succ r ih =>
            intro i hi hr2 H locs hP hS ls hl
            have ih_21 := ih
            refine lv_iload hx hb dX3_lay_21 (lv_at hl 5 rfl) ?_
            refine lv_iload_n hx hb dX3_lay_23 rfl (lv_at hl 2 rfl) ?_
            refine n_ge (tgt := 64) hx hb dX3_lay_24 (by decide) (by omega) (by omega) (fun h_24 => ?_) (fun h_24 => ?_)
            · rw [show i = n by omega, im_end (show x < 2 ^ n by omega) (by omega), lyF_put] at hP
              refine lv_iload_n hx hb dX3_lay_64 rfl (lv_at hl 3 rfl) ?_
              refine n_iconst 1 hx hb dX3_lay_65 ?_
              refine lv_aload_n hx hb dX3_lay_66 rfl (lv_at hl 0 rfl) ?_
              refine lv_iload hx hb dX3_lay_67 (lv_at hl 4 rfl) ?_
              refine g_iald (31) (x) (t0 := _) hx hb hK hP (by decide) (gIX (S' := va_up S 31 (lyF d (S 31) (x + 1))) 31 8 rfl (by decide) (by exact va_up_at _ _ _)) hI (by omega) (by decide) dX3_lay_69 ?_
              have hm9 := im8 d x
              refine n_eq (show nI ((lyF d (S 31) (x + 1)) (x)) = nI (im (r3V d) x) from by rw [lyF_at (by omega)]) ?_
              refine n_ishl hx hb dX3_lay_70 (by omega) ?_
              refine n_ior hx hb dX3_lay_71 ?_
              refine lv_istore_n (lv' := [(3, .int (nI (acc ||| (1 <<< (im (r3V d) x))))), (0, .ref (ad (31))), (1, .int (nI (d))), (2, .int (nI (n))), (4, .int (nI (x))), (5, .int (nI (i)))]) hx hb dX3_lay_72 rfl hl (by decide) rfl (fun ls hl => ?_)
              refine n_iinc 4 1 (lv' := [(4, .int (nI (x + 1))), (3, .int (nI (acc ||| (1 <<< (im (r3V d) x))))), (0, .ref (ad (31))), (1, .int (nI (d))), (2, .int (nI (n))), (5, .int (nI (i)))]) hx hb dX3_lay_73 hl rfl (by decide) rfl (fun ls hl => ?_)
              refine n_goto 5 hx hb dX3_lay_76 (by decide) ?_
              exact ih_5 (acc ||| (1 <<< (im (r3V d) x))) (x + 1) (by omega) (by omega) (by rw [ha]; rfl) _ _ hP hS _ (lv_sub hl [2, 3, 4, 1, 0] rfl)
            · refine lv_aload_n hx hb dX3_lay_27 rfl (lv_at hl 0 rfl) ?_
              refine lv_iload hx hb dX3_lay_28 (lv_at hl 4 rfl) ?_
              refine lv_dup2_11 hx hb dX3_lay_30 rfl rfl ?_
              refine g_iald (31) (x) (t0 := _) hx hb hK hP (by decide) (gIX (S' := va_up S 31 (va_up (lyF d (S 31) x) x (xs (fun i => if x.testBit i then r3V d i else 0) i))) 31 8 rfl (by decide) (by exact va_up_at _ _ _)) hI (by omega) (by decide) dX3_lay_31 ?_
              refine n_eq (show nI ((va_up (lyF d (S 31) x) x (xs (fun i => if x.testBit i then r3V d i else 0) i)) (x)) = nI (xs (fun i => if x.testBit i then r3V d i else 0) i) from by rw [va_up_at]) ?_
              refine lv_iload hx hb dX3_lay_32 (lv_at hl 4 rfl) ?_
              refine lv_iload hx hb dX3_lay_34 (lv_at hl 5 rfl) ?_
              refine n_ishr hx hb dX3_lay_36 (by omega) (by omega) ?_
              refine n_iconst 1 hx hb dX3_lay_37 ?_
              refine n_iand hx hb dX3_lay_38 ?_
              refine n_iconst 1 hx hb dX3_lay_39 ?_
              refine n_cne (tgt := 55) hx hb dX3_lay_40 (by decide) (and1_lt _) (by decide) (fun h_40 => ?_) (fun h_40 => ?_)
              · refine n_iconst 0 hx hb dX3_lay_55 ?_
                refine n_ixor hx hb dX3_lay_56 ?_
                refine g_iast (31) (x) ((xs (fun i => if x.testBit i then r3V d i else 0) i) ^^^ 0) hx hb hK hP (pic_D _ hD) hS (by decide) (gIX (S' := va_up S 31 (va_up (lyF d (S 31) x) x (xs (fun i => if x.testBit i then r3V d i else 0) i))) 31 8 rfl (by decide) (by exact va_up_at _ _ _)) hI (by omega) (by decide) dX3_lay_57 (fun H locs hP hS => ?_)
                rw [gE_upL 31 8 rfl (by decide), va_up_up, va_up_up] at hP
                rw [Nat.xor_zero, ← im_n (f := r3V d) (fun z => h_40 ((bit1' x i).mpr z))] at hP
                refine n_iinc 5 1 (lv' := [(5, .int (nI (i + 1))), (0, .ref (ad (31))), (1, .int (nI (d))), (2, .int (nI (n))), (3, .int (nI (acc))), (4, .int (nI (x)))]) hx hb dX3_lay_58 hl rfl (by decide) rfl (fun ls hl => ?_)
                refine n_goto 21 hx hb dX3_lay_61 (by decide) ?_
                exact ih_21 (i + 1) (by omega) (by omega) _ _ hP hS _ (lv_sub hl [1, 2, 3, 4, 5, 0] rfl)
              · refine lv_iload_n hx hb dX3_lay_43 rfl (lv_at hl 1 rfl) ?_
                refine n_iconst 3 hx hb dX3_lay_44 ?_
                refine lv_iload hx hb dX3_lay_45 (lv_at hl 5 rfl) ?_
                refine n_imul hx hb dX3_lay_47 ?_
                refine n_ishr hx hb dX3_lay_48 (by omega) (by omega) ?_
                refine lv_bipush (v := nI 7) hx hb dX3_lay_49 (by decide) ?_
                refine n_iand hx hb dX3_lay_51 ?_
                refine n_eq (show nI ((d >>> (3 * i)) &&& 7) = nI (r3V d i) from rfl) ?_
                refine n_goto 56 hx hb dX3_lay_52 (by decide) ?_
                refine n_ixor hx hb dX3_lay_56 ?_
                refine g_iast (31) (x) ((xs (fun i => if x.testBit i then r3V d i else 0) i) ^^^ (r3V d i)) hx hb hK hP (pic_D _ hD) hS (by decide) (gIX (S' := va_up S 31 (va_up (lyF d (S 31) x) x (xs (fun i => if x.testBit i then r3V d i else 0) i))) 31 8 rfl (by decide) (by exact va_up_at _ _ _)) hI (by omega) (by decide) dX3_lay_57 (fun H locs hP hS => ?_)
                rw [gE_upL 31 8 rfl (by decide), va_up_up, va_up_up] at hP
                rw [← im_y (f := r3V d) ((bit1' x i).mp h_40)] at hP
                refine n_iinc 5 1 (lv' := [(5, .int (nI (i + 1))), (0, .ref (ad (31))), (1, .int (nI (d))), (2, .int (nI (n))), (3, .int (nI (acc))), (4, .int (nI (x)))]) hx hb dX3_lay_58 hl rfl (by decide) rfl (fun ls hl => ?_)
                refine n_goto 21 hx hb dX3_lay_61 (by decide) ?_
                exact ih_21 (i + 1) (by omega) (by omega) _ _ hP hS _ (lv_sub hl [1, 2, 3, 4, 5, 0] rfl)
        exact L_21 (n + 1) (0) (Nat.zero_le _) (by omega) _ _ hP hS _ (lv_sub hl [1, 2, 3, 4, 5, 0] rfl)
  exact L_5 (2 ^ n + 1) (0) (0) (Nat.zero_le _) (by omega) rfl _ _ hP hS _ (lv_sub hl [2, 3, 4, 1, 0] rfl)
set_option maxHeartbeats 4000000 in
set_option maxRecDepth 100000 in
theorem c_X3_hasThird (l : Launch) {D : va_G} {tys : List (ClassId × FieldType)} {A : Nat → Prop} {ad : Nat → Nat} {cI cW cM : ClassId} {tI : Nat} {S : Nat → Nat → Nat} (hI : tys[tI]? = some (cI, .int)) {P Q : Nat → Nat → Nat} {F G : Nat → Nat} {N : Nat} (hN1 : 1 ≤ N) (hN : N ≤ 3) (hPt : ∀ x, x < 2 ^ N → ∀ y, y < 2 ^ N → S 29 (8 * x + y) = P x y ∧ P x y < 2 ^ N) (hQt : ∀ x, x < 2 ^ N → ∀ y, y < 2 ^ N → S 29 (64 + 8 * x + y) = Q x y ∧ Q x y < 2 ^ N) (hF : ∀ x, x < 2 ^ N → S 30 x = F x ∧ F x < 2 ^ N) (hG : ∀ x, x < 2 ^ N → S 31 x = G x ∧ G x < 2 ^ N) (hi9 : ∀ i j, i < j → j < 2 ^ N → P 1 i ≠ P 1 j) : Met l yX3_hasThird wsX3_hasThird ({ frames := 0, cells := 0, slots := 0, locals := 0 } : Room) (va_Pc [.ref (ad (25)), .int (nI (N))] (PW D tys A 33 ad (gE cI cW cM ad S))) (QW (some (.int (bI (w3B N P Q F G)))) (PW D tys A 33 ad (gE cI cW cM ad (thS S N P Q F G))) A) 0 0 A := by
  have p8 := p8 hN
  have p1 : 1 < 2 ^ N := Nat.lt_of_lt_of_le (by decide : 1 < 2 ^ 1) (pw2 hN1)
  have hl9 : ∀ y, y < 2 ^ N → P 1 y < 2 ^ N := fun y hy => (hPt 1 p1 y hy).2
  have f1 := hF 1 p1
  refine g_writes (cc := cX3_hasThird) (maxL := 5) (ret := (some .boolean)) (by decide) rfl (Nat.le_of_ble_eq_true rfl) ?_
  intro p e s m args below meth c hx hb hrt hts hown hlocks hml hP hK hD hS ls hl
  show W p l e ({ frames := 0, cells := 0, slots := 0, locals := 0 } : Room) s m args below meth c s.heap [] 0 0 _ _
  have hl : lv_has ls 5 [(0, .ref (ad (25))), (1, .int (nI (N)))] := hl
  refine n_iconst 1 hx hb dX3_hasThird_0 ?_
  refine lv_iload_n hx hb dX3_hasThird_1 rfl (lv_at hl 1 rfl) ?_
  refine n_ishl hx hb dX3_hasThird_2 (by omega) ?_
  refine n_eq (show nI (1 <<< N) = nI (2 ^ N) from by rw [shl1]) ?_
  refine lv_istore_n (lv' := [(2, .int (nI (2 ^ N))), (0, .ref (ad (25))), (1, .int (nI (N)))]) hx hb dX3_hasThird_3 rfl hl (by decide) rfl (fun ls hl => ?_)
  refine n_iconst 0 hx hb dX3_hasThird_4 ?_
  refine lv_istore_n (lv' := [(3, .int (nI (0))), (2, .int (nI (2 ^ N))), (0, .ref (ad (25))), (1, .int (nI (N)))]) hx hb dX3_hasThird_5 rfl hl (by decide) rfl (fun ls hl => ?_)
  have hP : va_P D vwCl (pic 33 ad (gE cI cW cM ad (va_up S 32 (htF P Q F G (S 32) 0)))) s.heap := by rw [show htF P Q F G (S 32) 0 = S 32 from rfl, va_up_same rfl]; exact hP
  have L_6 : ∀ (r : Nat) (y : Nat), (y ≤ 2 ^ N) → (2 ^ N < y + r) → ∀ (H : Heap) (locs : List Loc), va_P D vwCl (pic 33 ad (gE cI cW cM ad (va_up S 32 (htF P Q F G (S 32) y)))) H → va_S A s.heap H locs → ∀ (ls : Array Slot), lv_has ls 5 [(0, .ref (ad (25))), (1, .int (nI (N))), (2, .int (nI (2 ^ N))), (3, .int (nI (y)))] → W p l e ({ frames := 0, cells := 0, slots := 0, locals := 0 } : Room) s m args below meth c H locs 0 0 (MQ below (QW (some (.int (bI (w3B N P Q F G)))) (PW D tys A 33 ad (gE cI cW cM ad (thS S N P Q F G))) A) args s 0 0 A) (F0 m 6 ls []) := by
    intro r
    induction r with
    | zero => intro y hy hr; intros; exact absurd hr (by omega)
    | succ r ih =>
      intro y hy hr H locs hP hS ls hl
      have ih_6 := ih
      refine lv_iload_n hx hb dX3_hasThird_6 rfl (lv_at hl 3 rfl) ?_
      refine lv_iload_n hx hb dX3_hasThird_7 rfl (lv_at hl 2 rfl) ?_
      refine n_ge (tgt := 55) hx hb dX3_hasThird_8 (by decide) (by omega) (by omega) (fun h_8 => ?_) (fun h_8 => ?_)
      · rw [show y = 2 ^ N by omega] at hP
        refine n_iconst 1 hx hb dX3_hasThird_55 ?_
        refine lv_istore_n (lv' := [(3, .int (nI (1))), (0, .ref (ad (25))), (1, .int (nI (N))), (2, .int (nI (2 ^ N)))]) hx hb dX3_hasThird_56 rfl hl (by decide) rfl (fun ls hl => ?_)
        have L_57 : ∀ (r : Nat) (x : Nat), (1 ≤ x) → (x ≤ 2 ^ N) → (2 ^ N < x + r) → (∀ j, j < x → al (wq N P Q F G j) (2 ^ N) = true) → ∀ (H : Heap) (locs : List Loc), va_P D vwCl (pic 33 ad (gE cI cW cM ad (va_up S 32 (htF P Q F G (S 32) (2 ^ N))))) H → va_S A s.heap H locs → ∀ (ls : Array Slot), lv_has ls 5 [(0, .ref (ad (25))), (1, .int (nI (N))), (2, .int (nI (2 ^ N))), (3, .int (nI (x)))] → W p l e ({ frames := 0, cells := 0, slots := 0, locals := 0 } : Room) s m args below meth c H locs 0 0 (MQ below (QW (some (.int (bI (w3B N P Q F G)))) (PW D tys A 33 ad (gE cI cW cM ad (thS S N P Q F G))) A) args s 0 0 A) (F0 m 57 ls []) := by
          intro r
          induction r with
          | zero => intro x hx1 hx2 hr2 hno; intros; exact absurd hr2 (by omega)
          | succ r ih =>
            intro x hx1 hx2 hr2 hno H locs hP hS ls hl
            have ih_57 := ih
            refine lv_iload_n hx hb dX3_hasThird_57 rfl (lv_at hl 3 rfl) ?_
            refine lv_iload_n hx hb dX3_hasThird_58 rfl (lv_at hl 2 rfl) ?_
            refine n_ge (tgt := 130) hx hb dX3_hasThird_59 (by decide) (by omega) (by omega) (fun h_59 => ?_) (fun h_59 => ?_)
            · refine n_iconst 1 hx hb dX3_hasThird_130 ?_
              exact g_zretW (true) hx hb hrt hlocks hK hP (pic_D _ hD) hS dX3_hasThird_131 rfl (by rw [show w3B N P Q F G = true from al_yes (fun q hq => hno q (by omega))])
            · refine n_iconst 1 hx hb dX3_hasThird_62 ?_
              refine lv_istore (lv' := [(4, .int (nI (1))), (0, .ref (ad (25))), (1, .int (nI (N))), (2, .int (nI (2 ^ N))), (3, .int (nI (x)))]) hx hb dX3_hasThird_63 hl (by decide) rfl (fun ls hl => ?_)
              have L_65 : ∀ (r : Nat) (y : Nat), (1 ≤ y) → (y ≤ 2 ^ N) → (2 ^ N < y + r) → (∀ q, q < y → wq N P Q F G x q = true) → ∀ (H : Heap) (locs : List Loc), va_P D vwCl (pic 33 ad (gE cI cW cM ad (va_up S 32 (htF P Q F G (S 32) (2 ^ N))))) H → va_S A s.heap H locs → ∀ (ls : Array Slot), lv_has ls 5 [(0, .ref (ad (25))), (1, .int (nI (N))), (2, .int (nI (2 ^ N))), (3, .int (nI (x))), (4, .int (nI (y)))] → W p l e ({ frames := 0, cells := 0, slots := 0, locals := 0 } : Room) s m args below meth c H locs 0 0 (MQ below (QW (some (.int (bI (w3B N P Q F G)))) (PW D tys A 33 ad (gE cI cW cM ad (thS S N P Q F G))) A) args s 0 0 A) (F0 m 65 ls []) := by
                intro r
                induction r with
                | zero => intro y hy1 hy2 hr3 hno2; intros; exact absurd hr3 (by omega)
                | succ r ih =>
                  intro y hy1 hy2 hr3 hno2 H locs hP hS ls hl
                  have ih_65 := ih
                  refine lv_iload hx hb dX3_hasThird_65 (lv_at hl 4 rfl) ?_
                  refine lv_iload_n hx hb dX3_hasThird_67 rfl (lv_at hl 2 rfl) ?_
                  refine n_ge (tgt := 124) hx hb dX3_hasThird_68 (by decide) (by omega) (by omega) (fun h_68 => ?_) (fun h_68 => ?_)
                  · refine n_iinc 3 1 (lv' := [(3, .int (nI (x + 1))), (0, .ref (ad (25))), (1, .int (nI (N))), (2, .int (nI (2 ^ N))), (4, .int (nI (y)))]) hx hb dX3_hasThird_124 hl rfl (by decide) rfl (fun ls hl => ?_)
                    refine n_goto 57 hx hb dX3_hasThird_127 (by decide) ?_
                    exact ih_57 (x + 1) (by omega) (by omega) (by omega) (ya_s hno (al_yes (fun q hq => hno2 q (by omega)))) _ _ hP hS _ (lv_sub hl [1, 2, 3, 0] rfl)
                  · have e1 := hPt x (by omega) y (by omega)
                    have e2 := hG y (by omega)
                    have e4 := hF x (by omega)
                    have e3 := hQt (F x) e4.2 (G y) e2.2
                    have e5 := ht_end (Q := Q) (F := F) (G := G) (f := S 32) hi9 hl9 e1.2
                    have e6 : ivF (2 ^ N) P (P x y) < 2 ^ N := by obtain ⟨y9, hy9, e9⟩ := fb_onto hl9 hi9 e1.2; rw [← e9, ivF_at hy9 hi9]; exact hy9
                    have e7 := (hQt (F 1) f1.2 (G (ivF (2 ^ N) P (P x y))) (hG _ e6).2).2
                    refine lv_aload_n hx hb dX3_hasThird_71 rfl (lv_at hl 0 rfl) ?_
                    refine g_get (25) 6 (C := RX3) (T := TX3) (N := 7) (ci := 2) (ref := "CubeWorldsModel") hx hb hts (by decide +kernel) hown hK hP (by decide) rfl rfl (by decide) (by decide +kernel) rfl rfl dX3_hasThird_72 ?_
                    refine lv_aload_n hx hb dX3_hasThird_75 rfl (lv_at hl 0 rfl) ?_
                    refine g_get (25) 3 (C := RX3) (T := TX3) (N := 7) (ci := 2) (ref := "CubeWorldsModel") hx hb hts (by decide +kernel) hown hK hP (by decide) rfl rfl (by decide) (by decide +kernel) rfl rfl dX3_hasThird_76 ?_
                    refine lv_bipush (v := nI 8) hx hb dX3_hasThird_79 (by decide) ?_
                    refine lv_iload_n hx hb dX3_hasThird_81 rfl (lv_at hl 3 rfl) ?_
                    refine n_imul hx hb dX3_hasThird_82 ?_
                    refine lv_iload hx hb dX3_hasThird_83 (lv_at hl 4 rfl) ?_
                    refine n_iadd hx hb dX3_hasThird_85 ?_
                    refine g_iald (29) ((8 * x) + y) (t0 := _) hx hb hK hP (by decide) (gIX (S' := va_up S 32 (htF P Q F G (S 32) (2 ^ N))) (f := S 29) 29 128 rfl (by decide) rfl) hI (by omega) (by decide) dX3_hasThird_86 ?_
                    refine n_eq (show nI ((S 29) ((8 * x) + y)) = nI (P x y) from by rw [e1.1]) ?_
                    refine g_iald (32) (P x y) (t0 := _) hx hb hK hP (by decide) (gIX (S' := va_up S 32 (htF P Q F G (S 32) (2 ^ N))) 32 8 rfl (by decide) (by exact va_up_at _ _ _)) hI (by omega) (by decide) dX3_hasThird_87 ?_
                    refine n_eq (show nI ((htF P Q F G (S 32) (2 ^ N)) (P x y)) = nI (Q (F 1) (G (ivF (2 ^ N) P (P x y)))) from by rw [e5]) ?_
                    refine lv_aload_n hx hb dX3_hasThird_88 rfl (lv_at hl 0 rfl) ?_
                    refine g_get (25) 3 (C := RX3) (T := TX3) (N := 7) (ci := 2) (ref := "CubeWorldsModel") hx hb hts (by decide +kernel) hown hK hP (by decide) rfl rfl (by decide) (by decide +kernel) rfl rfl dX3_hasThird_89 ?_
                    refine lv_bipush (v := nI 64) hx hb dX3_hasThird_92 (by decide) ?_
                    refine lv_bipush (v := nI 8) hx hb dX3_hasThird_94 (by decide) ?_
                    refine lv_aload_n hx hb dX3_hasThird_96 rfl (lv_at hl 0 rfl) ?_
                    refine g_get (25) 4 (C := RX3) (T := TX3) (N := 7) (ci := 2) (ref := "CubeWorldsModel") hx hb hts (by decide +kernel) hown hK hP (by decide) rfl rfl (by decide) (by decide +kernel) rfl rfl dX3_hasThird_97 ?_
                    refine lv_iload_n hx hb dX3_hasThird_100 rfl (lv_at hl 3 rfl) ?_
                    refine g_iald (30) (x) (t0 := _) hx hb hK hP (by decide) (gIX (S' := va_up S 32 (htF P Q F G (S 32) (2 ^ N))) (f := S 30) 30 8 rfl (by decide) rfl) hI (by omega) (by decide) dX3_hasThird_101 ?_
                    refine n_eq (show nI ((S 30) (x)) = nI (F x) from by rw [e4.1]) ?_
                    refine n_imul hx hb dX3_hasThird_102 ?_
                    refine n_iadd hx hb dX3_hasThird_103 ?_
                    refine lv_aload_n hx hb dX3_hasThird_104 rfl (lv_at hl 0 rfl) ?_
                    refine g_get (25) 5 (C := RX3) (T := TX3) (N := 7) (ci := 2) (ref := "CubeWorldsModel") hx hb hts (by decide +kernel) hown hK hP (by decide) rfl rfl (by decide) (by decide +kernel) rfl rfl dX3_hasThird_105 ?_
                    refine lv_iload hx hb dX3_hasThird_108 (lv_at hl 4 rfl) ?_
                    refine g_iald (31) (y) (t0 := _) hx hb hK hP (by decide) (gIX (S' := va_up S 32 (htF P Q F G (S 32) (2 ^ N))) (f := S 31) 31 8 rfl (by decide) rfl) hI (by omega) (by decide) dX3_hasThird_110 ?_
                    refine n_eq (show nI ((S 31) (y)) = nI (G y) from by rw [e2.1]) ?_
                    refine n_iadd hx hb dX3_hasThird_111 ?_
                    refine g_iald (29) ((64 + (8 * (F x))) + (G y)) (t0 := _) hx hb hK hP (by decide) (gIX (S' := va_up S 32 (htF P Q F G (S 32) (2 ^ N))) (f := S 29) 29 128 rfl (by decide) rfl) hI (by omega) (by decide) dX3_hasThird_112 ?_
                    refine n_eq (show nI ((S 29) ((64 + (8 * (F x))) + (G y))) = nI (Q (F x) (G y)) from by rw [e3.1]) ?_
                    refine n_ceq (tgt := 118) hx hb dX3_hasThird_113 (by decide) (by omega) (by omega) (fun h_113 => ?_) (fun h_113 => ?_)
                    · refine n_iinc 4 1 (lv' := [(4, .int (nI (y + 1))), (0, .ref (ad (25))), (1, .int (nI (N))), (2, .int (nI (2 ^ N))), (3, .int (nI (x)))]) hx hb dX3_hasThird_118 hl rfl (by decide) rfl (fun ls hl => ?_)
                      refine n_goto 65 hx hb dX3_hasThird_121 (by decide) ?_
                      exact ih_65 (y + 1) (by omega) (by omega) (by omega) (ya_s hno2 (wq_y h_113)) _ _ hP hS _ (lv_sub hl [1, 2, 3, 4, 0] rfl)
                    · refine n_iconst 0 hx hb dX3_hasThird_116 ?_
                      exact g_zretW (false) hx hb hrt hlocks hK hP (pic_D _ hD) hS dX3_hasThird_117 rfl (by rw [show w3B N P Q F G = false from al_no (k := x) (by omega) (al_no (k := y) (by omega) (wq_n hx1 hy1 h_113))])
              exact L_65 (2 ^ N + 1) (1) (Nat.le_refl _) (by omega) (by omega) (fun q hq => by rw [show q = 0 by omega]; exact wq_0) _ _ hP hS _ (lv_sub hl [1, 2, 3, 4, 0] rfl)
        exact L_57 (2 ^ N + 1) (1) (Nat.le_refl _) (by omega) (by omega) (fun j hj => al_yes (fun y _ => by rw [show j = 0 by omega]; rfl)) _ _ hP hS _ (lv_sub hl [1, 2, 3, 0] rfl)
      · have e1 := hPt 1 p1 y h_8
        have e2 := hG y h_8
        have e3 := hQt (F 1) f1.2 (G y) e2.2
        refine lv_aload_n hx hb dX3_hasThird_11 rfl (lv_at hl 0 rfl) ?_
        refine g_get (25) 6 (C := RX3) (T := TX3) (N := 7) (ci := 2) (ref := "CubeWorldsModel") hx hb hts (by decide +kernel) hown hK hP (by decide) rfl rfl (by decide) (by decide +kernel) rfl rfl dX3_hasThird_12 ?_
        refine lv_aload_n hx hb dX3_hasThird_15 rfl (lv_at hl 0 rfl) ?_
        refine g_get (25) 3 (C := RX3) (T := TX3) (N := 7) (ci := 2) (ref := "CubeWorldsModel") hx hb hts (by decide +kernel) hown hK hP (by decide) rfl rfl (by decide) (by decide +kernel) rfl rfl dX3_hasThird_16 ?_
        refine lv_bipush (v := nI 8) hx hb dX3_hasThird_19 (by decide) ?_
        refine lv_iload_n hx hb dX3_hasThird_21 rfl (lv_at hl 3 rfl) ?_
        refine n_iadd hx hb dX3_hasThird_22 ?_
        refine g_iald (29) (8 + y) (t0 := _) hx hb hK hP (by decide) (gIX (S' := va_up S 32 (htF P Q F G (S 32) y)) (f := S 29) 29 128 rfl (by decide) rfl) hI (by omega) (by decide) dX3_hasThird_23 ?_
        refine n_eq (show nI ((S 29) (8 + y)) = nI (P 1 y) from by rw [← e1.1]) ?_
        refine lv_aload_n hx hb dX3_hasThird_24 rfl (lv_at hl 0 rfl) ?_
        refine g_get (25) 3 (C := RX3) (T := TX3) (N := 7) (ci := 2) (ref := "CubeWorldsModel") hx hb hts (by decide +kernel) hown hK hP (by decide) rfl rfl (by decide) (by decide +kernel) rfl rfl dX3_hasThird_25 ?_
        refine lv_bipush (v := nI 64) hx hb dX3_hasThird_28 (by decide) ?_
        refine lv_bipush (v := nI 8) hx hb dX3_hasThird_30 (by decide) ?_
        refine lv_aload_n hx hb dX3_hasThird_32 rfl (lv_at hl 0 rfl) ?_
        refine g_get (25) 4 (C := RX3) (T := TX3) (N := 7) (ci := 2) (ref := "CubeWorldsModel") hx hb hts (by decide +kernel) hown hK hP (by decide) rfl rfl (by decide) (by decide +kernel) rfl rfl dX3_hasThird_33 ?_
        refine n_iconst 1 hx hb dX3_hasThird_36 ?_
        refine g_iald (30) (1) (t0 := _) hx hb hK hP (by decide) (gIX (S' := va_up S 32 (htF P Q F G (S 32) y)) (f := S 30) 30 8 rfl (by decide) rfl) hI (by decide) (by decide) dX3_hasThird_37 ?_
        refine n_eq (show nI ((S 30) (1)) = nI (F 1) from by rw [f1.1]) ?_
        refine n_imul hx hb dX3_hasThird_38 ?_
        refine n_iadd hx hb dX3_hasThird_39 ?_
        refine lv_aload_n hx hb dX3_hasThird_40 rfl (lv_at hl 0 rfl) ?_
        refine g_get (25) 5 (C := RX3) (T := TX3) (N := 7) (ci := 2) (ref := "CubeWorldsModel") hx hb hts (by decide +kernel) hown hK hP (by decide) rfl rfl (by decide) (by decide +kernel) rfl rfl dX3_hasThird_41 ?_
        refine lv_iload_n hx hb dX3_hasThird_44 rfl (lv_at hl 3 rfl) ?_
        refine g_iald (31) (y) (t0 := _) hx hb hK hP (by decide) (gIX (S' := va_up S 32 (htF P Q F G (S 32) y)) (f := S 31) 31 8 rfl (by decide) rfl) hI (by omega) (by decide) dX3_hasThird_45 ?_
        refine n_eq (show nI ((S 31) (y)) = nI (G y) from by rw [e2.1]) ?_
        refine n_iadd hx hb dX3_hasThird_46 ?_
        refine g_iald (29) ((64 + (8 * (F 1))) + (G y)) (t0 := _) hx hb hK hP (by decide) (gIX (S' := va_up S 32 (htF P Q F G (S 32) y)) (f := S 29) 29 128 rfl (by decide) rfl) hI (by omega) (by decide) dX3_hasThird_47 ?_
        refine n_eq (show nI ((S 29) ((64 + (8 * (F 1))) + (G y))) = nI (Q (F 1) (G y)) from by rw [e3.1]) ?_
        refine g_iast (32) (P 1 y) (Q (F 1) (G y)) hx hb hK hP (pic_D _ hD) hS (by decide) (gIX (S' := va_up S 32 (htF P Q F G (S 32) y)) 32 8 rfl (by decide) (by exact va_up_at _ _ _)) hI (by omega) (by decide) dX3_hasThird_48 (fun H locs hP hS => ?_)
        rw [gE_upL 32 8 rfl (by decide), va_up_up] at hP
        have hP : va_P D vwCl (pic 33 ad (gE cI cW cM ad (va_up S 32 (htF P Q F G (S 32) (y + 1))))) H := hP
        refine n_iinc 3 1 (lv' := [(3, .int (nI (y + 1))), (0, .ref (ad (25))), (1, .int (nI (N))), (2, .int (nI (2 ^ N)))]) hx hb dX3_hasThird_49 hl rfl (by decide) rfl (fun ls hl => ?_)
        refine n_goto 6 hx hb dX3_hasThird_52 (by decide) ?_
        exact ih_6 (y + 1) (by omega) (by omega) _ _ hP hS _ (lv_sub hl [1, 2, 3, 0] rfl)
  exact L_6 (2 ^ N + 1) (0) (Nat.zero_le _) (by omega) _ _ hP hS _ (lv_sub hl [2, 3, 1, 0] rfl)
theorem wh_P {S : Nat → Nat → Nat} {n f g : Nat} {P Q : Nat → Nat → Nat} {F : Nat → Nat} {ca : Nat → Nat} (hn : n ≤ 3) (hca : CB n ca) : ∀ x, x < 2 ^ n → ∀ y, y < 2 ^ n → laS (wgS n (tm n ca) Q F (laS (wfS n P Q (wyS S n (tm n ca) Q) f) 30 f n) g) 31 g n 29 (8 * x + y) = tm n ca x y ∧ tm n ca x y < 2 ^ n := fun x hx y hy => by
  refine ⟨?_, tm_lt hca _ _⟩
  unfold laS
  rw [va_up_o (by decide), wgS_o (by decide) (by decide), va_up_o (by decide), wfS_o (by decide)]
  unfold wyS
  rw [va_up_at]
  exact tbF_P (p8 hn) hx hy
theorem wh_Q {S : Nat → Nat → Nat} {n n' f g : Nat} {P P' : Nat → Nat → Nat} {F : Nat → Nat} {cb : Nat → Nat} (hn : n ≤ 3) (hcb : CB n' cb) (hnn : n = n') : ∀ x, x < 2 ^ n → ∀ y, y < 2 ^ n → laS (wgS n P (tm n cb) F (laS (wfS n P' (tm n cb) (wyS S n P' (tm n cb)) f) 30 f n) g) 31 g n 29 (64 + 8 * x + y) = tm n cb x y ∧ tm n cb x y < 2 ^ n := fun x hx y hy => by
  subst hnn
  refine ⟨?_, tm_lt hcb _ _⟩
  unfold laS
  rw [va_up_o (by decide), wgS_o (by decide) (by decide), va_up_o (by decide), wfS_o (by decide)]
  unfold wyS
  rw [va_up_at]
  exact tbF_Q (p8 hn) hx hy
theorem wh_F {S : Nat → Nat → Nat} {n f g x : Nat} {P Q : Nat → Nat → Nat} {F : Nat → Nat} (hx : x < 2 ^ n) : laS (wgS n P Q F (laS S 30 f n) g) 31 g n 30 x = im (r3V f) x := by
  unfold laS
  rw [va_up_o (by decide), wgS_o (by decide) (by decide), va_up_at]
  exact lyF_at hx
theorem wh_G {S : Nat → Nat → Nat} {n g x : Nat} (hx : x < 2 ^ n) : laS S 31 g n 31 x = im (r3V g) x := by
  unfold laS
  rw [va_up_at]
  exact lyF_at hx
theorem cnt_bb {p : Nat → Bool} {g : Nat} {b : Bool} (h : p g = b) : cnt p (g + 1) = cnt p g + (if b then 1 else 0) := by rw [cnt_s, h]

set_option maxHeartbeats 4000000 in
set_option maxRecDepth 100000 in
theorem c_X3_ways (l : Launch) {D : va_G} {tys : List (ClassId × FieldType)} {A : Nat → Prop} {ad : Nat → Nat} {cI cW cM : ClassId} {tI : Nat} {S : Nat → Nat → Nat} (hI : tys[tI]? = some (cI, .int)) (hRF : RF S) {a b0 : Int32} : Met l yX3_ways wsX3_ways ({ frames := 2, cells := 0, slots := 0, locals := 49 } : Room) (va_Pc [.ref (ad (25)), .int (a), .int (b0)] (PW D tys A 33 ad (gE cI cW cM ad S))) (QW (some (.int (sR_ways (rN_ S) (rC S) a b0))) (PW D tys A 33 ad (gE cI cW cM ad (nR_ways S a b0))) A) 0 0 A := by
  refine g_writes (cc := cX3_ways) (maxL := 8) (ret := (some .int)) (by decide) rfl (Nat.le_of_ble_eq_true rfl) ?_
  intro p e s m args below meth c hx hb hrt hts hown hlocks hml hP hK hD hS ls hl
  show W p l e ({ frames := 2, cells := 0, slots := 0, locals := 49 } : Room) s m args below meth c s.heap [] 0 0 _ _
  have hl : lv_has ls 8 [(0, .ref (ad (25))), (1, .int (a)), (2, .int (b0))] := hl
  refine lv_iload_n hx hb dX3_ways_0 rfl (lv_at hl 1 rfl) ?_
  refine g_callS (As := [.int (a)]) (rest := []) (c_X3_isSlot l hI (v := a)) (va_cwS 1 hts gX3_ways_X3_isSlot rfl rfl rfl (by decide +kernel) ⟨Nat.le_of_ble_eq_true rfl, Nat.le_of_ble_eq_true rfl⟩) hx hb hml hown hts hK hP  rfl hl.1 rfl (Nat.le_of_ble_eq_true rfl) (Nat.zero_le _) (Nat.zero_le _) dX3_ways_1 ?_
  refine n_ifeq_b (tgt := 14) hx hb dX3_ways_4 (by decide) (fun h_4 => ?_) (fun h_4 => ?_)
  · refine lv_iconst (v := (-1)) hx hb dX3_ways_14 (by decide) ?_
    have hP : va_P D vwCl (pic 33 ad (gE cI cW cM ad (nR_ways S a b0))) s.heap := by rw [show nR_ways S a b0 = S from by unfold nR_ways; (try dsimp only [rN_]); rw [rg_n h_4]]; exact hP
    exact g_iretW hx hb hrt hlocks hK hP (pic_D _ hD) hS dX3_ways_15 (by unfold sR_ways; (try dsimp only [rN_]); rw [rg_n h_4])
  · obtain ⟨k, hk1, hk2, e9⟩ := rB_some (by omega) (by omega) h_4
    subst e9
    have hk5 : k < 5 := by omega
    have qk1 := (hRF.1 k (by omega)).1
    have h4k := qk1.2
    have hcbk := (hRF.1 k (by omega)).2
    have qk2 := pow4 h4k
    have qk3 : 0 < 2 ^ S 26 k := Nat.pow_pos (by decide)
    have qk4 := sq4 qk2
    refine lv_iload_n hx hb dX3_ways_7 rfl (lv_at hl 2 rfl) ?_
    refine g_callS (As := [.int (b0)]) (rest := []) (c_X3_isSlot l hI (v := b0)) (va_cwS 1 hts gX3_ways_X3_isSlot rfl rfl rfl (by decide +kernel) ⟨Nat.le_of_ble_eq_true rfl, Nat.le_of_ble_eq_true rfl⟩) hx hb hml hown hts hK hP  rfl hl.1 rfl (Nat.le_of_ble_eq_true rfl) (Nat.zero_le _) (Nat.zero_le _) dX3_ways_8 ?_
    refine n_ifne_b (tgt := 16) hx hb dX3_ways_11 (by decide) (fun h_11 => ?_) (fun h_11 => ?_)
    · obtain ⟨u, hu1, hu2, e9⟩ := rB_some (by omega) (by omega) h_11
      subst e9
      have hu5 : u < 5 := by omega
      have qu1 := (hRF.1 u (by omega)).1
      have h4u := qu1.2
      have hcbu := (hRF.1 u (by omega)).2
      have qu2 := pow4 h4u
      have qu3 : 0 < 2 ^ S 26 u := Nat.pow_pos (by decide)
      have qu4 := sq4 qu2
      refine lv_aload_n hx hb dX3_ways_16 rfl (lv_at hl 0 rfl) ?_
      refine g_get (25) 0 (C := RX3) (T := TX3) (N := 7) (ci := 2) (ref := "CubeWorldsModel") hx hb hts (by decide +kernel) hown hK hP (by decide) rfl rfl (by decide) (by decide +kernel) rfl rfl dX3_ways_17 ?_
      refine lv_iload_n hx hb dX3_ways_20 rfl (lv_at hl 1 rfl) ?_
      refine g_iald (26) (k) (t0 := _) hx hb hK hP (by decide) (gIX (S' := S) (f := S 26) 26 5 rfl (by decide) rfl) hI (by omega) (by decide) dX3_ways_21 ?_
      refine lv_aload_n hx hb dX3_ways_22 rfl (lv_at hl 0 rfl) ?_
      refine g_get (25) 0 (C := RX3) (T := TX3) (N := 7) (ci := 2) (ref := "CubeWorldsModel") hx hb hts (by decide +kernel) hown hK hP (by decide) rfl rfl (by decide) (by decide +kernel) rfl rfl dX3_ways_23 ?_
      refine lv_iload_n hx hb dX3_ways_26 rfl (lv_at hl 2 rfl) ?_
      refine g_iald (26) (u) (t0 := _) hx hb hK hP (by decide) (gIX (S' := S) (f := S 26) 26 5 rfl (by decide) rfl) hI (by omega) (by decide) dX3_ways_27 ?_
      refine n_cne (tgt := 61) hx hb dX3_ways_28 (by decide) (by omega) (by omega) (fun h_28 => ?_) (fun h_28 => ?_)
      · refine lv_bipush (v := (-3)) hx hb dX3_ways_61 (by decide) ?_
        have hP : va_P D vwCl (pic 33 ad (gE cI cW cM ad (nR_ways S ((nI k)) ((nI u))))) s.heap := by rw [show nR_ways S ((nI k)) ((nI u)) = S from by unfold nR_ways; (try dsimp only [rN_]); rw [rg_y (by omega) (by omega) (by omega), rg_y (by omega) (by omega) (by omega), if_pos (Or.inl h_28)]]; exact hP
        exact g_iretW hx hb hrt hlocks hK hP (pic_D _ hD) hS dX3_ways_63 (by unfold sR_ways; (try dsimp only [rN_]); rw [rg_y (by omega) (by omega) (by omega), rg_y (by omega) (by omega) (by omega), if_pos (Or.inl h_28)])
      · refine lv_aload_n hx hb dX3_ways_31 rfl (lv_at hl 0 rfl) ?_
        refine g_get (25) 0 (C := RX3) (T := TX3) (N := 7) (ci := 2) (ref := "CubeWorldsModel") hx hb hts (by decide +kernel) hown hK hP (by decide) rfl rfl (by decide) (by decide +kernel) rfl rfl dX3_ways_32 ?_
        refine lv_iload_n hx hb dX3_ways_35 rfl (lv_at hl 1 rfl) ?_
        refine g_iald (26) (k) (t0 := _) hx hb hK hP (by decide) (gIX (S' := S) (f := S 26) 26 5 rfl (by decide) rfl) hI (by omega) (by decide) dX3_ways_36 ?_
        refine n_iconst 4 hx hb dX3_ways_37 ?_
        refine n_ceq (tgt := 61) hx hb dX3_ways_38 (by decide) (by omega) (by omega) (fun h_38 => ?_) (fun h_38 => ?_)
        · refine lv_bipush (v := (-3)) hx hb dX3_ways_61 (by decide) ?_
          have hP : va_P D vwCl (pic 33 ad (gE cI cW cM ad (nR_ways S ((nI k)) ((nI u))))) s.heap := by rw [show nR_ways S ((nI k)) ((nI u)) = S from by unfold nR_ways; (try dsimp only [rN_]); rw [rg_y (by omega) (by omega) (by omega), rg_y (by omega) (by omega) (by omega), if_pos (Or.inr (by omega))]]; exact hP
          exact g_iretW hx hb hrt hlocks hK hP (pic_D _ hD) hS dX3_ways_63 (by unfold sR_ways; (try dsimp only [rN_]); rw [rg_y (by omega) (by omega) (by omega), rg_y (by omega) (by omega) (by omega), if_pos (Or.inr (by omega))])
        · refine lv_aload_n hx hb dX3_ways_41 rfl (lv_at hl 0 rfl) ?_
          refine lv_iload_n hx hb dX3_ways_42 rfl (lv_at hl 1 rfl) ?_
          refine g_callV (25) (C := RX3) (T := TX3) (N := 7) (ci := 2) (As := [.int (nI (k))]) (rest := []) (c_X3_firstBroken l hI (k := k) hk5 h4k hcbk) (cwV 1 hts gX3_ways_X3_firstBroken rfl rfl rfl (by decide +kernel) ⟨Nat.le_of_ble_eq_true rfl, Nat.le_of_ble_eq_true rfl⟩) hx hb hml hown hts hK hP  (by decide) rfl rfl rfl hl.1 rfl (Nat.le_of_ble_eq_true rfl) (Nat.zero_le _) (Nat.zero_le _) dX3_ways_43 ?_
          refine lv_bipush (v := (-9)) hx hb dX3_ways_46 (by decide) ?_
          refine n_cne_o (tgt := 61) hx hb dX3_ways_48 (by decide) (fun q hq => by have := fbO_b qk2 hq; omega) (fun h_48 => ?_) (fun h_48 => ?_)
          · refine lv_bipush (v := (-3)) hx hb dX3_ways_61 (by decide) ?_
            have hP : va_P D vwCl (pic 33 ad (gE cI cW cM ad (nR_ways S ((nI k)) ((nI u))))) s.heap := by rw [show nR_ways S ((nI k)) ((nI u)) = S from by unfold nR_ways; (try dsimp only [rN_]); rw [rg_y (by omega) (by omega) (by omega), rg_y (by omega) (by omega) (by omega), if_neg (fun z => z.elim (fun w => w h_28) (fun w => by omega)), if_pos (iN (fun z => h_48 (fbO_n.mpr z)))]]; exact hP
            exact g_iretW hx hb hrt hlocks hK hP (pic_D _ hD) hS dX3_ways_63 (by unfold sR_ways; (try dsimp only [rN_]); rw [rg_y (by omega) (by omega) (by omega), rg_y (by omega) (by omega) (by omega), if_neg (fun z => z.elim (fun w => w h_28) (fun w => by omega)), if_pos (iN (fun z => h_48 (fbO_n.mpr z)))])
          · refine lv_aload_n hx hb dX3_ways_51 rfl (lv_at hl 0 rfl) ?_
            refine lv_iload_n hx hb dX3_ways_52 rfl (lv_at hl 2 rfl) ?_
            refine g_callV (25) (C := RX3) (T := TX3) (N := 7) (ci := 2) (As := [.int (nI (u))]) (rest := []) (c_X3_firstBroken l hI (k := u) hu5 h4u hcbu) (cwV 1 hts gX3_ways_X3_firstBroken rfl rfl rfl (by decide +kernel) ⟨Nat.le_of_ble_eq_true rfl, Nat.le_of_ble_eq_true rfl⟩) hx hb hml hown hts hK hP  (by decide) rfl rfl rfl hl.1 rfl (Nat.le_of_ble_eq_true rfl) (Nat.zero_le _) (Nat.zero_le _) dX3_ways_53 ?_
            refine lv_bipush (v := (-9)) hx hb dX3_ways_56 (by decide) ?_
            refine n_ceq_o (tgt := 64) hx hb dX3_ways_58 (by decide) (fun q hq => by have := fbO_b qu2 hq; omega) (fun h_58 => ?_) (fun h_58 => ?_)
            · have n3 : S 26 k ≤ 3 := by omega
              have p8k := p8 n3
              have hda := fbO_n.mp h_48
              have hdb : lbr (S 26 k) (rC S u) = none := by rw [h_28]; exact fbO_n.mp h_58
              have p1 : 1 < 2 ^ S 26 k := Nat.lt_of_lt_of_le (by decide : 1 < 2 ^ 1) (pw2 qk1.1)
              have hi9 : ∀ i j, i < j → j < 2 ^ S 26 k → tm (S 26 k) (rC S k) 1 i ≠ tm (S 26 k) (rC S k) 1 j := fun i j hij hj e => absurd (div_r hda (by decide) p1 (Nat.lt_trans hij hj) hj e) (by omega)
              have m9 : 2 ^ (3 * S 26 k) ≤ 512 := pw2 (b := 9) (by omega)
              have m0 : 0 < 2 ^ (3 * S 26 k) := Nat.pow_pos (by decide)
              refine lv_aload_n hx hb dX3_ways_64 rfl (lv_at hl 0 rfl) ?_
              refine g_get (25) 0 (C := RX3) (T := TX3) (N := 7) (ci := 2) (ref := "CubeWorldsModel") hx hb hts (by decide +kernel) hown hK hP (by decide) rfl rfl (by decide) (by decide +kernel) rfl rfl dX3_ways_65 ?_
              refine lv_iload_n hx hb dX3_ways_68 rfl (lv_at hl 1 rfl) ?_
              refine g_iald (26) (k) (t0 := _) hx hb hK hP (by decide) (gIX (S' := S) (f := S 26) 26 5 rfl (by decide) rfl) hI (by omega) (by decide) dX3_ways_69 ?_
              refine lv_istore_n (lv' := [(3, .int (nI ((S 26) (k)))), (0, .ref (ad (25))), (1, .int (nI (k))), (2, .int (nI (u)))]) hx hb dX3_ways_70 rfl hl (by decide) rfl (fun ls hl => ?_)
              have hP : va_P D vwCl (pic 33 ad (gE cI cW cM ad (va_up S 29 (tbF (2 ^ S 26 k) (tm (S 26 k) (rC S k)) (tm (S 26 k) (rC S u)) (S 29) 0 0)))) s.heap := by rw [tbF_00, va_up_same rfl]; exact hP
              refine n_iconst 0 hx hb dX3_ways_71 ?_
              refine lv_istore (lv' := [(4, .int (nI (0))), (3, .int (nI ((S 26) (k)))), (0, .ref (ad (25))), (1, .int (nI (k))), (2, .int (nI (u)))]) hx hb dX3_ways_72 hl (by decide) rfl (fun ls hl => ?_)
              have L_74 : ∀ (r : Nat) (x : Nat), (x ≤ 2 ^ S 26 k) → (2 ^ S 26 k < x + r) → ∀ (H : Heap) (locs : List Loc), va_P D vwCl (pic 33 ad (gE cI cW cM ad (va_up S 29 (tbF (2 ^ S 26 k) (tm (S 26 k) (rC S k)) (tm (S 26 k) (rC S u)) (S 29) x 0)))) H → va_S A s.heap H locs → ∀ (ls : Array Slot), lv_has ls 8 [(0, .ref (ad (25))), (1, .int (nI (k))), (2, .int (nI (u))), (3, .int (nI (S 26 k))), (4, .int (nI (x)))] → W p l e ({ frames := 2, cells := 0, slots := 0, locals := 49 } : Room) s m args below meth c H locs 0 0 (MQ below (QW (some (.int (sR_ways (rN_ S) (rC S) ((nI k)) ((nI u))))) (PW D tys A 33 ad (gE cI cW cM ad (nR_ways S ((nI k)) ((nI u))))) A) args s 0 0 A) (F0 m 74 ls []) := by
                intro r
                induction r with
                | zero => intro x hx9 hr; intros; exact absurd hr (by omega)
                | succ r ih =>
                  intro x hx9 hr H locs hP hS ls hl
                  have ih_74 := ih
                  refine lv_iload hx hb dX3_ways_74 (lv_at hl 4 rfl) ?_
                  refine n_iconst 1 hx hb dX3_ways_76 ?_
                  refine lv_iload_n hx hb dX3_ways_77 rfl (lv_at hl 3 rfl) ?_
                  refine n_ishl hx hb dX3_ways_78 (by omega) ?_
                  refine n_eq (show nI (1 <<< (S 26 k)) = nI (2 ^ S 26 k) from by rw [shl1]) ?_
                  refine n_ge (tgt := 152) hx hb dX3_ways_79 (by decide) (by omega) (by omega) (fun h_79 => ?_) (fun h_79 => ?_)
                  · rw [show x = 2 ^ S 26 k by omega] at hP
                    have hP : va_P D vwCl (pic 33 ad (gE cI cW cM ad (wfS (S 26 k) (tm (S 26 k) (rC S k)) (tm (S 26 k) (rC S u)) (wyS S (S 26 k) (tm (S 26 k) (rC S k)) (tm (S 26 k) (rC S u))) 0))) H := hP
                    refine n_iconst 0 hx hb dX3_ways_152 ?_
                    refine lv_istore (lv' := [(4, .int (nI (0))), (0, .ref (ad (25))), (1, .int (nI (k))), (2, .int (nI (u))), (3, .int (nI (S 26 k)))]) hx hb dX3_ways_153 hl (by decide) rfl (fun ls hl => ?_)
                    refine n_iconst 0 hx hb dX3_ways_155 ?_
                    refine lv_istore (lv' := [(5, .int (nI (0))), (4, .int (nI (0))), (0, .ref (ad (25))), (1, .int (nI (k))), (2, .int (nI (u))), (3, .int (nI (S 26 k)))]) hx hb dX3_ways_156 hl (by decide) rfl (fun ls hl => ?_)
                    have L_158 : ∀ (r : Nat) (acc : Nat) (f : Nat), (f ≤ 2 ^ (3 * S 26 k)) → (2 ^ (3 * S 26 k) < f + r) → (acc = sm (wyG (S 26 k) (tm (S 26 k) (rC S k)) (tm (S 26 k) (rC S u))) f) → ∀ (H : Heap) (locs : List Loc), va_P D vwCl (pic 33 ad (gE cI cW cM ad (wfS (S 26 k) (tm (S 26 k) (rC S k)) (tm (S 26 k) (rC S u)) (wyS S (S 26 k) (tm (S 26 k) (rC S k)) (tm (S 26 k) (rC S u))) f))) H → va_S A s.heap H locs → ∀ (ls : Array Slot), lv_has ls 8 [(0, .ref (ad (25))), (1, .int (nI (k))), (2, .int (nI (u))), (3, .int (nI (S 26 k))), (4, .int (nI (acc))), (5, .int (nI (f)))] → W p l e ({ frames := 2, cells := 0, slots := 0, locals := 49 } : Room) s m args below meth c H locs 0 0 (MQ below (QW (some (.int (sR_ways (rN_ S) (rC S) ((nI k)) ((nI u))))) (PW D tys A 33 ad (gE cI cW cM ad (nR_ways S ((nI k)) ((nI u))))) A) args s 0 0 A) (F0 m 158 ls []) := by
                      intro r
                      induction r with
                      | zero => intro acc f hf9 hr3 ha; intros; exact absurd hr3 (by omega)
                      | succ r ih =>
                        intro acc f hf9 hr3 ha H locs hP hS ls hl
                        have ih_158 := ih
                        refine lv_iload hx hb dX3_ways_158 (lv_at hl 5 rfl) ?_
                        refine n_iconst 1 hx hb dX3_ways_160 ?_
                        refine n_iconst 3 hx hb dX3_ways_161 ?_
                        refine lv_iload_n hx hb dX3_ways_162 rfl (lv_at hl 3 rfl) ?_
                        refine n_imul hx hb dX3_ways_163 ?_
                        refine n_ishl hx hb dX3_ways_164 (by omega) ?_
                        refine n_eq (show nI (1 <<< (3 * (S 26 k))) = nI (2 ^ (3 * S 26 k)) from by rw [shl1]) ?_
                        refine n_ge (tgt := 241) hx hb dX3_ways_165 (by decide) (by omega) (by omega) (fun h_165 => ?_) (fun h_165 => ?_)
                        · rw [show f = 2 ^ (3 * S 26 k) by omega] at hP
                          refine lv_iload hx hb dX3_ways_241 (lv_at hl 4 rfl) ?_
                          have hP : va_P D vwCl (pic 33 ad (gE cI cW cM ad (nR_ways S ((nI k)) ((nI u))))) H := by rw [show nR_ways S ((nI k)) ((nI u)) = wfS (S 26 k) (tm (S 26 k) (rC S k)) (tm (S 26 k) (rC S u)) (wyS S (S 26 k) (tm (S 26 k) (rC S k)) (tm (S 26 k) (rC S u))) (2 ^ (3 * S 26 k)) from by unfold nR_ways; (try dsimp only [rN_]); rw [rg_y (by omega) (by omega) (by omega), rg_y (by omega) (by omega) (by omega), if_neg (fun z => z.elim (fun w => w h_28) (fun w => by omega)), if_neg (by rw [isN_1 (fbO_n.mp h_48)]; decide), if_neg (by rw [isN_1 (fbO_n.mp h_58)]; decide)]]; exact hP
                          exact g_iretW hx hb hrt hlocks hK hP (pic_D _ hD) hS dX3_ways_243 (by unfold sR_ways; (try dsimp only [rN_]); rw [rg_y (by omega) (by omega) (by omega), rg_y (by omega) (by omega) (by omega), if_neg (fun z => z.elim (fun w => w h_28) (fun w => by omega)), if_neg (by rw [isN_1 (fbO_n.mp h_48)]; decide), if_neg (by rw [isN_1 (fbO_n.mp h_58)]; decide), ha, show f = 2 ^ (3 * S 26 k) by omega]; rfl)
                        · refine lv_aload_n hx hb dX3_ways_168 rfl (lv_at hl 0 rfl) ?_
                          refine g_get (25) 4 (C := RX3) (T := TX3) (N := 7) (ci := 2) (ref := "CubeWorldsModel") hx hb hts (by decide +kernel) hown hK hP (by decide) rfl rfl (by decide) (by decide +kernel) rfl rfl dX3_ways_169 ?_
                          refine lv_iload hx hb dX3_ways_172 (lv_at hl 5 rfl) ?_
                          refine lv_iload_n hx hb dX3_ways_174 rfl (lv_at hl 3 rfl) ?_
                          refine g_callSW (As := [.ref (ad (30)), .int (nI (f)), .int (nI (S 26 k))]) (rest := []) (c_X3_lay30 l hI (S := wfS (S 26 k) (tm (S 26 k) (rC S k)) (tm (S 26 k) (rC S u)) (wyS S (S 26 k) (tm (S 26 k) (rC S k)) (tm (S 26 k) (rC S u))) f) (d := f) (n := S 26 k) (by omega) (by omega)) (va_cwS 3 hts gX3_ways_X3_lay rfl rfl rfl (by decide +kernel) ⟨Nat.le_of_ble_eq_true rfl, Nat.le_of_ble_eq_true rfl⟩) hx hb hml hown hts hK hP (pic_D _ hD) hS  rfl hl.1 rfl (Nat.le_of_ble_eq_true rfl) (Nat.zero_le _) (Nat.zero_le _) dX3_ways_175 (fun H locs hP hS => ?_)
                          refine lv_istore (lv' := [(6, .int (bI (fitB (r3V f) (S 26 k)))), (0, .ref (ad (25))), (1, .int (nI (k))), (2, .int (nI (u))), (3, .int (nI (S 26 k))), (4, .int (nI (acc))), (5, .int (nI (f)))]) hx hb dX3_ways_178 hl (by decide) rfl (fun ls hl => ?_)
                          refine n_iconst 0 hx hb dX3_ways_180 ?_
                          refine lv_istore (lv' := [(7, .int (nI (0))), (6, .int (bI (fitB (r3V f) (S 26 k)))), (0, .ref (ad (25))), (1, .int (nI (k))), (2, .int (nI (u))), (3, .int (nI (S 26 k))), (4, .int (nI (acc))), (5, .int (nI (f)))]) hx hb dX3_ways_181 hl (by decide) rfl (fun ls hl => ?_)
                          have L_183 : ∀ (r : Nat) (acc2 : Nat) (g : Nat), (g ≤ 2 ^ (3 * S 26 k)) → (2 ^ (3 * S 26 k) < g + r) → (acc2 = sm (wyG (S 26 k) (tm (S 26 k) (rC S k)) (tm (S 26 k) (rC S u))) f + cnt (fun g => fitB (r3V g) (S 26 k) && w3B (S 26 k) (tm (S 26 k) (rC S k)) (tm (S 26 k) (rC S u)) (im (r3V f)) (im (r3V g))) g) → (fitB (r3V f) (S 26 k) = true ∨ g = 0) → ∀ (H : Heap) (locs : List Loc), va_P D vwCl (pic 33 ad (gE cI cW cM ad (wgS (S 26 k) (tm (S 26 k) (rC S k)) (tm (S 26 k) (rC S u)) (im (r3V f)) (laS (wfS (S 26 k) (tm (S 26 k) (rC S k)) (tm (S 26 k) (rC S u)) (wyS S (S 26 k) (tm (S 26 k) (rC S k)) (tm (S 26 k) (rC S u))) f) 30 f (S 26 k)) g))) H → va_S A s.heap H locs → ∀ (ls : Array Slot), lv_has ls 8 [(0, .ref (ad (25))), (1, .int (nI (k))), (2, .int (nI (u))), (3, .int (nI (S 26 k))), (4, .int (nI (acc2))), (5, .int (nI (f))), (6, .int (bI (fitB (r3V f) (S 26 k)))), (7, .int (nI (g)))] → W p l e ({ frames := 2, cells := 0, slots := 0, locals := 49 } : Room) s m args below meth c H locs 0 0 (MQ below (QW (some (.int (sR_ways (rN_ S) (rC S) ((nI k)) ((nI u))))) (PW D tys A 33 ad (gE cI cW cM ad (nR_ways S ((nI k)) ((nI u))))) A) args s 0 0 A) (F0 m 183 ls []) := by
                            intro r
                            induction r with
                            | zero => intro acc2 g hg9 hr4 ha2 hfg; intros; exact absurd hr4 (by omega)
                            | succ r ih =>
                              intro acc2 g hg9 hr4 ha2 hfg H locs hP hS ls hl
                              have ih_183 := ih
                              refine lv_iload hx hb dX3_ways_183 (lv_at hl 7 rfl) ?_
                              refine n_iconst 1 hx hb dX3_ways_185 ?_
                              refine n_iconst 3 hx hb dX3_ways_186 ?_
                              refine lv_iload_n hx hb dX3_ways_187 rfl (lv_at hl 3 rfl) ?_
                              refine n_imul hx hb dX3_ways_188 ?_
                              refine n_ishl hx hb dX3_ways_189 (by omega) ?_
                              refine n_eq (show nI (1 <<< (3 * (S 26 k))) = nI (2 ^ (3 * S 26 k)) from by rw [shl1]) ?_
                              refine n_ge (tgt := 235) hx hb dX3_ways_190 (by decide) (by omega) (by omega) (fun h_190 => ?_) (fun h_190 => ?_)
                              · have hff : fitB (r3V f) (S 26 k) = true := hfg.elim id (fun z => by omega)
                                have hP : va_P D vwCl (pic 33 ad (gE cI cW cM ad (wfS (S 26 k) (tm (S 26 k) (rC S k)) (tm (S 26 k) (rC S u)) (wyS S (S 26 k) (tm (S 26 k) (rC S k)) (tm (S 26 k) (rC S u))) (f + 1)))) H := by rw [wfS_y hff, ← show g = 2 ^ (3 * S 26 k) by omega]; exact hP
                                have hm3 : acc2 = sm (wyG (S 26 k) (tm (S 26 k) (rC S k)) (tm (S 26 k) (rC S u))) (f + 1) := by rw [sm_s, show wyG (S 26 k) (tm (S 26 k) (rC S k)) (tm (S 26 k) (rC S u)) f = cnt (fun g => fitB (r3V g) (S 26 k) && w3B (S 26 k) (tm (S 26 k) (rC S k)) (tm (S 26 k) (rC S u)) (im (r3V f)) (im (r3V g))) (2 ^ (3 * S 26 k)) from if_pos hff, ← show g = 2 ^ (3 * S 26 k) by omega]; exact ha2
                                refine n_iinc 5 1 (lv' := [(5, .int (nI (f + 1))), (0, .ref (ad (25))), (1, .int (nI (k))), (2, .int (nI (u))), (3, .int (nI (S 26 k))), (4, .int (nI (acc2))), (6, .int (bI (fitB (r3V f) (S 26 k)))), (7, .int (nI (g)))]) hx hb dX3_ways_235 hl rfl (by decide) rfl (fun ls hl => ?_)
                                refine n_goto 158 hx hb dX3_ways_238 (by decide) ?_
                                exact ih_158 (acc2) (f + 1) (by omega) (by omega) hm3 _ _ hP hS _ (lv_sub hl [1, 2, 3, 4, 5, 0] rfl)
                              · refine lv_iload hx hb dX3_ways_193 (lv_at hl 6 rfl) ?_
                                refine n_ifeq_b (tgt := 235) hx hb dX3_ways_195 (by decide) (fun h_195 => ?_) (fun h_195 => ?_)
                                · have hg0 : g = 0 := hfg.elim (fun z => by rw [h_195] at z; cases z) id
                                  subst hg0
                                  have hP : va_P D vwCl (pic 33 ad (gE cI cW cM ad (wfS (S 26 k) (tm (S 26 k) (rC S k)) (tm (S 26 k) (rC S u)) (wyS S (S 26 k) (tm (S 26 k) (rC S k)) (tm (S 26 k) (rC S u))) (f + 1)))) H := by rw [wfS_n h_195]; exact hP
                                  have hm3 : acc2 = sm (wyG (S 26 k) (tm (S 26 k) (rC S k)) (tm (S 26 k) (rC S u))) (f + 1) := by rw [sm_s, show wyG (S 26 k) (tm (S 26 k) (rC S k)) (tm (S 26 k) (rC S u)) f = 0 from if_neg (by rw [h_195]; decide)]; exact ha2
                                  refine n_iinc 5 1 (lv' := [(5, .int (nI (f + 1))), (0, .ref (ad (25))), (1, .int (nI (k))), (2, .int (nI (u))), (3, .int (nI (S 26 k))), (4, .int (nI (acc2))), (6, .int (bI (fitB (r3V f) (S 26 k)))), (7, .int (nI (0)))]) hx hb dX3_ways_235 hl rfl (by decide) rfl (fun ls hl => ?_)
                                  refine n_goto 158 hx hb dX3_ways_238 (by decide) ?_
                                  exact ih_158 (acc2) (f + 1) (by omega) (by omega) hm3 _ _ hP hS _ (lv_sub hl [1, 2, 3, 4, 5, 0] rfl)
                                · have hff : fitB (r3V f) (S 26 k) = true := h_195
                                  refine lv_iload hx hb dX3_ways_198 (lv_at hl 4 rfl) ?_
                                  refine lv_aload_n hx hb dX3_ways_200 rfl (lv_at hl 0 rfl) ?_
                                  refine g_get (25) 5 (C := RX3) (T := TX3) (N := 7) (ci := 2) (ref := "CubeWorldsModel") hx hb hts (by decide +kernel) hown hK hP (by decide) rfl rfl (by decide) (by decide +kernel) rfl rfl dX3_ways_201 ?_
                                  refine lv_iload hx hb dX3_ways_204 (lv_at hl 7 rfl) ?_
                                  refine lv_iload_n hx hb dX3_ways_206 rfl (lv_at hl 3 rfl) ?_
                                  refine g_callSW (As := [.ref (ad (31)), .int (nI (g)), .int (nI (S 26 k))]) (rest := [.int (nI (acc2))]) (c_X3_lay31 l hI (S := wgS (S 26 k) (tm (S 26 k) (rC S k)) (tm (S 26 k) (rC S u)) (im (r3V f)) (laS (wfS (S 26 k) (tm (S 26 k) (rC S k)) (tm (S 26 k) (rC S u)) (wyS S (S 26 k) (tm (S 26 k) (rC S k)) (tm (S 26 k) (rC S u))) f) 30 f (S 26 k)) g) (d := g) (n := S 26 k) (by omega) (by omega)) (va_cwS 3 hts gX3_ways_X3_lay rfl rfl rfl (by decide +kernel) ⟨Nat.le_of_ble_eq_true rfl, Nat.le_of_ble_eq_true rfl⟩) hx hb hml hown hts hK hP (pic_D _ hD) hS  rfl hl.1 rfl (Nat.le_of_ble_eq_true rfl) (Nat.zero_le _) (Nat.zero_le _) dX3_ways_207 (fun H locs hP hS => ?_)
                                  refine n_ifeq_b (tgt := 225) hx hb dX3_ways_210 (by decide) (fun h_210 => ?_) (fun h_210 => ?_)
                                  · refine n_iconst 0 hx hb dX3_ways_225 ?_
                                    refine n_iadd hx hb dX3_ways_226 ?_
                                    refine lv_istore (lv' := [(4, .int (nI (acc2 + 0))), (0, .ref (ad (25))), (1, .int (nI (k))), (2, .int (nI (u))), (3, .int (nI (S 26 k))), (5, .int (nI (f))), (6, .int (bI (fitB (r3V f) (S 26 k)))), (7, .int (nI (g)))]) hx hb dX3_ways_227 hl (by decide) rfl (fun ls hl => ?_)
                                    have hP : va_P D vwCl (pic 33 ad (gE cI cW cM ad (wgS (S 26 k) (tm (S 26 k) (rC S k)) (tm (S 26 k) (rC S u)) (im (r3V f)) (laS (wfS (S 26 k) (tm (S 26 k) (rC S k)) (tm (S 26 k) (rC S u)) (wyS S (S 26 k) (tm (S 26 k) (rC S k)) (tm (S 26 k) (rC S u))) f) 30 f (S 26 k)) (g + 1)))) H := by rw [wgS_n h_210]; exact hP
                                    refine n_iinc 7 1 (lv' := [(7, .int (nI (g + 1))), (4, .int (nI (acc2 + 0))), (0, .ref (ad (25))), (1, .int (nI (k))), (2, .int (nI (u))), (3, .int (nI (S 26 k))), (5, .int (nI (f))), (6, .int (bI (fitB (r3V f) (S 26 k))))]) hx hb dX3_ways_229 hl rfl (by decide) rfl (fun ls hl => ?_)
                                    refine n_goto 183 hx hb dX3_ways_232 (by decide) ?_
                                    exact ih_183 (acc2 + 0) (g + 1) (by omega) (by omega) (by rw [ha2, cnt_bb (p := (fun g => fitB (r3V g) (S 26 k) && w3B (S 26 k) (tm (S 26 k) (rC S k)) (tm (S 26 k) (rC S u)) (im (r3V f)) (im (r3V g)))) (show (_ && _) = false from by rw [h_210]; rfl)]; rfl) (Or.inl hff) _ _ hP hS _ (lv_sub hl [2, 3, 4, 5, 1, 6, 7, 0] rfl)
                                  · refine lv_aload_n hx hb dX3_ways_213 rfl (lv_at hl 0 rfl) ?_
                                    refine lv_iload_n hx hb dX3_ways_214 rfl (lv_at hl 3 rfl) ?_
                                    refine g_callVW (25) (C := RX3) (T := TX3) (N := 7) (ci := 2) (As := [.int (nI (S 26 k))]) (rest := [.int (nI (acc2))]) (c_X3_hasThird l hI (S := laS (wgS (S 26 k) (tm (S 26 k) (rC S k)) (tm (S 26 k) (rC S u)) (im (r3V f)) (laS (wfS (S 26 k) (tm (S 26 k) (rC S k)) (tm (S 26 k) (rC S u)) (wyS S (S 26 k) (tm (S 26 k) (rC S k)) (tm (S 26 k) (rC S u))) f) 30 f (S 26 k)) g) 31 g (S 26 k)) (P := (tm (S 26 k) (rC S k))) (Q := (tm (S 26 k) (rC S u))) (F := im (r3V f)) (G := im (r3V g)) (N := S 26 k) (by omega) (by omega) (wh_P (by omega) hcbk) (wh_Q (by omega) hcbu h_28) (fun x hx => ⟨wh_F hx, fit_lt hff hx⟩) (fun x hx => ⟨wh_G hx, fit_lt h_210 hx⟩) hi9) (cwV 1 hts gX3_ways_X3_hasThird rfl rfl rfl (by decide +kernel) ⟨Nat.le_of_ble_eq_true rfl, Nat.le_of_ble_eq_true rfl⟩) hx hb hml hown hts hK hP (pic_D _ hD) hS  (by decide) rfl rfl rfl hl.1 rfl (Nat.le_of_ble_eq_true rfl) (Nat.zero_le _) (Nat.zero_le _) dX3_ways_215 (fun H locs hP hS => ?_)
                                    refine n_ifeq_b (tgt := 225) hx hb dX3_ways_218 (by decide) (fun h_218 => ?_) (fun h_218 => ?_)
                                    · refine n_iconst 0 hx hb dX3_ways_225 ?_
                                      refine n_iadd hx hb dX3_ways_226 ?_
                                      refine lv_istore (lv' := [(4, .int (nI (acc2 + 0))), (0, .ref (ad (25))), (1, .int (nI (k))), (2, .int (nI (u))), (3, .int (nI (S 26 k))), (5, .int (nI (f))), (6, .int (bI (fitB (r3V f) (S 26 k)))), (7, .int (nI (g)))]) hx hb dX3_ways_227 hl (by decide) rfl (fun ls hl => ?_)
                                      have hP : va_P D vwCl (pic 33 ad (gE cI cW cM ad (wgS (S 26 k) (tm (S 26 k) (rC S k)) (tm (S 26 k) (rC S u)) (im (r3V f)) (laS (wfS (S 26 k) (tm (S 26 k) (rC S k)) (tm (S 26 k) (rC S u)) (wyS S (S 26 k) (tm (S 26 k) (rC S k)) (tm (S 26 k) (rC S u))) f) 30 f (S 26 k)) (g + 1)))) H := by rw [wgS_y h_210]; exact hP
                                      refine n_iinc 7 1 (lv' := [(7, .int (nI (g + 1))), (4, .int (nI (acc2 + 0))), (0, .ref (ad (25))), (1, .int (nI (k))), (2, .int (nI (u))), (3, .int (nI (S 26 k))), (5, .int (nI (f))), (6, .int (bI (fitB (r3V f) (S 26 k))))]) hx hb dX3_ways_229 hl rfl (by decide) rfl (fun ls hl => ?_)
                                      refine n_goto 183 hx hb dX3_ways_232 (by decide) ?_
                                      exact ih_183 (acc2 + 0) (g + 1) (by omega) (by omega) (by rw [ha2, cnt_bb (p := (fun g => fitB (r3V g) (S 26 k) && w3B (S 26 k) (tm (S 26 k) (rC S k)) (tm (S 26 k) (rC S u)) (im (r3V f)) (im (r3V g)))) (show (_ && _) = false from by rw [h_210, h_218]; rfl)]; rfl) (Or.inl hff) _ _ hP hS _ (lv_sub hl [2, 3, 4, 5, 1, 6, 7, 0] rfl)
                                    · refine n_iconst 1 hx hb dX3_ways_221 ?_
                                      refine n_goto 226 hx hb dX3_ways_222 (by decide) ?_
                                      refine n_iadd hx hb dX3_ways_226 ?_
                                      refine lv_istore (lv' := [(4, .int (nI (acc2 + 1))), (0, .ref (ad (25))), (1, .int (nI (k))), (2, .int (nI (u))), (3, .int (nI (S 26 k))), (5, .int (nI (f))), (6, .int (bI (fitB (r3V f) (S 26 k)))), (7, .int (nI (g)))]) hx hb dX3_ways_227 hl (by decide) rfl (fun ls hl => ?_)
                                      have hP : va_P D vwCl (pic 33 ad (gE cI cW cM ad (wgS (S 26 k) (tm (S 26 k) (rC S k)) (tm (S 26 k) (rC S u)) (im (r3V f)) (laS (wfS (S 26 k) (tm (S 26 k) (rC S k)) (tm (S 26 k) (rC S u)) (wyS S (S 26 k) (tm (S 26 k) (rC S k)) (tm (S 26 k) (rC S u))) f) 30 f (S 26 k)) (g + 1)))) H := by rw [wgS_y h_210]; exact hP
                                      refine n_iinc 7 1 (lv' := [(7, .int (nI (g + 1))), (4, .int (nI (acc2 + 1))), (0, .ref (ad (25))), (1, .int (nI (k))), (2, .int (nI (u))), (3, .int (nI (S 26 k))), (5, .int (nI (f))), (6, .int (bI (fitB (r3V f) (S 26 k))))]) hx hb dX3_ways_229 hl rfl (by decide) rfl (fun ls hl => ?_)
                                      refine n_goto 183 hx hb dX3_ways_232 (by decide) ?_
                                      exact ih_183 (acc2 + 1) (g + 1) (by omega) (by omega) (by rw [ha2, cnt_bb (p := (fun g => fitB (r3V g) (S 26 k) && w3B (S 26 k) (tm (S 26 k) (rC S k)) (tm (S 26 k) (rC S u)) (im (r3V f)) (im (r3V g)))) (show (_ && _) = true from by rw [h_210, h_218]; rfl)]; rfl) (Or.inl hff) _ _ hP hS _ (lv_sub hl [2, 3, 4, 5, 1, 6, 7, 0] rfl)
                          exact L_183 (2 ^ (3 * S 26 k) + 1) (acc) (0) (Nat.zero_le _) (by omega) (by rw [ha]; rfl) (Or.inr rfl) _ _ hP hS _ (lv_sub hl [2, 3, 4, 5, 6, 7, 1, 0] rfl)
                    exact L_158 (2 ^ (3 * S 26 k) + 1) (0) (0) (Nat.zero_le _) (by omega) rfl _ _ hP hS _ (lv_sub hl [2, 3, 4, 5, 1, 0] rfl)
                  · refine n_iconst 0 hx hb dX3_ways_82 ?_
                    refine lv_istore (lv' := [(5, .int (nI (0))), (0, .ref (ad (25))), (1, .int (nI (k))), (2, .int (nI (u))), (3, .int (nI (S 26 k))), (4, .int (nI (x)))]) hx hb dX3_ways_83 hl (by decide) rfl (fun ls hl => ?_)
                    have L_85 : ∀ (r : Nat) (y : Nat), (y ≤ 2 ^ S 26 k) → (2 ^ S 26 k < y + r) → ∀ (H : Heap) (locs : List Loc), va_P D vwCl (pic 33 ad (gE cI cW cM ad (va_up S 29 (tbF (2 ^ S 26 k) (tm (S 26 k) (rC S k)) (tm (S 26 k) (rC S u)) (S 29) x y)))) H → va_S A s.heap H locs → ∀ (ls : Array Slot), lv_has ls 8 [(0, .ref (ad (25))), (1, .int (nI (k))), (2, .int (nI (u))), (3, .int (nI (S 26 k))), (4, .int (nI (x))), (5, .int (nI (y)))] → W p l e ({ frames := 2, cells := 0, slots := 0, locals := 49 } : Room) s m args below meth c H locs 0 0 (MQ below (QW (some (.int (sR_ways (rN_ S) (rC S) ((nI k)) ((nI u))))) (PW D tys A 33 ad (gE cI cW cM ad (nR_ways S ((nI k)) ((nI u))))) A) args s 0 0 A) (F0 m 85 ls []) := by
                      intro r
                      induction r with
                      | zero => intro y hy9 hr2; intros; exact absurd hr2 (by omega)
                      | succ r ih =>
                        intro y hy9 hr2 H locs hP hS ls hl
                        have ih_85 := ih
                        refine lv_iload hx hb dX3_ways_85 (lv_at hl 5 rfl) ?_
                        refine n_iconst 1 hx hb dX3_ways_87 ?_
                        refine lv_iload_n hx hb dX3_ways_88 rfl (lv_at hl 3 rfl) ?_
                        refine n_ishl hx hb dX3_ways_89 (by omega) ?_
                        refine n_eq (show nI (1 <<< (S 26 k)) = nI (2 ^ S 26 k) from by rw [shl1]) ?_
                        refine n_ge (tgt := 146) hx hb dX3_ways_90 (by decide) (by omega) (by omega) (fun h_90 => ?_) (fun h_90 => ?_)
                        · rw [show y = 2 ^ S 26 k by omega, tbF_row] at hP
                          refine n_iinc 4 1 (lv' := [(4, .int (nI (x + 1))), (0, .ref (ad (25))), (1, .int (nI (k))), (2, .int (nI (u))), (3, .int (nI (S 26 k))), (5, .int (nI (y)))]) hx hb dX3_ways_146 hl rfl (by decide) rfl (fun ls hl => ?_)
                          refine n_goto 74 hx hb dX3_ways_149 (by decide) ?_
                          exact ih_74 (x + 1) (by omega) (by omega) _ _ hP hS _ (lv_sub hl [1, 2, 3, 4, 0] rfl)
                        · have t1 := tm_lt hcbk x y
                          refine lv_aload_n hx hb dX3_ways_93 rfl (lv_at hl 0 rfl) ?_
                          refine g_get (25) 3 (C := RX3) (T := TX3) (N := 7) (ci := 2) (ref := "CubeWorldsModel") hx hb hts (by decide +kernel) hown hK hP (by decide) rfl rfl (by decide) (by decide +kernel) rfl rfl dX3_ways_94 ?_
                          refine lv_bipush (v := nI 8) hx hb dX3_ways_97 (by decide) ?_
                          refine lv_iload hx hb dX3_ways_99 (lv_at hl 4 rfl) ?_
                          refine n_imul hx hb dX3_ways_101 ?_
                          refine lv_iload hx hb dX3_ways_102 (lv_at hl 5 rfl) ?_
                          refine n_iadd hx hb dX3_ways_104 ?_
                          refine lv_aload_n hx hb dX3_ways_105 rfl (lv_at hl 0 rfl) ?_
                          refine lv_iload_n hx hb dX3_ways_106 rfl (lv_at hl 1 rfl) ?_
                          refine lv_iload hx hb dX3_ways_107 (lv_at hl 4 rfl) ?_
                          refine lv_iload hx hb dX3_ways_109 (lv_at hl 5 rfl) ?_
                          refine g_callV (25) (C := RX3) (T := TX3) (N := 7) (ci := 2) (As := [.int (nI (k)), .int (nI (x)), .int (nI (y))]) (rest := [.int (nI ((8 * x) + y)), .ref (ad (29))]) (c_X3_times l hI (S := va_up S 29 (tbF (2 ^ S 26 k) (tm (S 26 k) (rC S k)) (tm (S 26 k) (rC S u)) (S 29) x y)) (k := k) hk5 (show S 26 k ≤ 4 from h4k) (X := x) (Y := y) (by omega) (by omega)) (cwV 3 hts gX3_ways_X3_times rfl rfl rfl (by decide +kernel) ⟨Nat.le_of_ble_eq_true rfl, Nat.le_of_ble_eq_true rfl⟩) hx hb hml hown hts hK hP  (by decide) rfl rfl rfl hl.1 rfl (Nat.le_of_ble_eq_true rfl) (Nat.zero_le _) (Nat.zero_le _) dX3_ways_111 ?_
                          refine n_eq (show nI (tm ((va_up S 29 (tbF (2 ^ S 26 k) (tm (S 26 k) (rC S k)) (tm (S 26 k) (rC S u)) (S 29) x y)) 26 k) (rC (va_up S 29 (tbF (2 ^ S 26 k) (tm (S 26 k) (rC S k)) (tm (S 26 k) (rC S u)) (S 29) x y)) k) x y) = nI (tm (S 26 k) (rC S k) x y) from rfl) ?_
                          refine g_iast (29) ((8 * x) + y) (tm (S 26 k) (rC S k) x y) hx hb hK hP (pic_D _ hD) hS (by decide) (gIX (S' := va_up S 29 (tbF (2 ^ S 26 k) (tm (S 26 k) (rC S k)) (tm (S 26 k) (rC S u)) (S 29) x y)) 29 128 rfl (by decide) (by exact va_up_at _ _ _)) hI (by omega) (by decide) dX3_ways_114 (fun H locs hP hS => ?_)
                          rw [gE_upL 29 128 rfl (by decide), va_up_up] at hP
                          refine lv_aload_n hx hb dX3_ways_115 rfl (lv_at hl 0 rfl) ?_
                          refine g_get (25) 3 (C := RX3) (T := TX3) (N := 7) (ci := 2) (ref := "CubeWorldsModel") hx hb hts (by decide +kernel) hown hK hP (by decide) rfl rfl (by decide) (by decide +kernel) rfl rfl dX3_ways_116 ?_
                          refine lv_bipush (v := nI 64) hx hb dX3_ways_119 (by decide) ?_
                          refine lv_bipush (v := nI 8) hx hb dX3_ways_121 (by decide) ?_
                          refine lv_iload hx hb dX3_ways_123 (lv_at hl 4 rfl) ?_
                          refine n_imul hx hb dX3_ways_125 ?_
                          refine n_iadd hx hb dX3_ways_126 ?_
                          refine lv_iload hx hb dX3_ways_127 (lv_at hl 5 rfl) ?_
                          refine n_iadd hx hb dX3_ways_129 ?_
                          refine lv_aload_n hx hb dX3_ways_130 rfl (lv_at hl 0 rfl) ?_
                          refine lv_iload_n hx hb dX3_ways_131 rfl (lv_at hl 2 rfl) ?_
                          refine lv_iload hx hb dX3_ways_132 (lv_at hl 4 rfl) ?_
                          refine lv_iload hx hb dX3_ways_134 (lv_at hl 5 rfl) ?_
                          refine g_callV (25) (C := RX3) (T := TX3) (N := 7) (ci := 2) (As := [.int (nI (u)), .int (nI (x)), .int (nI (y))]) (rest := [.int (nI ((64 + (8 * x)) + y)), .ref (ad (29))]) (c_X3_times l hI (S := va_up S 29 (va_up (tbF (2 ^ S 26 k) (tm (S 26 k) (rC S k)) (tm (S 26 k) (rC S u)) (S 29) x y) (8 * x + y) (tm (S 26 k) (rC S k) x y))) (k := u) hu5 (show S 26 u ≤ 4 from h4u) (X := x) (Y := y) (by omega) (by omega)) (cwV 3 hts gX3_ways_X3_times rfl rfl rfl (by decide +kernel) ⟨Nat.le_of_ble_eq_true rfl, Nat.le_of_ble_eq_true rfl⟩) hx hb hml hown hts hK hP  (by decide) rfl rfl rfl hl.1 rfl (Nat.le_of_ble_eq_true rfl) (Nat.zero_le _) (Nat.zero_le _) dX3_ways_136 ?_
                          refine n_eq (show nI (tm ((va_up S 29 (va_up (tbF (2 ^ S 26 k) (tm (S 26 k) (rC S k)) (tm (S 26 k) (rC S u)) (S 29) x y) (8 * x + y) (tm (S 26 k) (rC S k) x y))) 26 u) (rC (va_up S 29 (va_up (tbF (2 ^ S 26 k) (tm (S 26 k) (rC S k)) (tm (S 26 k) (rC S u)) (S 29) x y) (8 * x + y) (tm (S 26 k) (rC S k) x y))) u) x y) = nI (tm (S 26 k) (rC S u) x y) from by show nI (tm (S 26 u) (rC S u) _ _) = _; rw [h_28]) ?_
                          refine g_iast (29) ((64 + (8 * x)) + y) (tm (S 26 k) (rC S u) x y) hx hb hK hP (pic_D _ hD) hS (by decide) (gIX (S' := va_up S 29 (va_up (tbF (2 ^ S 26 k) (tm (S 26 k) (rC S k)) (tm (S 26 k) (rC S u)) (S 29) x y) (8 * x + y) (tm (S 26 k) (rC S k) x y))) 29 128 rfl (by decide) (by exact va_up_at _ _ _)) hI (by omega) (by decide) dX3_ways_139 (fun H locs hP hS => ?_)
                          rw [gE_upL 29 128 rfl (by decide), va_up_up, tbF_put (by omega) (by omega)] at hP
                          refine n_iinc 5 1 (lv' := [(5, .int (nI (y + 1))), (0, .ref (ad (25))), (1, .int (nI (k))), (2, .int (nI (u))), (3, .int (nI (S 26 k))), (4, .int (nI (x)))]) hx hb dX3_ways_140 hl rfl (by decide) rfl (fun ls hl => ?_)
                          refine n_goto 85 hx hb dX3_ways_143 (by decide) ?_
                          exact ih_85 (y + 1) (by omega) (by omega) _ _ hP hS _ (lv_sub hl [1, 2, 3, 4, 5, 0] rfl)
                    exact L_85 (2 ^ S 26 k + 1) (0) (Nat.zero_le _) (by omega) _ _ hP hS _ (lv_sub hl [1, 2, 3, 4, 5, 0] rfl)
              exact L_74 (2 ^ S 26 k + 1) (0) (Nat.zero_le _) (by omega) _ _ hP hS _ (lv_sub hl [2, 3, 4, 1, 0] rfl)
            · refine lv_bipush (v := (-3)) hx hb dX3_ways_61 (by decide) ?_
              have hP : va_P D vwCl (pic 33 ad (gE cI cW cM ad (nR_ways S ((nI k)) ((nI u))))) s.heap := by rw [show nR_ways S ((nI k)) ((nI u)) = S from by unfold nR_ways; (try dsimp only [rN_]); rw [rg_y (by omega) (by omega) (by omega), rg_y (by omega) (by omega) (by omega), if_neg (fun z => z.elim (fun w => w h_28) (fun w => by omega)), if_neg (by rw [isN_1 (fbO_n.mp h_48)]; decide), if_pos (iN (fun z => h_58 (fbO_n.mpr z)))]]; exact hP
              exact g_iretW hx hb hrt hlocks hK hP (pic_D _ hD) hS dX3_ways_63 (by unfold sR_ways; (try dsimp only [rN_]); rw [rg_y (by omega) (by omega) (by omega), rg_y (by omega) (by omega) (by omega), if_neg (fun z => z.elim (fun w => w h_28) (fun w => by omega)), if_neg (by rw [isN_1 (fbO_n.mp h_48)]; decide), if_pos (iN (fun z => h_58 (fbO_n.mpr z)))])
    · refine lv_iconst (v := (-1)) hx hb dX3_ways_14 (by decide) ?_
      have hP : va_P D vwCl (pic 33 ad (gE cI cW cM ad (nR_ways S ((nI k)) b0))) s.heap := by rw [show nR_ways S ((nI k)) b0 = S from by unfold nR_ways; (try dsimp only [rN_]); rw [rg_y (by omega) (by omega) (by omega), rg_n h_11]]; exact hP
      exact g_iretW hx hb hrt hlocks hK hP (pic_D _ hD) hS dX3_ways_15 (by unfold sR_ways; (try dsimp only [rN_]); rw [rg_y (by omega) (by omega) (by omega), rg_n h_11])
