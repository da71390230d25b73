/-! the ways counted twice are as many -/
theorem cnt_rm {q : Nat → Bool} {j0 : Nat} (hq : q j0 = true) : ∀ {N : Nat}, j0 < N → cnt (fun j => q j && !(j == j0)) N + 1 = cnt q N
  | 0, h => absurd h (by omega)
  | N + 1, h => by
    rcases Nat.lt_succ_iff_lt_or_eq.mp h with r | r
    · have ih := cnt_rm hq r
      rw [cnt_s, cnt_s q, ← ih]
      have e : (q N && !(N == j0)) = q N := by
        rw [bF (show ¬ N = j0 by omega)]
        exact Bool.and_true _
      rw [e]
      omega
    · subst r
      rw [cnt_y hq, cnt_n (p := fun j => q j && !(j == j0)) (by show (q j0 && !(j0 == j0)) = false; rw [bT rfl]; exact Bool.and_false _)]
      congr 1
      refine cnt_cong (fun i hi => ?_)
      rw [bF (show ¬ i = j0 by omega)]
      exact Bool.and_true _
theorem cnt_inj {p : Nat → Bool} {e : Nat → Nat} {N : Nat} : ∀ {M : Nat} {q : Nat → Bool}, (∀ i, i < M → p i = true → e i < N ∧ q (e i) = true) → (∀ i j, i < j → j < M → p i = true → p j = true → e i ≠ e j) → cnt p M ≤ cnt q N
  | 0, q, _, _ => Nat.zero_le _
  | M + 1, q, h1, h2 => by
    cases hp : p M with
    | false =>
      rw [cnt_n hp]
      exact cnt_inj (fun i hi => h1 i (by omega)) (fun i j hij hj => h2 i j hij (by omega))
    | true =>
      rw [cnt_y hp]
      have a1 := h1 M (by omega) hp
      rw [← cnt_rm a1.2 a1.1]
      have := cnt_inj (p := p) (e := e) (N := N) (M := M) (q := fun j => q j && !(j == e M)) (fun i hi pi => by
        have b1 := h1 i (by omega) pi
        refine ⟨b1.1, ?_⟩
        show (q (e i) && !(e i == e M)) = true
        rw [b1.2, bF (h2 i M hi (by omega) pi hp)]
        rfl) (fun i j hij hj => h2 i j hij (by omega))
      omega
theorem cnt_bij {p q : Nat → Bool} {M N : Nat} (e d : Nat → Nat) (h1 : ∀ i, i < M → p i = true → e i < N ∧ q (e i) = true ∧ d (e i) = i) (h2 : ∀ j, j < N → q j = true → d j < M ∧ p (d j) = true ∧ e (d j) = j) : cnt p M = cnt q N := by
  refine Nat.le_antisymm ?_ ?_
  · refine cnt_inj (e := e) (fun i hi pi => ⟨(h1 i hi pi).1, (h1 i hi pi).2.1⟩) (fun i j hij hj pi pj z => ?_)
    have a := (h1 i (by omega) pi).2.2
    have b := (h1 j hj pj).2.2
    rw [z, b] at a
    omega
  · refine cnt_inj (e := d) (fun i hi pi => ⟨(h2 i hi pi).1, (h2 i hi pi).2.1⟩) (fun i j hij hj pi pj z => ?_)
    have a := (h2 i (by omega) pi).2.2
    have b := (h2 j hj pj).2.2
    rw [z, b] at a
    omega
theorem im_bit {f : Nat → Nat} {k : Nat} (hk : k < 4) : im f (1 <<< k) = f k := by
  unfold im
  rw [xs_s, xs_s, xs_s, xs_s]
  rw [shl1_bit, shl1_bit, shl1_bit, shl1_bit]
  rcases (show k = 0 ∨ k = 1 ∨ k = 2 ∨ k = 3 by omega) with e | e | e | e <;> subst e <;> simp [xs]
theorem im_0 (f : Nat → Nat) : im f 0 = 0 := ad_0 (im_a f)
theorem im_1 (f : Nat → Nat) : im f 1 = f 0 := im_bit (f := f) (k := 0) (by decide)
theorem r3_0 (d : Nat) : r3V d 0 = d % 8 := by
  unfold r3V
  rw [show (7 : Nat) = 2 ^ 3 - 1 from rfl, Nat.and_two_pow_sub_one_eq_mod, Nat.shiftRight_eq_div_pow]
  omega
theorem r3_1 (d : Nat) : r3V d 1 = d / 8 % 8 := by
  unfold r3V
  rw [show (7 : Nat) = 2 ^ 3 - 1 from rfl, Nat.and_two_pow_sub_one_eq_mod, Nat.shiftRight_eq_div_pow]
theorem r3_2 (d : Nat) : r3V d 2 = d / 64 % 8 := by
  unfold r3V
  rw [show (7 : Nat) = 2 ^ 3 - 1 from rfl, Nat.and_two_pow_sub_one_eq_mod, Nat.shiftRight_eq_div_pow]
def cod (n : Nat) (D : Nat → Nat) : Nat := D 0 + 8 * (if 1 < n then D 1 else 0) + 64 * (if 2 < n then D 2 else 0)
theorem cod_lt {n : Nat} {D : Nat → Nat} (h1 : 1 ≤ n) (h3 : n ≤ 3) (hD : ∀ i, i < n → D i < 8) : cod n D < 2 ^ (3 * n) := by
  unfold cod
  rcases (show n = 1 ∨ n = 2 ∨ n = 3 by omega) with e | e | e
  · subst e
    have := hD 0 (by decide)
    rw [if_neg (by decide), if_neg (by decide)]
    show _ < 8
    omega
  · subst e
    have := hD 0 (by decide)
    have := hD 1 (by decide)
    rw [if_pos (by decide), if_neg (by decide)]
    show _ < 64
    omega
  · subst e
    have := hD 0 (by decide)
    have := hD 1 (by decide)
    have := hD 2 (by decide)
    rw [if_pos (by decide), if_pos (by decide)]
    show _ < 512
    omega
theorem cod_r3 {n : Nat} {D : Nat → Nat} (h1 : 1 ≤ n) (h3 : n ≤ 3) (hD : ∀ i, i < n → D i < 8) : ∀ i, i < n → r3V (cod n D) i = D i := by
  intro i hi
  have hd := hD i hi
  have h0 := hD 0 (by omega)
  have a1 : 1 < n → D 1 < 8 := fun z => hD 1 z
  have a2 : 2 < n → D 2 < 8 := fun z => hD 2 z
  rcases (show i = 0 ∨ i = 1 ∨ i = 2 by omega) with e | e | e
  · subst e
    rw [r3_0]
    unfold cod
    split <;> split <;> omega
  · subst e
    rw [r3_1]
    unfold cod
    rw [if_pos hi]
    split <;> omega
  · subst e
    rw [r3_2]
    unfold cod
    rw [if_pos hi, if_pos (by omega)]
    have := a1 (by omega)
    omega
theorem cod_of {n g : Nat} {D : Nat → Nat} (h1 : 1 ≤ n) (h3 : n ≤ 3) (hg : g < 2 ^ (3 * n)) (hD : ∀ i, i < n → D i = r3V g i) : cod n D = g := by
  have e0 := hD 0 (by omega)
  rw [r3_0] at e0
  unfold cod
  rcases (show n = 1 ∨ n = 2 ∨ n = 3 by omega) with e | e | e
  · subst e
    have hg : g < 8 := hg
    rw [if_neg (by decide), if_neg (by decide)]
    omega
  · subst e
    have hg : g < 64 := hg
    have e1 := hD 1 (by decide)
    rw [r3_1] at e1
    rw [if_pos (by decide), if_neg (by decide)]
    omega
  · subst e
    have hg : g < 512 := hg
    have e1 := hD 1 (by decide)
    have e2 := hD 2 (by decide)
    rw [r3_1] at e1
    rw [r3_2] at e2
    rw [if_pos (by decide), if_pos (by decide)]
    omega
theorem wy_u {n : Nat} {ca cb fa : Nat → Nat} (h1 : 1 ≤ n) (h3 : n ≤ 3) (ha : lbr n ca = none) (hb : lbr n cb = none) (hca : CB n ca) (hcb : CB n cb) (hfa : fitB fa n = true) : ∀ w, w < 2 ^ n → im (unw n ca) w < 2 ^ n ∧ tm n ca (im (unw n ca) w) 1 = w := by
  intro w hw
  refine ⟨im_lt hw (fun i hi => (unw_ok ha hca h1 hi).1), ?_⟩
  refine lin_ext (f := fun w => tm n ca (im (unw n ca) w) 1) (g := fun w => w) (fun a b => ?_) (fun a b => rfl) n (fun i hi => ?_) w hw
  · show tm n ca (im _ (a ^^^ b)) 1 = _
    rw [im_a, tm_l]
  · show tm n ca (im _ (1 <<< i)) 1 = _
    rw [im_bit (by omega)]
    exact (unw_ok ha hca h1 hi).2
theorem wy_c {n : Nat} {ca cb fa : Nat → Nat} (h1 : 1 ≤ n) (h3 : n ≤ 3) (ha : lbr n ca = none) (hb : lbr n cb = none) (hca : CB n ca) (hcb : CB n cb) (hfa : fitB fa n = true) (o : Nat) : ∀ w, w < 2 ^ n → im (tcv n cb fa (unw n ca) o) w = tm n cb (im fa (im (unw n ca) w)) o := by
  intro w hw
  refine lin_ext (f := fun w => im (tcv n cb fa (unw n ca) o) w) (g := fun w => tm n cb (im fa (im (unw n ca) w)) o) (im_a _) (fun a b => ?_) n (fun i hi => ?_) w hw
  · show tm n cb (im fa (im _ (a ^^^ b))) o = _
    rw [im_a, im_a, tm_l]
  · show im _ (1 <<< i) = tm n cb (im fa (im _ (1 <<< i))) o
    rw [im_bit (by omega), im_bit (by omega)]
    rfl
theorem wy_c1 {n : Nat} {ca cb fa : Nat → Nat} (h1 : 1 ≤ n) (h3 : n ≤ 3) (ha : lbr n ca = none) (hb : lbr n cb = none) (hca : CB n ca) (hcb : CB n cb) (hfa : fitB fa n = true) (o : Nat) : ∀ x, x < 2 ^ n → im (tcv n cb fa (unw n ca) o) (tm n ca x 1) = tm n cb (im fa x) o := by
  intro x hx
  have hw := tm_lt hca x 1
  have p1 : 1 < 2 ^ n := Nat.lt_of_lt_of_le (by decide : 1 < 2 ^ 1) (pw2 h1)
  have e := wy_u h1 h3 ha hb hca hcb hfa _ hw
  rw [wy_c h1 h3 ha hb hca hcb hfa o _ hw, div_l ha (x := 1) (by decide) p1 e.1 hx e.2]
theorem wy_cl {n : Nat} {ca cb fa : Nat → Nat} (h1 : 1 ≤ n) (h3 : n ≤ 3) (ha : lbr n ca = none) (hb : lbr n cb = none) (hca : CB n ca) (hcb : CB n cb) (hfa : fitB fa n = true) (o : Nat) : ∀ w, w < 2 ^ n → im (tcv n cb fa (unw n ca) o) w < 2 ^ n := fun w hw => im_lt hw (fun i _ => tm_lt hcb _ _)
theorem wy_ci {n : Nat} {ca cb fa : Nat → Nat} (h1 : 1 ≤ n) (h3 : n ≤ 3) (ha : lbr n ca = none) (hb : lbr n cb = none) (hca : CB n ca) (hcb : CB n cb) (hfa : fitB fa n = true) {o : Nat} (ho : o ≠ 0) (hoN : o < 2 ^ n) : ∀ w w', w < 2 ^ n → w' < 2 ^ n → im (tcv n cb fa (unw n ca) o) w = im (tcv n cb fa (unw n ca) o) w' → w = w' := by
  intro w w' hw hw' e
  rw [wy_c h1 h3 ha hb hca hcb hfa o _ hw, wy_c h1 h3 ha hb hca hcb hfa o _ hw'] at e
  have u1 := wy_u h1 h3 ha hb hca hcb hfa w hw
  have u2 := wy_u h1 h3 ha hb hca hcb hfa w' hw'
  have hf := fitB_iff.mp hfa
  have e2 := div_l hb ho hoN (hf.1 _ u1.1) (hf.1 _ u2.1) e
  have e3 : im (unw n ca) w = im (unw n ca) w' := by
    refine Classical.byContradiction fun z => ?_
    rcases Nat.lt_or_gt_of_ne z with q | q
    · exact hf.2 _ _ q u2.1 e2
    · exact hf.2 _ _ q u1.1 e2.symm
  rw [← u1.2, ← u2.2, e3]
def Bd (n : Nat) (ca cb fa : Nat → Nat) (o j : Nat) : Nat := gvn n cb (fa 0) (im (tcv n cb fa (unw n ca) o) (tm n ca 1 (1 <<< j)))
theorem Bd_ok {n : Nat} {ca cb fa : Nat → Nat} (h1 : 1 ≤ n) (h3 : n ≤ 3) (ha : lbr n ca = none) (hb : lbr n cb = none) (hca : CB n ca) (hcb : CB n cb) (hfa : fitB fa n = true) (o : Nat) : ∀ j, Bd n ca cb fa o j < 2 ^ n ∧ tm n cb (fa 0) (Bd n ca cb fa o j) = im (tcv n cb fa (unw n ca) o) (tm n ca 1 (1 <<< j)) := fun j =>
  gvn_ok hb hcb (fit_0 hfa h1) (fit_f0 hfa h1) (wy_cl h1 h3 ha hb hca hcb hfa o _ (tm_lt hca _ _))
theorem lvB_iff {n : Nat} {ca cb fa : Nat → Nat} (h1 : 1 ≤ n) (h3 : n ≤ 3) (ha : lbr n ca = none) (hb : lbr n cb = none) (hca : CB n ca) (hcb : CB n cb) (hfa : fitB fa n = true) {o : Nat} : lvB n ca cb fa (tcv n cb fa (unw n ca) o) = true ↔ ∀ j, j < n → ∀ i, i < n → tm n cb (fa i) (Bd n ca cb fa o j) = im (tcv n cb fa (unw n ca) o) (tm n ca (1 <<< i) (1 <<< j)) := by
  unfold lvB
  rw [al_iff]
  constructor
  · intro h j hj i hi
    have := al_iff.mp (h j hj) i hi
    exact beq_iff_eq.mp this
  · intro h j hj
    exact al_yes (fun i hi => bT (h j hj i hi))
/-- from the number of 1 to the map -/
theorem wy_to {n : Nat} {ca cb fa : Nat → Nat} (h1 : 1 ≤ n) (h3 : n ≤ 3) (ha : lbr n ca = none) (hb : lbr n cb = none) (hca : CB n ca) (hcb : CB n cb) (hfa : fitB fa n = true) {o : Nat} (ho1 : 1 ≤ o) (ho : o < 2 ^ n) (hl : lvB n ca cb fa (tcv n cb fa (unw n ca) o) = true) : cod n (Bd n ca cb fa o) < 2 ^ (3 * n) ∧ (fitB (r3V (cod n (Bd n ca cb fa o))) n && w3B n (tm n ca) (tm n cb) (im fa) (im (r3V (cod n (Bd n ca cb fa o))))) = true ∧ im (r3V (cod n (Bd n ca cb fa o))) 1 = o := by
  have p8n := p8 h3
  have p1 : 1 < 2 ^ n := Nat.lt_of_lt_of_le (by decide : 1 < 2 ^ 1) (pw2 h1)
  have hD : ∀ i, i < n → Bd n ca cb fa o i < 8 := fun i _ => Nat.lt_of_lt_of_le (Bd_ok h1 h3 ha hb hca hcb hfa o i).1 p8n
  have hr := cod_r3 h1 h3 hD
  have hG : ∀ y, y < 2 ^ n → im (r3V (cod n (Bd n ca cb fa o))) y = im (Bd n ca cb fa o) y := fun y hy => im_cong hy hr
  have hl2 := (lvB_iff h1 h3 ha hb hca hcb hfa).mp hl
  have hBl : ∀ y, y < 2 ^ n → im (Bd n ca cb fa o) y < 2 ^ n := fun y hy => im_lt hy (fun i _ => (Bd_ok h1 h3 ha hb hca hcb hfa o i).1)
  have hall : ∀ x, x < 2 ^ n → ∀ y, y < 2 ^ n → tm n cb (im fa x) (im (Bd n ca cb fa o) y) = im (tcv n cb fa (unw n ca) o) (tm n ca x y) := by
    refine bil_ext (A := fun x y => tm n cb (im fa x) (im (Bd n ca cb fa o) y)) (B := fun x y => im (tcv n cb fa (unw n ca) o) (tm n ca x y)) ?_ ?_ ?_ ?_ (fun i hi j hj => ?_)
    · intro z y y'; rw [im_a, tm_l]
    · intro y z z'; rw [im_a, tm_r]
    · intro z y y'; rw [tm_l, im_a]
    · intro y z z'; rw [tm_r, im_a]
    · show tm n cb (im fa (1 <<< i)) (im (Bd n ca cb fa o) (1 <<< j)) = _
      rw [im_bit (by omega), im_bit (by omega)]
      exact hl2 j hj i hi
  have hA1 : im fa 1 ≠ 0 := by rw [im_1]; exact fit_0 hfa h1
  have hA1l : im fa 1 < 2 ^ n := (fitB_iff.mp hfa).1 1 p1
  have ho2 : im (Bd n ca cb fa o) 1 = o := by
    refine div_r hb hA1 hA1l (hBl 1 p1) ho ?_
    rw [hall 1 p1 1 p1]
    exact wy_c1 h1 h3 ha hb hca hcb hfa o 1 p1
  have hi9 : ∀ i j, i < j → j < 2 ^ n → tm n ca 1 i ≠ tm n ca 1 j := fun i j hij hj e => absurd (div_r ha (by decide) p1 (Nat.lt_trans hij hj) hj e) (by omega)
  refine ⟨cod_lt h1 h3 hD, ?_, (hG 1 p1).trans ho2⟩
  rw [Bool.and_eq_true]
  constructor
  · rw [fitB_cong hr, fitB_iff]
    refine ⟨hBl, fun i j hij hj e => ?_⟩
    have e1 : tm n cb (im fa 1) (im (Bd n ca cb fa o) i) = tm n cb (im fa 1) (im (Bd n ca cb fa o) j) := by rw [e]
    rw [hall 1 p1 i (by omega), hall 1 p1 j hj] at e1
    have e2 := wy_ci h1 h3 ha hb hca hcb hfa (show o ≠ 0 by omega) ho _ _ (tm_lt hca _ _) (tm_lt hca _ _) e1
    exact hi9 i j hij hj e2
  · refine al_yes (fun x hx => al_yes (fun y hy => ?_))
    refine wq_y ?_
    obtain ⟨z, hz, hze⟩ := fb_onto (f := fun z => tm n ca 1 z) (fun i _ => tm_lt hca 1 i) hi9 (tm_lt hca x y)
    have hze : tm n ca 1 z = tm n ca x y := hze
    rw [← hze, ivF_at hz hi9, hG z hz, hG y hy, hall 1 p1 z hz, hall x hx y hy, hze]
/-- from the map to the number of 1 -/
theorem wy_from {n : Nat} {ca cb fa : Nat → Nat} (h1 : 1 ≤ n) (h3 : n ≤ 3) (ha : lbr n ca = none) (hb : lbr n cb = none) (hca : CB n ca) (hcb : CB n cb) (hfa : fitB fa n = true) {g : Nat} (hg : g < 2 ^ (3 * n)) (hfg : fitB (r3V g) n = true) (hw : w3B n (tm n ca) (tm n cb) (im fa) (im (r3V g)) = true) : im (r3V g) 1 < 2 ^ n ∧ 1 ≤ im (r3V g) 1 ∧ lvB n ca cb fa (tcv n cb fa (unw n ca) (im (r3V g) 1)) = true ∧ cod n (Bd n ca cb fa (im (r3V g) 1)) = g := by
  have p1 : 1 < 2 ^ n := Nat.lt_of_lt_of_le (by decide : 1 < 2 ^ 1) (pw2 h1)
  have hi9 : ∀ i j, i < j → j < 2 ^ n → tm n ca 1 i ≠ tm n ca 1 j := fun i j hij hj e => absurd (div_r ha (by decide) p1 (Nat.lt_trans hij hj) hj e) (by omega)
  have hgl := (fitB_iff.mp hfg).1
  have hA1 : im fa 1 ≠ 0 := by rw [im_1]; exact fit_0 hfa h1
  have hA1l : im fa 1 < 2 ^ n := (fitB_iff.mp hfa).1 1 p1
  have t0 : ∀ x, tm n ca x 0 = 0 := fun x => ad_0 (fun a b => tm_r n ca x a b)
  have s0 : ∀ y, tm n ca 0 y = 0 := fun y => ad_0 (f := fun x => tm n ca x y) (fun a b => tm_l n ca a b y)
  have t0b : ∀ x, tm n cb x 0 = 0 := fun x => ad_0 (fun a b => tm_r n cb x a b)
  have s0b : ∀ y, tm n cb 0 y = 0 := fun y => ad_0 (f := fun x => tm n cb x y) (fun a b => tm_l n cb a b y)
  have hH : ∀ x, x < 2 ^ n → ∀ y, y < 2 ^ n → tm n cb (im fa 1) (im (r3V g) (ivF (2 ^ n) (tm n ca) (tm n ca x y))) = tm n cb (im fa x) (im (r3V g) y) := by
    intro x hx y hy
    have iv0 : ivF (2 ^ n) (tm n ca) 0 = 0 := by
      have := ivF_at (P := tm n ca) (show 0 < 2 ^ n by omega) hi9
      rw [t0] at this
      exact this
    by_cases hx0 : x = 0
    · subst hx0
      rw [s0, iv0, im_0, im_0, t0b, s0b]
    · by_cases hy0 : y = 0
      · subst hy0
        rw [t0, iv0, im_0, t0b, t0b]
      · have h := al_iff.mp (al_iff.mp hw x hx) y hy
        unfold wq at h
        rw [bF hx0, bF hy0, Bool.false_or, Bool.false_or] at h
        exact beq_iff_eq.mp h
  have hC : ∀ w, w < 2 ^ n → im (tcv n cb fa (unw n ca) (im (r3V g) 1)) w = tm n cb (im fa 1) (im (r3V g) (ivF (2 ^ n) (tm n ca) w)) := by
    intro w hw9
    have u1 := wy_u h1 h3 ha hb hca hcb hfa w hw9
    rw [wy_c h1 h3 ha hb hca hcb hfa _ w hw9, ← hH _ u1.1 1 p1, u1.2]
  have hB : ∀ j, j < n → Bd n ca cb fa (im (r3V g) 1) j = im (r3V g) (1 <<< j) := by
    intro j hj
    have b := Bd_ok h1 h3 ha hb hca hcb hfa (im (r3V g) 1) j
    refine div_r hb (fit_0 hfa h1) (fit_f0 hfa h1) b.1 (hgl _ (shl1_lt hj)) ?_
    rw [b.2, hC _ (tm_lt hca _ _), hH 1 p1 _ (shl1_lt hj), im_1]
  refine ⟨hgl 1 p1, ?_, ?_, ?_⟩
  · have := fit_0 hfg h1
    rw [im_1]
    omega
  · refine (lvB_iff h1 h3 ha hb hca hcb hfa).mpr (fun j hj i hi => ?_)
    rw [hB j hj, hC _ (tm_lt hca _ _), hH _ (shl1_lt hi) _ (shl1_lt hj), im_bit (f := fa) (by omega)]
  · exact cod_of h1 h3 hg (fun i hi => by rw [hB i hi, im_bit (by omega)])
theorem wy_cnt {n : Nat} {ca cb fa : Nat → Nat} (h1 : 1 ≤ n) (h3 : n ≤ 3) (ha : lbr n ca = none) (hb : lbr n cb = none) (hca : CB n ca) (hcb : CB n cb) (hfa : fitB fa n = true) : cnt (fun o => decide (1 ≤ o) && lvB n ca cb fa (tcv n cb fa (unw n ca) o)) (2 ^ n) = cnt (fun g => fitB (r3V g) n && w3B n (tm n ca) (tm n cb) (im fa) (im (r3V g))) (2 ^ (3 * n)) := by
  refine cnt_bij (fun o => cod n (Bd n ca cb fa o)) (fun g => im (r3V g) 1) (fun o ho hp => ?_) (fun g hg hp => ?_)
  · have hp := Bool.and_eq_true_iff.mp hp
    exact wy_to h1 h3 ha hb hca hcb hfa (of_decide_eq_true hp.1) ho hp.2
  · have hp := Bool.and_eq_true_iff.mp hp
    obtain ⟨a1, a2, a3, a4⟩ := wy_from h1 h3 ha hb hca hcb hfa hg hp.1 hp.2
    exact ⟨a1, by show (decide _ && _) = true; rw [decide_eq_true a2, a3]; rfl, a4⟩
def wyH (n : Nat) (ca cb fa : Nat → Nat) : Nat := if fitB fa n then cnt (fun g => fitB (r3V g) n && w3B n (tm n ca) (tm n cb) (im fa) (im (r3V g))) (2 ^ (3 * n)) else 0
theorem wyH_cong {n : Nat} {ca cb fa fa' : Nat → Nat} (h1 : 1 ≤ n) (h : ∀ i, i < n → fa i = fa' i) : wyH n ca cb fa = wyH n ca cb fa' := by
  have p1 : 1 < 2 ^ n := Nat.lt_of_lt_of_le (by decide : 1 < 2 ^ 1) (pw2 h1)
  unfold wyH
  rw [fitB_cong h]
  congr 1
  refine cnt_cong (fun g _ => ?_)
  congr 1
  refine al_cong (fun x hx => al_cong (fun y hy => ?_))
  unfold wq
  rw [im_cong p1 h, im_cong hx h]
theorem wyH_0 {n : Nat} {ca cb fa : Nat → Nat} {i : Nat} (hn : n ≤ 4) (hi : i < n) (h : 2 ^ n ≤ fa i) : wyH n ca cb fa = 0 := by
  refine if_neg (fun z => ?_)
  have := (fitB_iff.mp z).1 _ (shl1_lt hi)
  rw [im_bit (by omega)] at this
  omega
theorem sm_64 {G : Nat → Nat} (h : ∀ k, k < 64 → (4 ≤ k % 8 ∨ 4 ≤ k / 8) → G k = 0) : sm G 64 = sm (fun C => G (C % 4 + 8 * (C / 4))) 16 := by
  have z4 := h 4 (by decide) (by decide)
  have z5 := h 5 (by decide) (by decide)
  have z6 := h 6 (by decide) (by decide)
  have z7 := h 7 (by decide) (by decide)
  have z12 := h 12 (by decide) (by decide)
  have z13 := h 13 (by decide) (by decide)
  have z14 := h 14 (by decide) (by decide)
  have z15 := h 15 (by decide) (by decide)
  have z20 := h 20 (by decide) (by decide)
  have z21 := h 21 (by decide) (by decide)
  have z22 := h 22 (by decide) (by decide)
  have z23 := h 23 (by decide) (by decide)
  have z28 := h 28 (by decide) (by decide)
  have z29 := h 29 (by decide) (by decide)
  have z30 := h 30 (by decide) (by decide)
  have z31 := h 31 (by decide) (by decide)
  have z32 := h 32 (by decide) (by decide)
  have z33 := h 33 (by decide) (by decide)
  have z34 := h 34 (by decide) (by decide)
  have z35 := h 35 (by decide) (by decide)
  have z36 := h 36 (by decide) (by decide)
  have z37 := h 37 (by decide) (by decide)
  have z38 := h 38 (by decide) (by decide)
  have z39 := h 39 (by decide) (by decide)
  have z40 := h 40 (by decide) (by decide)
  have z41 := h 41 (by decide) (by decide)
  have z42 := h 42 (by decide) (by decide)
  have z43 := h 43 (by decide) (by decide)
  have z44 := h 44 (by decide) (by decide)
  have z45 := h 45 (by decide) (by decide)
  have z46 := h 46 (by decide) (by decide)
  have z47 := h 47 (by decide) (by decide)
  have z48 := h 48 (by decide) (by decide)
  have z49 := h 49 (by decide) (by decide)
  have z50 := h 50 (by decide) (by decide)
  have z51 := h 51 (by decide) (by decide)
  have z52 := h 52 (by decide) (by decide)
  have z53 := h 53 (by decide) (by decide)
  have z54 := h 54 (by decide) (by decide)
  have z55 := h 55 (by decide) (by decide)
  have z56 := h 56 (by decide) (by decide)
  have z57 := h 57 (by decide) (by decide)
  have z58 := h 58 (by decide) (by decide)
  have z59 := h 59 (by decide) (by decide)
  have z60 := h 60 (by decide) (by decide)
  have z61 := h 61 (by decide) (by decide)
  have z62 := h 62 (by decide) (by decide)
  have z63 := h 63 (by decide) (by decide)
  have e1 : sm G 64 = ((((((((((((((((((((((((((((((((((((((((((((((((((((((((((((((((0 + G 0) + G 1) + G 2) + G 3) + G 4) + G 5) + G 6) + G 7) + G 8) + G 9) + G 10) + G 11) + G 12) + G 13) + G 14) + G 15) + G 16) + G 17) + G 18) + G 19) + G 20) + G 21) + G 22) + G 23) + G 24) + G 25) + G 26) + G 27) + G 28) + G 29) + G 30) + G 31) + G 32) + G 33) + G 34) + G 35) + G 36) + G 37) + G 38) + G 39) + G 40) + G 41) + G 42) + G 43) + G 44) + G 45) + G 46) + G 47) + G 48) + G 49) + G 50) + G 51) + G 52) + G 53) + G 54) + G 55) + G 56) + G 57) + G 58) + G 59) + G 60) + G 61) + G 62) + G 63) := rfl
  have e2 : sm (fun C => G (C % 4 + 8 * (C / 4))) 16 = ((((((((((((((((0 + G 0) + G 1) + G 2) + G 3) + G 8) + G 9) + G 10) + G 11) + G 16) + G 17) + G 18) + G 19) + G 24) + G 25) + G 26) + G 27) := rfl
  rw [e1, e2]
  omega
theorem sm_8 {G : Nat → Nat} (h : ∀ k, k < 8 → 2 ≤ k → G k = 0) : sm G 8 = sm G 2 := by
  have z2 := h 2 (by decide) (by decide)
  have z3 := h 3 (by decide) (by decide)
  have z4 := h 4 (by decide) (by decide)
  have z5 := h 5 (by decide) (by decide)
  have z6 := h 6 (by decide) (by decide)
  have z7 := h 7 (by decide) (by decide)
  have e1 : sm G 8 = ((((((((0 + G 0) + G 1) + G 2) + G 3) + G 4) + G 5) + G 6) + G 7) := rfl
  have e2 : sm G 2 = ((0 + G 0) + G 1) := rfl
  rw [e1, e2]
  omega
theorem dig2 : ∀ C, C < 16 → ∀ i, i < 2 → r3V (C % 4 + 8 * (C / 4)) i = rrV C 2 i := by decide +kernel
theorem dig1 : ∀ C, C < 2 → ∀ i, i < 1 → r3V C i = rrV C 1 i := by decide +kernel
theorem dig3 (C i : Nat) : r3V C i = rrV C 3 i := by
  unfold r3V rrV
  rw [Nat.mul_comm]
theorem wy_eq {n : Nat} {ca cb : Nat → Nat} (h1 : 1 ≤ n) (h3 : n ≤ 3) (ha : lbr n ca = none) (hb : lbr n cb = none) (hca : CB n ca) (hcb : CB n cb) : wyT n (tm n ca) (tm n cb) = cwT n ca cb := by
  have e1 : wyG n (tm n ca) (tm n cb) = fun f => wyH n ca cb (r3V f) := rfl
  have e2 : ∀ C, cwG n ca cb C = wyH n ca cb (rrV C n) := by
    intro C
    unfold cwG wyH
    cases hf : fitB (rrV C n) n with
    | false => rfl
    | true =>
      rw [if_pos rfl, if_pos rfl]
      exact wy_cnt h1 h3 ha hb hca hcb hf
  unfold wyT cwT
  rw [e1, show cwG n ca cb = fun C => wyH n ca cb (rrV C n) from funext e2]
  rcases (show n = 1 ∨ n = 2 ∨ n = 3 by omega) with e | e | e
  · subst e
    show sm _ 8 = sm _ 2
    rw [sm_8 (fun k hk h2 => wyH_0 (i := 0) (by decide) (by decide) (by rw [r3_0]; omega))]
    exact sm_cong (fun C hC => wyH_cong (by decide) (dig1 C hC))
  · subst e
    show sm _ 64 = sm _ 16
    rw [sm_64 (fun k hk h2 => ?_)]
    · exact sm_cong (fun C hC => wyH_cong (by decide) (dig2 C hC))
    · rcases h2 with h2 | h2
      · exact wyH_0 (i := 0) (by decide) (by decide) (by rw [r3_0]; omega)
      · exact wyH_0 (i := 1) (by decide) (by decide) (by rw [r3_1]; omega)
  · subst e
    show sm _ 512 = sm _ 512
    exact sm_cong (fun C hC => wyH_cong (by decide) (fun i _ => dig3 C i))
