/-! what holds on single bits holds on all numbers -/
theorem bil_ext {A B : Nat → Nat → Nat} {n : Nat} (a1 : ∀ z y y', A (y ^^^ y') z = A y z ^^^ A y' z) (a2 : ∀ y z z', A y (z ^^^ z') = A y z ^^^ A y z') (b1 : ∀ z y y', B (y ^^^ y') z = B y z ^^^ B y' z) (b2 : ∀ y z z', B y (z ^^^ z') = B y z ^^^ B y z') (h : ∀ i, i < n → ∀ j, j < n → A (1 <<< i) (1 <<< j) = B (1 <<< i) (1 <<< j)) : ∀ y, y < 2 ^ n → ∀ z, z < 2 ^ n → A y z = B y z := by
  intro y hy z hz
  refine lin_ext (f := fun y => A y z) (g := fun y => B y z) (a1 z) (b1 z) n (fun i hi => ?_) y hy
  exact lin_ext (a2 (1 <<< i)) (b2 (1 <<< i)) n (fun j hj => h i hi j hj) z hz
theorem asw_iff {n : Nat} {c : Nat → Nat} {x w : Nat} (hw : w < 3) : assB n c x w = true ↔ ∀ y, y < 2 ^ n → ∀ z, z < 2 ^ n → asw n c x y z w = true := by
  constructor
  · intro h
    have h2 : ∀ i, i < n → ∀ j, j < n → asw n c x (1 <<< i) (1 <<< j) w = true := fun i hi j hj => al_iff.mp (al_iff.mp h i hi) j hj
    rcases (show w = 0 ∨ w = 1 ∨ w = 2 by omega) with e | e | e
    · subst e
      intro y hy z hz
      refine bT (bil_ext (A := fun y z => tm n c x (tm n c y z)) (B := fun y z => tm n c (tm n c x y) z) ?_ ?_ ?_ ?_ (fun i hi j hj => beq_iff_eq.mp (h2 i hi j hj)) y hy z hz)
      · intro z y y'; rw [tm_l, tm_r]
      · intro y z z'; rw [tm_r, tm_r]
      · intro z y y'; rw [tm_r, tm_l]
      · intro y z z'; rw [tm_r]
    · subst e
      intro y hy z hz
      refine bT (bil_ext (A := fun y z => tm n c y (tm n c x z)) (B := fun y z => tm n c (tm n c y x) z) ?_ ?_ ?_ ?_ (fun i hi j hj => beq_iff_eq.mp (h2 i hi j hj)) y hy z hz)
      · intro z y y'; rw [tm_l]
      · intro y z z'; rw [tm_r, tm_r]
      · intro z y y'; rw [tm_l, tm_l]
      · intro y z z'; rw [tm_r]
    · subst e
      intro y hy z hz
      refine bT (bil_ext (A := fun y z => tm n c y (tm n c z x)) (B := fun y z => tm n c (tm n c y z) x) ?_ ?_ ?_ ?_ (fun i hi j hj => beq_iff_eq.mp (h2 i hi j hj)) y hy z hz)
      · intro z y y'; rw [tm_l]
      · intro y z z'; rw [tm_l, tm_r]
      · intro z y y'; rw [tm_l, tm_l]
      · intro y z z'; rw [tm_r, tm_l]
  · intro h
    exact al_yes (fun i hi => al_yes (fun j hj => h _ (shl1_lt hi) _ (shl1_lt hj)))
theorem com_iff {n : Nat} {c : Nat → Nat} {x : Nat} : comB n c x = true ↔ ∀ y, y < 2 ^ n → tm n c x y = tm n c y x := by
  constructor
  · intro h
    exact lin_ext (f := fun y => tm n c x y) (g := fun y => tm n c y x) (fun a b => tm_r n c x a b) (fun a b => tm_l n c a b x) n (fun j hj => beq_iff_eq.mp (al_iff.mp h j hj))
  · intro h
    exact al_yes (fun j hj => bT (h _ (shl1_lt hj)))
theorem ja_eq {n : Nat} {c : Nat → Nat} {x w : Nat} (hw : w ≤ 3) : jaR n c x w = jnB n c x w := by
  rw [Bool.eq_iff_iff]
  unfold jaR jnB
  by_cases h3 : w = 3
  · rw [if_pos h3, Bool.and_eq_true, Bool.and_eq_true, Bool.and_eq_true, com_iff, asw_iff (by decide), asw_iff (by decide), asw_iff (by decide), al_iff]
    constructor
    · intro h
      have key : ∀ y, y < 2 ^ n → tm n c x y = tm n c y x ∧ ∀ z, z < 2 ^ n → asw n c x y z 0 = true ∧ asw n c x y z 1 = true ∧ asw n c x y z 2 = true := by
        intro y hy
        have h1 := h y hy
        unfold jq at h1
        rw [Bool.and_eq_true, Bool.or_eq_true, decide_eq_true_eq, beq_iff_eq, al_iff] at h1
        refine ⟨h1.1.elim (fun z => absurd z (by omega)) id, fun z hz => ?_⟩
        have h2 := h1.2 z hz
        unfold jp at h2
        rw [if_pos h3, Bool.and_eq_true, Bool.and_eq_true] at h2
        exact h2
      exact ⟨fun y hy => (key y hy).1, fun y hy z hz => ((key y hy).2 z hz).1, fun y hy z hz => ((key y hy).2 z hz).2.1, fun y hy z hz => ((key y hy).2 z hz).2.2⟩
    · rintro ⟨h0, h1, h2, h4⟩ y hy
      unfold jq
      rw [Bool.and_eq_true, Bool.or_eq_true, decide_eq_true_eq, beq_iff_eq, al_iff]
      refine ⟨Or.inr (h0 y hy), fun z hz => ?_⟩
      unfold jp
      rw [if_pos h3, Bool.and_eq_true, Bool.and_eq_true]
      exact ⟨h1 y hy z hz, h2 y hy z hz, h4 y hy z hz⟩
  · rw [if_neg h3, asw_iff (by omega), al_iff]
    constructor
    · intro h y hy z hz
      have h1 := h y hy
      unfold jq at h1
      rw [Bool.and_eq_true, al_iff] at h1
      have h2 := h1.2 z hz
      unfold jp at h2
      rw [if_neg h3] at h2
      exact h2
    · intro h y hy
      unfold jq
      rw [Bool.and_eq_true, Bool.or_eq_true, decide_eq_true_eq, al_iff]
      refine ⟨Or.inl (by omega), fun z hz => ?_⟩
      unfold jp
      rw [if_neg h3]
      exact h y hy z hz
/-! whether a map fits -/
def fitR (f : Nat → Nat) (n : Nat) : Bool := decide (os (fun x => 1 <<< im f x) (2 ^ n) = 2 ^ 2 ^ n - 1)
theorem fitB_iff {f : Nat → Nat} {n : Nat} : fitB f n = true ↔ (∀ x, x < 2 ^ n → im f x < 2 ^ n) ∧ ∀ i j, i < j → j < 2 ^ n → im f i ≠ im f j := by
  unfold fitB
  rw [al_iff]
  constructor
  · intro h
    refine ⟨fun x hx => ?_, fun i j hij hj => ?_⟩
    · have := h x hx
      rw [Bool.and_eq_true, decide_eq_true_eq] at this
      exact this.1
    · have := h j hj
      rw [Bool.and_eq_true, al_iff] at this
      have h2 := this.2 i hij
      intro e
      rw [bT e] at h2
      cases h2
  · rintro ⟨h1, h2⟩ x hx
    rw [Bool.and_eq_true, decide_eq_true_eq, al_iff]
    exact ⟨h1 x hx, fun j hj => by rw [bF (h2 j x hj hx)]; rfl⟩
theorem fitR_iff {f : Nat → Nat} {n : Nat} : fitR f n = true ↔ ∀ k, (∃ x, x < 2 ^ n ∧ im f x = k) ↔ k < 2 ^ n := by
  unfold fitR
  rw [decide_eq_true_eq]
  have key : ∀ k, (os (fun x => 1 <<< im f x) (2 ^ n)).testBit k = true ↔ ∃ x, x < 2 ^ n ∧ im f x = k := by
    intro k
    rw [os_bit]
    constructor
    · rintro ⟨x, h1, h2⟩
      rw [shl1_bit, decide_eq_true_eq] at h2
      exact ⟨x, h1, h2⟩
    · rintro ⟨x, h1, h2⟩
      exact ⟨x, h1, by rw [shl1_bit]; exact decide_eq_true h2⟩
  constructor
  · intro h k
    rw [← key, h, Nat.testBit_two_pow_sub_one, decide_eq_true_eq]
  · intro h
    apply Nat.eq_of_testBit_eq
    intro k
    rw [Nat.testBit_two_pow_sub_one, Bool.eq_iff_iff, key, h, decide_eq_true_eq]
theorem onto_inj {N : Nat} {f : Nat → Nat} (h : ∀ y, y < N → ∃ x, x < N ∧ f x = y) (hl : ∀ x, x < N → f x < N) : ∀ i j, i < j → j < N → f i ≠ f j := by
  let r : Nat → Nat := fun y => if hy : y < N then (h y hy).choose else 0
  have hr : ∀ y, y < N → r y < N ∧ f (r y) = y := fun y hy => by
    have e : r y = (h y hy).choose := dif_pos hy
    rw [e]
    exact (h y hy).choose_spec
  have ho : ∀ x, x < N → ∃ y, y < N ∧ r y = x := fun x hx => fb_onto (n := N) (f := r) (fun i hi => (hr i hi).1) (fun i j hij hj e => by
    have h1 := (hr i (by omega)).2
    have h2 := (hr j hj).2
    rw [e] at h1
    omega) hx
  intro i j hij hj e
  obtain ⟨y1, a1, a2⟩ := ho i (by omega)
  obtain ⟨y2, b1, b2⟩ := ho j hj
  have c1 := (hr y1 a1).2
  have c2 := (hr y2 b1).2
  rw [a2] at c1
  rw [b2] at c2
  have : y1 = y2 := by omega
  rw [this, b2] at a2
  omega
theorem fit_eq {f : Nat → Nat} {n : Nat} : fitR f n = fitB f n := by
  rw [Bool.eq_iff_iff, fitR_iff, fitB_iff]
  constructor
  · intro h
    have hl : ∀ x, x < 2 ^ n → im f x < 2 ^ n := fun x hx => (h _).mp ⟨x, hx, rfl⟩
    exact ⟨hl, onto_inj (fun y hy => (h y).mpr hy) hl⟩
  · rintro ⟨h1, h2⟩ k
    constructor
    · rintro ⟨x, hx, rfl⟩
      exact h1 x hx
    · exact fun hk => fb_onto h1 h2 hk
theorem fit_onto {f : Nat → Nat} {n k : Nat} (h : fitB f n = true) (hk : k < 2 ^ n) : ∃ x, x < 2 ^ n ∧ im f x = k := fb_onto (fitB_iff.mp h).1 (fitB_iff.mp h).2 hk
/-! likeness -/
def mcR (n : Nat) (ca cb : Nat → Nat) (M : Nat → Nat → Nat) : Bool := al (fun x => al (fun y => tm n cb (im (M 0) x) (im (M 1) y) == im (M 2) (tm n ca x y)) (2 ^ n)) (2 ^ n)
theorem mc_eq {n : Nat} {ca cb : Nat → Nat} {M : Nat → Nat → Nat} : mcR n ca cb M = mcS n ca cb M := by
  rw [Bool.eq_iff_iff]
  constructor
  · intro h
    exact al_yes (fun i hi => al_yes (fun j hj => al_iff.mp (al_iff.mp h _ (shl1_lt hi)) _ (shl1_lt hj)))
  · intro h
    refine al_yes (fun x hx => al_yes (fun y hy => bT ?_))
    refine bil_ext (A := fun x y => tm n cb (im (M 0) x) (im (M 1) y)) (B := fun x y => im (M 2) (tm n ca x y)) ?_ ?_ ?_ ?_ (fun i hi j hj => beq_iff_eq.mp (al_iff.mp (al_iff.mp h i hi) j hj)) x hx y hy
    · intro z y y'; rw [im_a, tm_l]
    · intro y z z'; rw [im_a, tm_r]
    · intro z y y'; rw [tm_l, im_a]
    · intro y z z'; rw [tm_r, im_a]
theorem amf_and {M : Nat → Nat → Nat} {n : Nat} : amf M n = (fitB (M 0) n && (fitB (M 1) n && fitB (M 2) n)) := by
  show ((((true && fitB (M 0) n) && fitB (M 1) n) && fitB (M 2) n)) = _
  rw [Bool.true_and, Bool.and_assoc]
/-! planes -/
def ptB (n : Nat) (c : Nat → Nat) (L : Bool) (a b k : Nat) : Bool := if L then lsB n c a k && lsB n c b k else lsB n c k a && lsB n c k b
def cmS (n : Nat) (c : Nat → Nat) (L : Bool) (a b : Nat) : Option Nat := uq (ptB n c L a b) (2 ^ n * 2 ^ n + 2 ^ n + 1)
def bdG (n : Nat) (c : Nat → Nat) (d e : Nat) : Nat := if cnt (fun x => tm n c d x == e) (2 ^ n) = 1 then 0 else 2 ^ n / 2 * 2 ^ n
def bdF (n : Nat) (c : Nat → Nat) (d : Nat) : Nat := if d = 0 then 0 else sm (bdG n c d) (2 ^ n)
def bdS (n : Nat) (c : Nat → Nat) : Nat := sm (bdF n c) (2 ^ n)
