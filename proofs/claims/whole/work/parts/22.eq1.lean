/-! the plane's two ways of telling are one -/
theorem cnt1_u {p : Nat → Bool} {n j k : Nat} (h : cnt p n = 1) (hj : j < n) (hk : k < n) (pj : p j = true) (pk : p k = true) : j = k := by
  refine Classical.byContradiction fun hne => ?_
  have key : ∀ a b, a < b → b < n → p a = true → p b = true → False := by
    intro a b hab hb ha hb2
    have h1 := cnt_up p (show a + 1 ≤ b from hab)
    have h2 := cnt_up p (show b + 1 ≤ n from hb)
    rw [cnt_y ha] at h1
    rw [cnt_y hb2] at h2
    omega
  rcases Nat.lt_or_gt_of_ne hne with q | q
  · exact key j k q hk pj pk
  · exact key k j q hj pk pj
theorem uq_u {p : Nat → Bool} {n k : Nat} (h : uq p n = some k) : ∀ j, j < n → p j = true → j = k := by
  have h2 := uq_some h
  unfold uq at h
  split at h
  · rename_i h1
    exact fun j hj pj => cnt1_u h1 hj h2.1 pj h2.2
  · cases h
theorem uq_map {p q : Nat → Bool} {K N : Nat} (e : Nat → Nat) (h1 : ∀ m, m < N → q m = true → e m < K ∧ p (e m) = true) (h2 : ∀ k, k < K → p k = true → ∃ m, m < N ∧ q m = true ∧ e m = k) (h3 : ∀ m m', m < N → m' < N → e m = e m' → m = m') : uq p K = (uq q N).map e := by
  cases hq : uq q N with
  | some m =>
    have a1 := uq_some hq
    have a2 := h1 m a1.1 a1.2
    refine uq_of a2.1 a2.2 (fun j hj pj => ?_)
    obtain ⟨m', b1, b2, b3⟩ := h2 j hj pj
    rw [← b3, uq_u hq m' b1 b2]
  | none =>
    cases hp : uq p K with
    | none => rfl
    | some k =>
      have a1 := uq_some hp
      obtain ⟨m, b1, b2, b3⟩ := h2 k a1.1 a1.2
      have : uq q N = some m := uq_of b1 b2 (fun j hj qj => by
        have c1 := h1 j hj qj
        exact h3 j m hj b1 ((uq_u hp (e j) c1.1 c1.2).trans b3.symm))
      rw [hq] at this
      cases this
theorem kk_mk {n h l : Nat} (hh : h < 2 ^ n) (hl : l < 2 ^ n) : (h <<< n ||| l) < 2 ^ n * 2 ^ n ∧ (h <<< n ||| l) >>> n = h ∧ (h <<< n ||| l) &&& (2 ^ n - 1) = l := by
  have e : h <<< n ||| l = 2 ^ n * h + l := by
    rw [← Nat.shiftLeft_add_eq_or_of_lt hl, Nat.shiftLeft_eq, Nat.mul_comm]
  have h0 : 0 < 2 ^ n := Nat.pow_pos (by decide)
  rw [e, Nat.shiftRight_eq_div_pow, Nat.and_two_pow_sub_one_eq_mod, Nat.mul_add_div h0, Nat.div_eq_of_lt hl, Nat.mul_add_mod, Nat.mod_eq_of_lt hl]
  refine ⟨?_, rfl, rfl⟩
  have : 2 ^ n * h + 2 ^ n ≤ 2 ^ n * 2 ^ n := by
    rw [← Nat.mul_succ]
    exact Nat.mul_le_mul (Nat.le_refl _) hh
  omega
theorem kk_of (n k : Nat) : (k >>> n) <<< n ||| (k &&& (2 ^ n - 1)) = k := by
  rw [← Nat.shiftLeft_add_eq_or_of_lt (lw_lt n k), Nat.shiftLeft_eq, Nat.shiftRight_eq_div_pow, Nat.and_two_pow_sub_one_eq_mod, Nat.mul_comm]
  exact Nat.div_add_mod k (2 ^ n)
theorem kk_eq {n a b : Nat} (h1 : a >>> n = b >>> n) (h2 : a &&& (2 ^ n - 1) = b &&& (2 ^ n - 1)) : a = b := by
  rw [← kk_of n a, ← kk_of n b, h1, h2]
theorem x_mv {a b c : Nat} : a ^^^ b = c ↔ b = a ^^^ c := by
  constructor
  · intro h
    rw [← h, ← Nat.xor_assoc, Nat.xor_self, Nat.zero_xor]
  · intro h
    rw [h, ← Nat.xor_assoc, Nat.xor_self, Nat.zero_xor]
theorem x_mv2 {a b c : Nat} : a ^^^ b = c ↔ b = a ^^^ c := x_mv
theorem x_4' {a b c d : Nat} (h : a ^^^ b = c ^^^ d) : a ^^^ c = b ^^^ d := by
  have e : a ^^^ c = (a ^^^ b) ^^^ (b ^^^ c) := by rw [Nat.xor_assoc, ← Nat.xor_assoc b b c, Nat.xor_self, Nat.zero_xor]
  rw [e, h, Nat.xor_comm c d, Nat.xor_assoc d c, Nat.xor_comm b c, ← Nat.xor_assoc c c b, Nat.xor_self, Nat.zero_xor, Nat.xor_comm]
theorem x_5 {A B p q : Nat} : A ^^^ B = p ^^^ q ↔ B ^^^ (A ^^^ p) = q := by
  have e : B ^^^ (A ^^^ p) = (A ^^^ B) ^^^ p := by rw [← Nat.xor_assoc, Nat.xor_comm B A]
  constructor
  · intro h
    rw [e, h, Nat.xor_comm p q, Nat.xor_assoc, Nat.xor_self, Nat.xor_zero]
  · intro h
    rw [← h, e, Nat.xor_comm (A ^^^ B) p, ← Nat.xor_assoc p p, Nat.xor_self, Nat.zero_xor]
/-- on, told case by case -/
theorem ls_T {n : Nat} {c : Nat → Nat} {P Q : Nat} (h : Q = 2 ^ n * 2 ^ n + 2 ^ n) : lsB n c P Q = true ↔ 2 ^ n * 2 ^ n ≤ P := by
  unfold lsB
  rw [if_pos h, decide_eq_true_eq]
theorem ls_I {n : Nat} {c : Nat → Nat} {P Q : Nat} (h : Q ≠ 2 ^ n * 2 ^ n + 2 ^ n) (h2 : 2 ^ n * 2 ^ n ≤ Q) : lsB n c P Q = true ↔ (P = 2 ^ n * 2 ^ n + 2 ^ n ∨ P >>> n = Q - 2 ^ n * 2 ^ n) := by
  unfold lsB
  rw [if_neg h, if_pos h2, Bool.or_eq_true, decide_eq_true_eq, decide_eq_true_eq]
theorem ls_J {n : Nat} {c : Nat → Nat} {P Q : Nat} (h2 : Q < 2 ^ n * 2 ^ n) (h3 : 2 ^ n * 2 ^ n ≤ P) : lsB n c P Q = true ↔ P = 2 ^ n * 2 ^ n + (Q >>> n) := by
  have h0 : 0 < 2 ^ n := Nat.pow_pos (by decide)
  unfold lsB
  rw [if_neg (by omega), if_neg (by omega), if_pos h3, decide_eq_true_eq]
theorem ls_K {n : Nat} {c : Nat → Nat} {P Q : Nat} (h2 : Q < 2 ^ n * 2 ^ n) (h3 : P < 2 ^ n * 2 ^ n) : lsB n c P Q = true ↔ tm n c (Q >>> n) (P >>> n) ^^^ (Q &&& (2 ^ n - 1)) = P &&& (2 ^ n - 1) := by
  have h0 : 0 < 2 ^ n := Nat.pow_pos (by decide)
  unfold lsB
  rw [if_neg (by omega), if_neg (by omega), if_neg (by omega), decide_eq_true_eq]
theorem pt_1 {n : Nat} {c : Nat → Nat} {a b k : Nat} : ptB n c true a b k = true ↔ lsB n c a k = true ∧ lsB n c b k = true := by
  show (lsB n c a k && lsB n c b k) = true ↔ _
  rw [Bool.and_eq_true]
theorem pt_0 {n : Nat} {c : Nat → Nat} {a b k : Nat} : ptB n c false a b k = true ↔ lsB n c k a = true ∧ lsB n c k b = true := by
  show (lsB n c k a && lsB n c k b) = true ↔ _
  rw [Bool.and_eq_true]
theorem cm_sym {n : Nat} {c : Nat → Nat} {L : Bool} {a b : Nat} : cmS n c L a b = cmS n c L b a := by
  unfold cmS
  congr 1
  funext k
  unfold ptB
  cases L
  · exact Bool.and_comm _ _
  · exact Bool.and_comm _ _
theorem jn_lt {n : Nat} {c : Nat → Nat} (hcb : CB n c) {a b : Nat} (hab : a < b) (hb : b ≤ 2 ^ n * 2 ^ n + 2 ^ n) : cmS n c true a b = ltS n c a b := by
  have h0 : 0 < 2 ^ n := Nat.pow_pos (by decide)
  unfold cmS ltS
  by_cases h1 : 2 ^ n * 2 ^ n ≤ a
  · rw [if_pos h1]
    refine uq_of (by omega) (pt_1.mpr ⟨(ls_T rfl).mpr h1, (ls_T rfl).mpr (by omega)⟩) (fun j hj hp => ?_)
    obtain ⟨p1, p2⟩ := pt_1.mp hp
    refine Classical.byContradiction fun hne => ?_
    rcases Nat.lt_or_ge j (2 ^ n * 2 ^ n) with q | q
    · have e1 := (ls_J q h1).mp p1
      have e2 := (ls_J q (by omega)).mp p2
      omega
    · have e1 := (ls_I hne q).mp p1
      have e3 := hp_ge h1
      rcases e1 with e1 | e1
      · omega
      · omega
  · rw [if_neg h1]
    have ha : a >>> n < 2 ^ n := hp_lt (by omega)
    have haz := Nat.zero_le (a >>> n)
    have hbz := Nat.zero_le (b >>> n)
    by_cases h2 : b = 2 ^ n * 2 ^ n + 2 ^ n ∨ b >>> n = a >>> n
    · rw [if_pos h2]
      refine uq_of (by omega) (pt_1.mpr ⟨(ls_I (by omega) (by omega)).mpr (Or.inr (by omega)), (ls_I (by omega) (by omega)).mpr (h2.elim Or.inl (fun z => Or.inr (by omega)))⟩) (fun j hj hp => ?_)
      obtain ⟨p1, p2⟩ := pt_1.mp hp
      by_cases hT : j = 2 ^ n * 2 ^ n + 2 ^ n
      · have := (ls_T hT).mp p1
        omega
      · rcases Nat.lt_or_ge j (2 ^ n * 2 ^ n) with q | q
        · exfalso
          have hj2 : j >>> n < 2 ^ n := hp_lt q
          rcases Nat.lt_or_ge b (2 ^ n * 2 ^ n) with r | r
          · have e1 := (ls_K q (by omega)).mp p1
            have e2 := (ls_K q r).mp p2
            have e3 : b >>> n = a >>> n := h2.elim (fun z => by omega) id
            rw [e3, e1] at e2
            have := kk_eq e3.symm e2
            omega
          · have e2 := (ls_J q r).mp p2
            rcases h2 with h2 | h2
            · omega
            · have := hp_ge r
              omega
        · have e1 := (ls_I hT q).mp p1
          rcases e1 with e1 | e1
          · omega
          · omega
    · rw [if_neg h2]
      have h3 : b ≠ 2 ^ n * 2 ^ n + 2 ^ n := fun z => h2 (Or.inl z)
      have h4 : b >>> n ≠ a >>> n := fun z => h2 (Or.inr z)
      have al : a &&& (2 ^ n - 1) < 2 ^ n := lw_lt n a
      -- a line that holds both is inside
      have hin : ∀ k, ptB n c true a b k = true → k < 2 ^ n * 2 ^ n := by
        intro k hp
        obtain ⟨p1, p2⟩ := pt_1.mp hp
        refine Nat.lt_of_not_le fun q => ?_
        by_cases hT : k = 2 ^ n * 2 ^ n + 2 ^ n
        · have := (ls_T hT).mp p1
          omega
        · have e1 := (ls_I hT q).mp p1
          have e2 := (ls_I hT q).mp p2
          rcases e1 with e1 | e1
          · omega
          · rcases e2 with e2 | e2
            · exact h3 e2
            · omega
      have hlo : ∀ k, ptB n c true a b k = true → (k >>> n) <<< n ||| (tm n c (k >>> n) (a >>> n) ^^^ (a &&& (2 ^ n - 1))) = k := by
        intro k hp
        have e1 := (ls_K (hin k hp) (by omega)).mp (pt_1.mp hp).1
        have e2 := x_mv.mp e1
        rw [← e2, kk_of]
      have hmk : ∀ m, m < 2 ^ n → (m <<< n ||| (tm n c m (a >>> n) ^^^ (a &&& (2 ^ n - 1)))) < 2 ^ n * 2 ^ n ∧ (m <<< n ||| (tm n c m (a >>> n) ^^^ (a &&& (2 ^ n - 1)))) >>> n = m ∧ (m <<< n ||| (tm n c m (a >>> n) ^^^ (a &&& (2 ^ n - 1)))) &&& (2 ^ n - 1) = tm n c m (a >>> n) ^^^ (a &&& (2 ^ n - 1)) := fun m hm => kk_mk hm (Nat.xor_lt_two_pow (tm_lt hcb _ _) al)
      have hpa : ∀ m, m < 2 ^ n → lsB n c a (m <<< n ||| (tm n c m (a >>> n) ^^^ (a &&& (2 ^ n - 1)))) = true := fun m hm => by
        obtain ⟨k1, k2, k3⟩ := hmk m hm
        rw [ls_K k1 (by omega), k2, k3]
        exact x_mv.mpr rfl
      unfold ltM
      by_cases h5 : 2 ^ n * 2 ^ n ≤ b
      · rw [if_pos h5]
        have hm : b - 2 ^ n * 2 ^ n < 2 ^ n := by omega
        obtain ⟨k1, k2, k3⟩ := hmk _ hm
        refine uq_of (Nat.lt_of_lt_of_le k1 (by omega)) (pt_1.mpr ⟨hpa _ hm, ?_⟩) (fun j hj hp => ?_)
        · rw [ls_J k1 h5, k2]
          omega
        · have e2 := (ls_J (hin j hp) h5).mp (pt_1.mp hp).2
          have e3 := hlo j hp
          rw [show b - 2 ^ n * 2 ^ n = j >>> n by omega]
          exact e3.symm
      · rw [if_neg h5]
        have bl : b &&& (2 ^ n - 1) < 2 ^ n := lw_lt n b
        have key : ∀ m, (tm n c m ((a >>> n) ^^^ (b >>> n)) = (a &&& (2 ^ n - 1)) ^^^ (b &&& (2 ^ n - 1))) ↔ tm n c m (b >>> n) ^^^ (tm n c m (a >>> n) ^^^ (a &&& (2 ^ n - 1))) = b &&& (2 ^ n - 1) := by
          intro m
          rw [tm_r]
          exact x_5
        refine uq_map _ (fun m hm hq => ?_) (fun k hk hp => ?_) (fun m m' hm hm' e => ?_)
        · obtain ⟨k1, k2, k3⟩ := hmk m hm
          refine ⟨by omega, pt_1.mpr ⟨hpa m hm, ?_⟩⟩
          rw [ls_K k1 (by omega), k2, k3]
          exact (key m).mp (slp_iff.mp hq)
        · refine ⟨k >>> n, hp_lt (hin k hp), slp_iff.mpr ?_, hlo k hp⟩
          have e2 := (ls_K (hin k hp) (by omega)).mp (pt_1.mp hp).2
          have e1 := x_mv.mp ((ls_K (hin k hp) (by omega)).mp (pt_1.mp hp).1)
          rw [e1] at e2
          exact (key _).mpr e2
        · exact (hmk m hm).2.1.symm.trans ((congrArg (· >>> n) e).trans (hmk m' hm').2.1)
theorem mt_lt {n : Nat} {c : Nat → Nat} (hcb : CB n c) {a b : Nat} (hab : a < b) (hb : b ≤ 2 ^ n * 2 ^ n + 2 ^ n) : cmS n c false a b = mtS n c a b := by
  have h0 : 0 < 2 ^ n := Nat.pow_pos (by decide)
  unfold cmS mtS
  by_cases h1 : 2 ^ n * 2 ^ n ≤ a
  · rw [if_pos h1]
    refine uq_of (by omega) (pt_0.mpr ⟨(ls_I (by omega) h1).mpr (Or.inl rfl), ?_⟩) (fun j hj hp => ?_)
    · by_cases hT : b = 2 ^ n * 2 ^ n + 2 ^ n
      · exact (ls_T hT).mpr (by omega)
      · exact (ls_I hT (by omega)).mpr (Or.inl rfl)
    · obtain ⟨p1, p2⟩ := pt_0.mp hp
      rcases (ls_I (by omega) h1).mp p1 with e1 | e1
      · exact e1
      · exfalso
        by_cases hT : b = 2 ^ n * 2 ^ n + 2 ^ n
        · have := hp_ge ((ls_T hT).mp p2)
          omega
        · rcases (ls_I hT (by omega)).mp p2 with e2 | e2
          · have := hp_ge (show 2 ^ n * 2 ^ n ≤ j by omega)
            omega
          · omega
  · rw [if_neg h1]
    have ha : a >>> n < 2 ^ n := hp_lt (by omega)
    have haz := Nat.zero_le (a >>> n)
    have hbz := Nat.zero_le (b >>> n)
    by_cases h2 : b = 2 ^ n * 2 ^ n + 2 ^ n ∨ b >>> n = a >>> n
    · rw [if_pos h2]
      refine uq_of (by omega) (pt_0.mpr ⟨(ls_J (by omega) (by omega)).mpr rfl, ?_⟩) (fun j hj hp => ?_)
      · by_cases hT : b = 2 ^ n * 2 ^ n + 2 ^ n
        · exact (ls_T hT).mpr (by omega)
        · have e3 : b >>> n = a >>> n := h2.elim (fun z => absurd z hT) id
          have hbI : b < 2 ^ n * 2 ^ n := Nat.lt_of_not_le fun q => by
            have := hp_ge q
            omega
          exact (ls_J hbI (by omega)).mpr (by rw [e3])
      · obtain ⟨p1, p2⟩ := pt_0.mp hp
        rcases Nat.lt_or_ge j (2 ^ n * 2 ^ n) with q | q
        · exfalso
          have e1 := (ls_K (by omega) q).mp p1
          by_cases hT : b = 2 ^ n * 2 ^ n + 2 ^ n
          · have := (ls_T hT).mp p2
            omega
          · have e3 : b >>> n = a >>> n := h2.elim (fun z => absurd z hT) id
            have hbI : b < 2 ^ n * 2 ^ n := Nat.lt_of_not_le fun q => by
              have := hp_ge q
              omega
            have e2 := (ls_K hbI q).mp p2
            rw [e3] at e2
            have := kk_eq e3.symm ((x_mv.mp e1).trans (x_mv.mp e2).symm)
            omega
        · exact (ls_J (by omega) q).mp p1
    · rw [if_neg h2]
      have h3 : b ≠ 2 ^ n * 2 ^ n + 2 ^ n := fun z => h2 (Or.inl z)
      have h4 : b >>> n ≠ a >>> n := fun z => h2 (Or.inr z)
      have al : a &&& (2 ^ n - 1) < 2 ^ n := lw_lt n a
      have hin : ∀ k, ptB n c false a b k = true → k < 2 ^ n * 2 ^ n := by
        intro k hp
        obtain ⟨p1, p2⟩ := pt_0.mp hp
        refine Nat.lt_of_not_le fun q => ?_
        have e1 := (ls_J (by omega) q).mp p1
        rcases Nat.lt_or_ge b (2 ^ n * 2 ^ n) with r | r
        · have e2 := (ls_J r q).mp p2
          omega
        · rcases (ls_I h3 r).mp p2 with e2 | e2
          · omega
          · have := hp_ge q
            omega
      have hlo : ∀ k, ptB n c false a b k = true → (k >>> n) <<< n ||| (tm n c (a >>> n) (k >>> n) ^^^ (a &&& (2 ^ n - 1))) = k := by
        intro k hp
        have e1 := (ls_K (by omega) (hin k hp)).mp (pt_0.mp hp).1
        rw [e1, kk_of]
      have hmk : ∀ m, m < 2 ^ n → (m <<< n ||| (tm n c (a >>> n) m ^^^ (a &&& (2 ^ n - 1)))) < 2 ^ n * 2 ^ n ∧ (m <<< n ||| (tm n c (a >>> n) m ^^^ (a &&& (2 ^ n - 1)))) >>> n = m ∧ (m <<< n ||| (tm n c (a >>> n) m ^^^ (a &&& (2 ^ n - 1)))) &&& (2 ^ n - 1) = tm n c (a >>> n) m ^^^ (a &&& (2 ^ n - 1)) := fun m hm => kk_mk hm (Nat.xor_lt_two_pow (tm_lt hcb _ _) al)
      have hpa : ∀ m, m < 2 ^ n → lsB n c (m <<< n ||| (tm n c (a >>> n) m ^^^ (a &&& (2 ^ n - 1)))) a = true := fun m hm => by
        obtain ⟨k1, k2, k3⟩ := hmk m hm
        rw [ls_K (by omega) k1, k2, k3]
      unfold ltM
      by_cases h5 : 2 ^ n * 2 ^ n ≤ b
      · rw [if_pos h5]
        have hm : b - 2 ^ n * 2 ^ n < 2 ^ n := by omega
        obtain ⟨k1, k2, k3⟩ := hmk _ hm
        refine uq_of (Nat.lt_of_lt_of_le k1 (by omega)) (pt_0.mpr ⟨hpa _ hm, ?_⟩) (fun j hj hp => ?_)
        · exact (ls_I h3 h5).mpr (Or.inr k2)
        · have e3 := hlo j hp
          have e4 := hin j hp
          rcases (ls_I h3 h5).mp (pt_0.mp hp).2 with e2 | e2
          · omega
          · rw [← e2]
            exact e3.symm
      · rw [if_neg h5]
        have key : ∀ m, (tm n c ((a >>> n) ^^^ (b >>> n)) m = (a &&& (2 ^ n - 1)) ^^^ (b &&& (2 ^ n - 1))) ↔ tm n c (a >>> n) m ^^^ (a &&& (2 ^ n - 1)) = tm n c (b >>> n) m ^^^ (b &&& (2 ^ n - 1)) := by
          intro m
          rw [tm_l]
          exact x_5.trans x_mv
        refine uq_map _ (fun m hm hq => ?_) (fun k hk hp => ?_) (fun m m' hm hm' e => ?_)
        · obtain ⟨k1, k2, k3⟩ := hmk m hm
          refine ⟨by omega, pt_0.mpr ⟨hpa m hm, ?_⟩⟩
          rw [ls_K (by omega) k1, k2, k3]
          exact ((key m).mp (slp_iff.mp hq)).symm
        · refine ⟨k >>> n, hp_lt (hin k hp), slp_iff.mpr ?_, hlo k hp⟩
          have e2 := (ls_K (by omega) (hin k hp)).mp (pt_0.mp hp).2
          have e1 := (ls_K (by omega) (hin k hp)).mp (pt_0.mp hp).1
          exact (key _).mpr (e1.trans e2.symm)
        · exact (hmk m hm).2.1.symm.trans ((congrArg (· >>> n) e).trans (hmk m' hm').2.1)
theorem join_eq {n : Nat} {c : Nat → Nat} (hcb : CB n c) {a b : Nat} (hne : ¬ a = b) (ha : a ≤ 2 ^ n * 2 ^ n + 2 ^ n) (hb : b ≤ 2 ^ n * 2 ^ n + 2 ^ n) : cmS n c true a b = ltS n c (min a b) (max a b) := by
  rcases Nat.lt_or_gt_of_ne hne with q | q
  · rw [Nat.min_eq_left (Nat.le_of_lt q), Nat.max_eq_right (Nat.le_of_lt q), jn_lt hcb q hb]
  · rw [cm_sym, Nat.min_eq_right (Nat.le_of_lt q), Nat.max_eq_left (Nat.le_of_lt q), jn_lt hcb q ha]
theorem meet_eq {n : Nat} {c : Nat → Nat} (hcb : CB n c) {a b : Nat} (hne : ¬ a = b) (ha : a ≤ 2 ^ n * 2 ^ n + 2 ^ n) (hb : b ≤ 2 ^ n * 2 ^ n + 2 ^ n) : cmS n c false a b = mtS n c (min a b) (max a b) := by
  rcases Nat.lt_or_gt_of_ne hne with q | q
  · rw [Nat.min_eq_left (Nat.le_of_lt q), Nat.max_eq_right (Nat.le_of_lt q), mt_lt hcb q hb]
  · rw [cm_sym, Nat.min_eq_right (Nat.le_of_lt q), Nat.max_eq_left (Nat.le_of_lt q), mt_lt hcb q ha]
/-! pairs that fail -/
theorem sm_const (v : Nat) : ∀ n, sm (fun _ => v) n = n * v
  | 0 => (Nat.zero_mul v).symm
  | n + 1 => by rw [sm_s, sm_const v n, Nat.succ_mul]
theorem sm_if (p : Nat → Bool) (v : Nat) : ∀ n, sm (fun d => if p d then v else 0) n = cnt p n * v
  | 0 => (Nat.zero_mul v).symm
  | n + 1 => by
    rw [sm_s, sm_if p v n]
    cases h : p n with
    | true => rw [cnt_y h, if_pos rfl, Nat.succ_mul]
    | false => rw [cnt_n h]; rfl
theorem bd_eq {n : Nat} {c : Nat → Nat} (hcb : CB n c) : bdS n c = cbS n c := by
  have key : ∀ d, d < 2 ^ n → bdF n c d = if cbF n c d then 2 ^ n * (2 ^ n / 2 * 2 ^ n) else 0 := by
    intro d hd
    unfold bdF
    by_cases h0 : d = 0
    · rw [if_pos h0, if_neg]
      unfold cbF
      rw [decide_eq_false (by omega), Bool.false_and]
      decide
    · rw [if_neg h0]
      cases hl : lpr n c d with
      | none =>
        rw [if_neg (by unfold cbF; rw [hl, Bool.and_eq_true]; exact fun z => absurd z.2 (by decide))]
        have hin : ∀ y y', y < 2 ^ n → y' < 2 ^ n → tm n c d y = tm n c d y' → y = y' := by
          intro y y' hy hy' e
          refine xor_0 (Classical.byContradiction fun z => ?_)
          have h1 := fl_none.mp hl (y ^^^ y') (by omega) (by have := Nat.xor_lt_two_pow hy hy'; omega)
          rw [tm_r, e, Nat.xor_self] at h1
          cases h1
        have : ∀ e, e < 2 ^ n → bdG n c d e = 0 := by
          intro e he
          obtain ⟨x, hx, hxe⟩ := fb_onto (f := fun x => tm n c d x) (fun i _ => tm_lt hcb d i) (fun i j hij hj z => by have := hin i j (by omega) hj z; omega) he
          exact if_pos (cnt_one (p := fun x => tm n c d x == e) hx (bT hxe) (fun j hj hp => hin j x hj hx ((beq_iff_eq.mp hp).trans hxe.symm)))
        rw [sm_cong this, sm_const, Nat.mul_zero]
      | some y =>
        have hy := fl_some hl
        have hyz : tm n c d y = 0 := beq_iff_eq.mp hy.2.2.1
        rw [if_pos (by unfold cbF; rw [hl, Bool.and_eq_true]; exact ⟨decide_eq_true (by omega), rfl⟩)]
        have : ∀ e, e < 2 ^ n → bdG n c d e = 2 ^ n / 2 * 2 ^ n := by
          intro e he
          refine if_neg (fun h1 => ?_)
          obtain ⟨x, hx, hxe⟩ : ∃ x, x < 2 ^ n ∧ (tm n c d x == e) = true := by
            refine Classical.byContradiction fun z => ?_
            rw [cnt_0 (fun k hk => by
              cases hh : (tm n c d k == e) with
              | false => rfl
              | true => exact absurd ⟨k, hk, hh⟩ z)] at h1
            omega
          have hy2 : y < 2 ^ n := by omega
          have h2 : (tm n c d (x ^^^ y) == e) = true := by
            rw [tm_r, hyz, Nat.xor_zero]
            exact hxe
          have h3 := cnt1_u (p := fun x => tm n c d x == e) h1 hx (Nat.xor_lt_two_pow hx hy2) hxe h2
          have h4 : x ^^^ x = x ^^^ (x ^^^ y) := by rw [← h3]
          rw [← Nat.xor_assoc, Nat.xor_self, Nat.zero_xor] at h4
          omega
        rw [sm_cong this, sm_const]
  unfold bdS cbS
  rw [sm_cong key, sm_if, Nat.shiftRight_eq_div_pow]
  rw [Nat.mul_assoc (cnt _ _)]
  congr 1
  rw [show (2 : Nat) ^ 1 = 2 from rfl, Nat.mul_left_comm]
