/-! what stays in order -/
theorem INV_keep {S S2 : Nat → Nat → Nat} (h : INV S) (h6 : wf S2 6) (hc : ∀ i, i < 25 → i < 6 ∨ 12 < i → S2 i = S i) (h26 : ∀ u, u < 4 → S2 26 u = S 26 u) (h27 : ∀ q, q < 64 → S2 27 q = S 27 q) (h28 : S2 28 = S 28) : INV S2 := by
  refine ⟨⟨h6, fun k hk => wf_same (h.1.2.1 k hk) (hc _ (by omega) (by omega)) (hc _ (by omega) (by omega)) (hc _ (by omega) (by omega)), fun m hm i hi => by rw [hc (3 + m) (by omega) (by omega)]; exact h.1.2.2 m hm i hi⟩, fun k hk => ?_, fun m hm i hi => ?_⟩
  · have a := h.2.1 k hk
    rw [h26 k hk, hc (13 + 3 * k) (by omega) (by omega), hc (13 + 3 * k + 1) (by omega) (by omega), rC_eq hk h27]
    exact a
  · rw [hc (3 + m) (by omega) (by omega), ← h.2.2 m hm i hi]
    show S2 28 _ = S 28 _
    rw [h28]
theorem INV_new {S S2 : Nat → Nat → Nat} {k N : Nat} {v w : Nat → Nat → Nat} (h : INV S) (hk : k < 4) (h1 : 1 ≤ N) (h4 : N ≤ 4) (hv : ∀ i, i < N → ∀ j, j < N → v i j < 2 ^ N) (hw : ∀ i, i < N → ∀ j, j < N → w i j = v i j) (hc : ∀ i, i < 25 → S2 i = newW S k N v i) (r1 : S2 26 k = N) (r2 : ∀ u, u < 4 → u ≠ k → S2 26 u = S 26 u) (r3 : ∀ i, i < N → ∀ j, j < N → rC S2 k (4 * i + j) = w i j) (r4 : ∀ u, u < 4 → u ≠ k → ∀ q, rC S2 u q = rC S u q) (r5 : S2 28 = S 28) : INV S2 := by
  have o : ∀ i, i < 25 → i ≠ 9 → (i < 13 + 3 * k ∨ 13 + 3 * k + 2 < i) → S2 i = S i := by
    intro i h25 h9 hr
    rw [hc i h25]
    unfold newW
    rw [take_o hr, va_up_o h9]
  have hwf : wf S2 (13 + 3 * k) := by
    refine wf_same (S := newW S k N v) ?_ (hc _ (by omega)) (hc _ (by omega)) (hc _ (by omega))
    unfold newW
    refine wf_take h1 h4 (fun i hi j hj => ?_)
    rw [cf_at hi hj h4]
    exact hv i hi j hj
  have e0 : S2 (13 + 3 * k) 0 = N := by
    rw [hc _ (by omega)]
    unfold newW takeS
    rw [va_up_o (by omega), va_up_o (by omega), va_up_at]
    rfl
  have e1 : ∀ i, i < N → ∀ j, j < N → S2 (13 + 3 * k + 1) (4 * i + j) = v i j := by
    intro i hi j hj
    rw [hc _ (by omega)]
    unfold newW takeS
    rw [va_up_o (by omega), va_up_at, cpy_in (by omega), cf_at hi hj h4]
  refine ⟨⟨wf_same h.1.1 (o 6 (by omega) (by omega) (by omega)) (o 7 (by omega) (by omega) (by omega)) (o 8 (by omega) (by omega) (by omega)), fun u hu => ?_, fun m hm i hi => by rw [o (3 + m) (by omega) (by omega) (by omega)]; exact h.1.2.2 m hm i hi⟩, fun u hu => ?_, fun m hm i hi => ?_⟩
  · by_cases e : u = k
    · subst e; exact hwf
    · exact wf_same (h.1.2.1 u hu) (o _ (by omega) (by omega) (by omega)) (o _ (by omega) (by omega) (by omega)) (o _ (by omega) (by omega) (by omega))
  · by_cases e : u = k
    · subst e
      rw [r1, e0]
      exact ⟨rfl, fun i hi j hj => by rw [r3 i hi j hj, hw i hi j hj, e1 i hi j hj]⟩
    · have a := h.2.1 u hu
      rw [r2 u hu e, o (13 + 3 * u) (by omega) (by omega) (by omega), o (13 + 3 * u + 1) (by omega) (by omega) (by omega)]
      refine ⟨a.1, fun i hi j hj => ?_⟩
      rw [r4 u hu e]
      exact a.2 i hi j hj
  · rw [o (3 + m) (by omega) (by omega) (by omega), ← h.2.2 m hm i hi]
    show S2 28 _ = S 28 _
    rw [r5]
theorem new_25 {S : Nat → Nat → Nat} {k N : Nat} {v : Nat → Nat → Nat} (hk : k < 4) : ∀ i, 25 ≤ i → newW S k N v i = S i := by
  intro i hi
  unfold newW
  rw [take_o (by omega), va_up_o (by omega)]
/-- the reference's world, anew -/
theorem clr_1 {S : Nat → Nat → Nat} {k N : Nat} : clrS S k N 26 k = N := by
  show va_up (S 26) k N k = N
  rw [va_up_at]
theorem clr_2 {S : Nat → Nat → Nat} {k N u : Nat} (h : u ≠ k) : clrS S k N 26 u = S 26 u := by
  show va_up (S 26) k N u = S 26 u
  rw [va_up_o h]
theorem clr_3 {S : Nat → Nat → Nat} {k N q : Nat} (h : q < 16 * k ∨ 16 * k + 16 ≤ q) : clrS S k N 27 q = S 27 q := by
  show zrS k (S 27) 16 q = S 27 q
  unfold zrS
  rw [if_neg (by omega)]
theorem clr_4 {S : Nat → Nat → Nat} {k N i : Nat} (h : i < 26 ∨ 27 < i) : clrS S k N i = S i := by
  unfold clrS
  rw [va_up_o (by omega), va_up_o (by omega)]
theorem rC_oth {S S2 : Nat → Nat → Nat} {k u q : Nat} (h : u ≠ k) (e : ∀ q, q < 64 → q < 16 * k ∨ 16 * k + 16 ≤ q → S2 27 q = S 27 q) (hu : u < 4) : rC S2 u q = rC S u q := by
  unfold rC
  exact e _ (by omega) (by omega)
theorem st_world {S : Nat → Nat → Nat} {a x : Int32} (h : INV S) : INV (nR_world (nC_world S a x) a x) := by
  unfold nR_world nC_world
  cases e : rB 0 3 a with
  | false => rw [rg_n e, rg_n e]; exact h
  | true =>
    obtain ⟨k, a1, a2, rfl⟩ := rB_some (by decide) (by decide) e
    rw [rg_y a1 a2 (by decide), rg_y a1 a2 (by decide)]
    cases e2 : rB 1 4 x with
    | false => rw [rg_n e2, rg_n e2]; exact h
    | true =>
      obtain ⟨N, b1, b2, rfl⟩ := rB_some (by decide) (by decide) e2
      rw [rg_y b1 b2 (by decide), rg_y b1 b2 (by decide)]
      have hk : k < 4 := by omega
      refine INV_new (k := k) (N := N) (v := fun _ _ => 0) (w := fun _ _ => 0) h hk b1 b2 (fun _ _ _ _ => Nat.pow_pos (by decide)) (fun _ _ _ _ => rfl) (fun i hi => clr_4 (by omega)) clr_1 (fun u hu hne => ?_) (fun i hi j hj => ?_) (fun u hu hne q => rC_oth hne (fun q hq hr => ?_) hu) ?_
      · rw [clr_2 hne, new_25 hk 26 (by decide)]
      · show zrS k _ 16 (16 * k + (4 * i + j) % 16) = 0
        unfold zrS
        rw [if_pos (by omega)]
      · rw [clr_3 hr, new_25 hk 27 (by decide)]
      · rw [clr_4 (by decide), new_25 hk 28 (by decide)]
theorem fld_at {S : Nat → Nat → Nat} {k N i j : Nat} (hi : i < N) (hj : j < N) (h4 : N ≤ 4) : rC (fldR S k N) k (4 * i + j) = fdV N i j := by
  show cfR (16 * k) N (fdV N) (clrS S k N 27) N 0 (16 * k + (4 * i + j) % 16) = _
  rw [Nat.mod_eq_of_lt (by omega), cfR_at hi hj h4]
theorem st_field {S : Nat → Nat → Nat} {a x : Int32} (h : INV S) : INV (nR_field (nC_field S a x) a x) := by
  unfold nR_field nC_field
  cases e : rB 0 3 a with
  | false => rw [rg_n e, rg_n e]; exact h
  | true =>
    obtain ⟨k, a1, a2, rfl⟩ := rB_some (by decide) (by decide) e
    rw [rg_y a1 a2 (by decide), rg_y a1 a2 (by decide)]
    cases e2 : rB 1 4 x with
    | false => rw [rg_n e2, rg_n e2]; exact h
    | true =>
      obtain ⟨N, b1, b2, rfl⟩ := rB_some (by decide) (by decide) e2
      rw [rg_y b1 b2 (by decide), rg_y b1 b2 (by decide)]
      have hk : k < 4 := by omega
      refine INV_new (k := k) (N := N) (v := fun i j => rdC N (1 <<< (i + j)) (N - 1)) (w := fdV N) h hk b1 b2 (fun i hi j hj => ?_) (fun i hi j hj => (rd_eq N (by omega) b1 i hi j hj).symm) (fun i hi => ?_) ?_ (fun u hu hne => ?_) (fun i hi j hj => fld_at hi hj b2) (fun u hu hne q => rC_oth hne (fun q hq hr => ?_) hu) ?_
      · show rdC N (1 <<< (i + j)) (N - 1) < _
        rw [rd_eq N (by omega) b1 i hi j hj]
        exact fdV_lt N (by omega) b1 i hi j hj
      · unfold fldR
        rw [va_up_o (by omega), clr_4 (by omega)]
      · unfold fldR
        rw [va_up_o (by decide), clr_1]
      · unfold fldR
        rw [va_up_o (by decide), clr_2 hne, new_25 hk 26 (by decide)]
      · unfold fldR
        rw [va_up_at, cfR_o (by omega), clr_3 hr, new_25 hk 27 (by decide)]
      · unfold fldR
        rw [va_up_o (by decide), clr_4 (by decide), new_25 hk 28 (by decide)]
/-- the reference's new world by way of its row 4 -/
theorem nw_26 {S : Nat → Nat → Nat} {t n u : Nat} {v : Nat → Nat → Nat} (ht : t < 4) (hu : u < 4) : newR S t n v 26 u = if u = t then n else S 26 u := by
  show va_up (va_up (S 26) 4 n) t (va_up (S 26) 4 n 4) u = _
  rw [va_up_at]
  by_cases e : u = t
  · rw [e, va_up_at, if_pos rfl]
  · rw [va_up_o e, va_up_o (by omega), if_neg e]
theorem nw_27 {S : Nat → Nat → Nat} {t n q : Nat} {v : Nat → Nat → Nat} (hq : q < 64) (hr : q < 16 * t ∨ 16 * t + 16 ≤ q) : newR S t n v 27 q = S 27 q := by
  show cpR t (cfR 64 n v (clrS S 4 n 27) n 0) 16 q = S 27 q
  unfold cpR
  rw [if_neg (by omega), cfR_o (by omega), clr_3 (by omega)]
theorem nw_at {S : Nat → Nat → Nat} {t n i j : Nat} {v : Nat → Nat → Nat} (h4 : n ≤ 4) (hi : i < n) (hj : j < n) : rC (newR S t n v) t (4 * i + j) = v i j := by
  show cpR t (cfR 64 n v (clrS S 4 n 27) n 0) 16 (16 * t + (4 * i + j) % 16) = _
  unfold cpR
  rw [Nat.mod_eq_of_lt (by omega), if_pos (by omega), show 64 + (16 * t + (4 * i + j) - 16 * t) = 64 + (4 * i + j) by omega, cfR_at hi hj h4]
theorem nw_o {S : Nat → Nat → Nat} {t n i : Nat} {v : Nat → Nat → Nat} (h : i < 26 ∨ 27 < i) : newR S t n v i = S i := by
  unfold newR cpyS
  rw [va_up_o (by omega), va_up_o (by omega), va_up_o (by omega), clr_4 h]
theorem INV_newR {S : Nat → Nat → Nat} {k n : Nat} {v w : Nat → Nat → Nat} (h : INV S) (hk : k < 4) (h1 : 1 ≤ n) (h4 : n ≤ 4) (hv : ∀ i, i < n → ∀ j, j < n → v i j < 2 ^ n) (hw : ∀ i, i < n → ∀ j, j < n → w i j = v i j) : INV (newR (newW S k n v) k n w) := by
  refine INV_new (k := k) (N := n) (v := v) (w := w) h hk h1 h4 hv hw (fun i hi => nw_o (by omega)) ?_ (fun u hu hne => ?_) (fun i hi j hj => nw_at h4 hi hj) (fun u hu hne q => rC_oth hne (fun q hq hr => ?_) hu) ?_
  · rw [nw_26 hk hk, if_pos rfl]
  · rw [nw_26 hk hu, if_neg hne, new_25 hk 26 (by decide)]
  · rw [nw_27 hq hr, new_25 hk 27 (by decide)]
  · rw [nw_o (by decide), new_25 hk 28 (by decide)]
theorem tcS_lt {n : Nat} {c : Nat → Nat} {t i j : Nat} : tcS n c t i j < 2 ^ n := by
  unfold tcS
  refine os_lt (fun k hk => ?_)
  have key : ∀ i j l, cbt c i j l <<< k < 2 ^ n := by
    intro i j l
    have h1 := and1_01 (c (4 * i + j) >>> l)
    unfold cbt
    rw [h1]
    split
    · exact shl1_lt hk
    · rw [Nat.zero_shiftLeft]; exact Nat.pow_pos (by decide)
  unfold tbS
  repeat' split
  all_goals exact key _ _ _
theorem tcS_cong {n : Nat} {c c' : Nat → Nat} {t i j : Nat} (hi : i < n) (hj : j < n) (h : ∀ i, i < n → ∀ j, j < n → c (4 * i + j) = c' (4 * i + j)) : tcS n c t i j = tcS n c' t i j := by
  unfold tcS
  have key : ∀ {f g : Nat → Nat} {m : Nat}, (∀ k, k < m → f k = g k) → os f m = os g m := by
    intro f g m
    induction m with
    | zero => intro _; rfl
    | succ m ih => intro hh; rw [os_s, os_s, ih (fun k hk => hh k (by omega)), hh m (by omega)]
  refine key (fun k hk => ?_)
  unfold tbS cbt
  rw [h i hi k hk, h j hj i hi, h j hj k hk, h k hk i hi, h k hk j hj, h i hi j hj]
theorem AG_c {S : Nat → Nat → Nat} (h : INV S) {u : Nat} (hu : u ≤ 3) : ∀ i, i < cN S u → ∀ j, j < cN S u → rC S u (4 * i + j) = cC S u (4 * i + j) := by
  have a := h.2.1 u (by omega)
  intro i hi j hj
  exact a.2 i (by rw [a.1]; exact hi) j (by rw [a.1]; exact hj)
theorem st_turn {S : Nat → Nat → Nat} {a b w : Int32} (h : INV S) : INV (nR_turn (nC_turn S a b w) a b w) := by
  unfold nR_turn nC_turn
  cases e : rB 0 3 a with
  | false => rw [rg_n e, rg_n e]; exact h
  | true =>
    obtain ⟨k, a1, a2, rfl⟩ := rB_some (by decide) (by decide) e
    rw [rg_y a1 a2 (by decide), rg_y a1 a2 (by decide)]
    cases e2 : rB 0 3 b with
    | false => rw [rg_n e2, rg_n e2]; exact h
    | true =>
      obtain ⟨u, b1, b2, rfl⟩ := rB_some (by decide) (by decide) e2
      rw [rg_y b1 b2 (by decide), rg_y b1 b2 (by decide)]
      cases e3 : rB 0 5 w with
      | false => rw [rg_n e3, rg_n e3]; exact h
      | true =>
        obtain ⟨T, c1, c2, rfl⟩ := rB_some (by decide) (by decide) e3
        rw [rg_y c1 c2 (by decide), rg_y c1 c2 (by decide)]
        obtain ⟨hn, ht, hn1, hn4, hcb⟩ := ag_k h b2
        rw [rN_same (new_25 (show k < 4 by omega)), rC_same (new_25 (show k < 4 by omega)), hn]
        exact INV_newR h (by omega) hn1 hn4 (fun i hi j hj => tcS_lt) (fun i hi j hj => tcS_cong hi hj (AG_c h b2))
theorem st_carry {S : Nat → Nat → Nat} {a b : Int32} (h : INV S) : INV (nR_carry (nC_carry S a b) a b) := by
  unfold nR_carry nC_carry
  cases e : rB 0 3 a with
  | false => rw [rg_n e, rg_n e]; exact h
  | true =>
    obtain ⟨k, a1, a2, rfl⟩ := rB_some (by decide) (by decide) e
    rw [rg_y a1 a2 (by decide), rg_y a1 a2 (by decide)]
    cases e2 : rB 0 3 b with
    | false => rw [rg_n e2, rg_n e2]; exact h
    | true =>
      obtain ⟨u, b1, b2, rfl⟩ := rB_some (by decide) (by decide) e2
      rw [rg_y b1 b2 (by decide), rg_y b1 b2 (by decide)]
      obtain ⟨hn, ht, hn1, hn4, hcb⟩ := ag_k h b2
      by_cases hm : amf (cM_ S) (cN S u) = true
      · rw [if_pos hm, rN_same (new_25 (show k < 4 by omega)), rC_same (new_25 (show k < 4 by omega)), rM_same (new_25 (show k < 4 by omega)), hn, if_pos (by rw [e_amf h]; exact hm)]
        refine INV_newR h (by omega) hn1 hn4 (fun i hi j hj => ?_) (fun i hi j hj => ?_)
        · unfold crS
          exact fit_lt (amf_m hm (by decide)) (tm_lt hcb _ _)
        · unfold crS src
          rw [ag_m h (m := 0) (by decide), ag_m h (m := 1) (by decide), ag_m h (m := 2) (by decide), ht]
      · rw [if_neg hm, hn, if_neg (by rw [e_amf h]; exact hm)]
        exact h
theorem put_o {S : Nat → Nat → Nat} {k I J V i : Nat} (h : i < 13 + 3 * k + 1 ∨ 13 + 3 * k + 2 < i) : putS S k I J V i = S i := by
  unfold putS
  rw [va_up_o (by omega), va_up_o (by omega)]
theorem st_put {S : Nat → Nat → Nat} {a x y v : Int32} (h : INV S) : INV (nR_put (nC_put S a x y v) a x y v) := by
  unfold nR_put nC_put
  cases e : rB 0 3 a with
  | false => rw [rg_n e, rg_n e]; exact h
  | true =>
    obtain ⟨k, a1, a2, rfl⟩ := rB_some (by decide) (by decide) e
    rw [rg_y a1 a2 (by decide), rg_y a1 a2 (by decide)]
    obtain ⟨hn, ht, hn1, hn4, hcb⟩ := ag_k h a2
    have hb := p2b hn4
    have hk : k < 4 := by omega
    cases e2 : rB 0 (2 ^ cN S k - 1) v with
    | false => rw [rg_n e2, hn, rg_n e2]; exact h
    | true =>
      obtain ⟨V, b1, b2, rfl⟩ := rB_some (by decide) hb.1 e2
      rw [rg_y b1 b2 hb.1]
      cases e3 : rB 0 (cN S k - 1) x with
      | false => rw [rg_n e3, hn, rg_y b1 b2 hb.1, rg_n e3]; exact h
      | true =>
        obtain ⟨I, c1, c2, rfl⟩ := rB_some (by decide) hb.2.2 e3
        rw [rg_y c1 c2 hb.2.2]
        cases e4 : rB 0 (cN S k - 1) y with
        | false => rw [rg_n e4, hn, rg_y b1 b2 hb.1, rg_y c1 c2 hb.2.2, rg_n e4]; exact h
        | true =>
          obtain ⟨J, d1, d2, rfl⟩ := rB_some (by decide) hb.2.2 e4
          have e25 : ∀ i, 25 ≤ i → putS S k I J V i = S i := fun i hi => put_o (by omega)
          rw [rg_y d1 d2 hb.2.2, rN_same e25, hn, rg_y b1 b2 hb.1, rg_y c1 c2 hb.2.2, rg_y d1 d2 hb.2.2]
          have p0 : 0 < 2 ^ cN S k := Nat.pow_pos (by decide)
          have o : ∀ i, i < 25 → (i < 13 + 3 * k + 1 ∨ 13 + 3 * k + 2 < i) → ptR (putS S k I J V) k I J V i = S i := by
            intro i hi hr
            unfold ptR
            rw [va_up_o (by omega), put_o hr]
          have o1 : ptR (putS S k I J V) k I J V (13 + 3 * k + 1) = va_up (cC S k) (4 * I + J) V := by
            unfold ptR putS
            rw [va_up_o (by omega), va_up_o (by omega), va_up_at]
          have o2 : ptR (putS S k I J V) k I J V (13 + 3 * k + 2) = pf (cN S k) (va_up (cC S k) (4 * I + J) V) (S (13 + 3 * k + 2)) (2 ^ cN S k) 0 := by
            unfold ptR putS
            rw [va_up_o (by omega), va_up_at]
          have o26 : ptR (putS S k I J V) k I J V 26 = S 26 := by
            unfold ptR
            rw [va_up_o (by decide), e25 26 (by decide)]
          have o27 : ptR (putS S k I J V) k I J V 27 = va_up (S 27) (16 * k + 4 * I + J) V := by
            unfold ptR
            rw [va_up_at, e25 27 (by decide)]
          have wk := h.1.2.1 k hk
          refine ⟨⟨wf_same h.1.1 (o 6 (by omega) (by omega)) (o 7 (by omega) (by omega)) (o 8 (by omega) (by omega)), fun u hu => ?_, fun m hm i hi => by rw [o (3 + m) (by omega) (by omega)]; exact h.1.2.2 m hm i hi⟩, fun u hu => ?_, fun m hm i hi => ?_⟩
          · by_cases e : u = k
            · subst e
              unfold wf
              rw [o1, o2, o (13 + 3 * u) (by omega) (by omega)]
              refine ⟨wk.1, fun i hi j hj => ?_, pf_OK (pow4 hn4)⟩
              unfold va_up
              by_cases hq : 4 * i + j = 4 * I + J
              · rw [if_pos hq]
                show V < 2 ^ cN S u
                omega
              · rw [if_neg hq]
                exact hcb i hi j hj
            · exact wf_same (h.1.2.1 u hu) (o _ (by omega) (by omega)) (o _ (by omega) (by omega)) (o _ (by omega) (by omega))
          · have a := h.2.1 u hu
            by_cases e : u = k
            · subst e
              rw [o26, o1, o (13 + 3 * u) (by omega) (by omega)]
              refine ⟨a.1, fun i hi j hj => ?_⟩
              have hi' : i < cN S u := by rw [a.1] at hi; exact hi
              have hj' : j < cN S u := by rw [a.1] at hj; exact hj
              have hh := a.2 i hi j hj
              unfold rC at hh ⊢
              rw [o27]
              rw [Nat.mod_eq_of_lt (by omega)] at hh ⊢
              unfold va_up
              by_cases hq : 4 * i + j = 4 * I + J
              · rw [if_pos hq, if_pos (by omega)]
              · rw [if_neg hq, if_neg (by omega)]
                exact hh
            · rw [o26, o (13 + 3 * u) (by omega) (by omega), o (13 + 3 * u + 1) (by omega) (by omega)]
              refine ⟨a.1, fun i hi j hj => ?_⟩
              have hh := a.2 i hi j hj
              unfold rC at hh ⊢
              rw [o27, va_up_o (by omega)]
              exact hh
          · rw [o (3 + m) (by omega) (by omega), ← h.2.2 m hm i hi]
            show ptR (putS S k I J V) k I J V 28 _ = S 28 _
            unfold ptR
            rw [va_up_o (by decide), e25 28 (by decide)]
theorem st_map {S : Nat → Nat → Nat} {a x v : Int32} (h : INV S) : INV (nR_map (nC_map S a x v) a x v) := by
  unfold nR_map nC_map
  cases e : rB 0 2 a with
  | false => rw [rg_n e, rg_n e]; exact h
  | true =>
    obtain ⟨g, a1, a2, rfl⟩ := rB_some (by decide) (by decide) e
    rw [rg_y a1 a2 (by decide), rg_y a1 a2 (by decide)]
    cases e2 : rB 0 3 x with
    | false => rw [rg_n e2, rg_n e2]; exact h
    | true =>
      obtain ⟨I, b1, b2, rfl⟩ := rB_some (by decide) (by decide) e2
      rw [rg_y b1 b2 (by decide), rg_y b1 b2 (by decide)]
      cases e3 : rB 0 15 v with
      | false => rw [rg_n e3, rg_n e3]; exact h
      | true =>
        obtain ⟨V, c1, c2, rfl⟩ := rB_some (by decide) (by decide) e3
        rw [rg_y c1 c2 (by decide), rg_y c1 c2 (by decide), va_up_o (show 28 ≠ 3 + g by omega)]
        have o : ∀ i, i ≠ 28 → i ≠ 3 + g → va_up (va_up S (3 + g) (va_up (S (3 + g)) I V)) 28 (va_up (S 28) (4 * g + I) V) i = S i := fun i h1 h2 => by rw [va_up_o h1, va_up_o h2]
        refine ⟨⟨wf_same h.1.1 (o 6 (by omega) (by omega)) (o 7 (by omega) (by omega)) (o 8 (by omega) (by omega)), fun u hu => wf_same (h.1.2.1 u hu) (o _ (by omega) (by omega)) (o _ (by omega) (by omega)) (o _ (by omega) (by omega)), fun m hm i hi => ?_⟩, fun u hu => ?_, fun m hm i hi => ?_⟩
        · by_cases e : m = g
          · subst e
            rw [va_up_o (by omega), va_up_at]
            unfold va_up
            by_cases hq : i = I
            · rw [if_pos hq]; omega
            · rw [if_neg hq]; exact h.1.2.2 m hm i hi
          · rw [o _ (by omega) (by omega)]
            exact h.1.2.2 m hm i hi
        · have a := h.2.1 u hu
          unfold rC at a ⊢
          rw [o 26 (by omega) (by omega), o 27 (by omega) (by omega), o (13 + 3 * u) (by omega) (by omega), o (13 + 3 * u + 1) (by omega) (by omega)]
          exact a
        · have a := h.2.2 m hm i hi
          unfold rM at a ⊢
          rw [va_up_at]
          by_cases e : m = g
          · subst e
            rw [va_up_o (show 3 + m ≠ 28 by omega), va_up_at]
            unfold va_up
            by_cases hq : i = I
            · rw [if_pos hq, if_pos (by omega)]
            · rw [if_neg hq, if_neg (by omega)]; exact a
          · rw [o _ (by omega) (by omega), va_up_o (by omega)]
            exact a
theorem cbR_o {S : Nat → Nat → Nat} {N q : Nat} (hq : q < 64) : ∀ c, cbR S N c q = S 27 q
  | 0 => by
    show clrS S 4 N 27 q = _
    exact clr_3 (by omega)
  | c + 1 => by
    show fR N (rcV c N) (cbR S N c) (N * N) q = _
    unfold fR
    rw [if_neg (by omega), cbR_o hq c]
theorem st_cubes {S : Nat → Nat → Nat} {x : Int32} (h : INV S) : INV (nR_cubes (nC_cubes S x) x) := by
  unfold nR_cubes nC_cubes
  cases e : rB 1 2 x with
  | false => rw [rg_n e, rg_n e]; exact h
  | true =>
    obtain ⟨N, a1, a2, rfl⟩ := rB_some (by decide) (by decide) e
    rw [rg_y a1 a2 (by decide), rg_y a1 a2 (by decide)]
    have o : ∀ i, i < 26 ∨ 27 < i → cbSt (cubS S N (2 ^ (N * N * N))) N (cbR (cubS S N (2 ^ (N * N * N))) N (2 ^ (N * N * N))) i = cubS S N (2 ^ (N * N * N)) i := by
      intro i hi
      unfold cbSt
      rw [va_up_o (by omega), clr_4 (by omega)]
    refine INV_keep h ?_ (fun i hi hr => ?_) (fun u hu => ?_) (fun q hq => ?_) ?_
    · exact wf_same (cub_wf a1 (by omega) h.1.1 _) (o 6 (by omega)) (o 7 (by omega)) (o 8 (by omega))
    · rw [o i (by omega), cub_o (by omega)]
    · unfold cbSt
      rw [va_up_o (by decide), clr_2 (by omega), cub_o (by omega)]
    · unfold cbSt
      rw [va_up_at, cbR_o hq, cub_o (by omega)]
    · rw [o 28 (by omega), cub_o (by omega)]
theorem wO_all {S : Nat → Nat → Nat} {a b : Int32} : ∀ i, i < 10 ∨ 12 < i → nC_ways S a b i = S i := by
  intro i hi
  unfold nC_ways
  refine rg_cas (P := fun T : Nat → Nat → Nat => T i = S i) (by decide) (by decide) rfl (fun k _ _ => ?_)
  refine rg_cas (P := fun T : Nat → Nat → Nat => T i = S i) (by decide) (by decide) rfl (fun u _ _ => ?_)
  split
  · rfl
  · split
    · rfl
    · split
      · rfl
      · exact wO_u hi
theorem nR_all {S : Nat → Nat → Nat} {a b : Int32} : ∀ i, i < 29 → nR_ways S a b i = S i := by
  intro i hi
  unfold nR_ways
  refine rg_cas (P := fun T : Nat → Nat → Nat => T i = S i) (by decide) (by decide) rfl (fun k _ _ => ?_)
  refine rg_cas (P := fun T : Nat → Nat → Nat => T i = S i) (by decide) (by decide) rfl (fun u _ _ => ?_)
  split
  · rfl
  · split
    · rfl
    · split
      · rfl
      · rw [wfS_o (by omega)]
        unfold wyS
        rw [va_up_o (by omega)]
theorem st_ways {S : Nat → Nat → Nat} {a b : Int32} (h : INV S) : INV (nR_ways (nC_ways S a b) a b) := by
  have o : ∀ i, i < 10 ∨ 12 < i → i < 29 → nR_ways (nC_ways S a b) a b i = S i := fun i h1 h2 => by rw [nR_all i h2, wO_all i h1]
  refine INV_keep h (wf_same h.1.1 (o 6 (by omega) (by omega)) (o 7 (by omega) (by omega)) (o 8 (by omega) (by omega))) (fun i hi hr => o i (by omega) (by omega)) (fun u hu => by rw [o 26 (by omega) (by omega)]) (fun q hq => by rw [o 27 (by omega) (by omega)]) (o 28 (by omega) (by omega))
/-! the reference reads what the class left alone -/
theorem c25_world {S : Nat → Nat → Nat} {a x : Int32} : ∀ i, 25 ≤ i → nC_world S a x i = S i := by
  intro i hi
  unfold nC_world
  refine rg_cas (P := fun T : Nat → Nat → Nat => T i = S i) (by decide) (by decide) rfl (fun k _ hk => ?_)
  refine rg_cas (P := fun T : Nat → Nat → Nat => T i = S i) (by decide) (by decide) rfl (fun N _ _ => ?_)
  exact new_25 (by omega) i hi
theorem c25_field {S : Nat → Nat → Nat} {a x : Int32} : ∀ i, 25 ≤ i → nC_field S a x i = S i := by
  intro i hi
  unfold nC_field
  refine rg_cas (P := fun T : Nat → Nat → Nat => T i = S i) (by decide) (by decide) rfl (fun k _ hk => ?_)
  refine rg_cas (P := fun T : Nat → Nat → Nat => T i = S i) (by decide) (by decide) rfl (fun N _ _ => ?_)
  exact new_25 (by omega) i hi
theorem c25_turn {S : Nat → Nat → Nat} {a b w : Int32} : ∀ i, 25 ≤ i → nC_turn S a b w i = S i := by
  intro i hi
  unfold nC_turn
  refine rg_cas (P := fun T : Nat → Nat → Nat => T i = S i) (by decide) (by decide) rfl (fun k _ hk => ?_)
  refine rg_cas (P := fun T : Nat → Nat → Nat => T i = S i) (by decide) (by decide) rfl (fun u _ _ => ?_)
  refine rg_cas (P := fun T : Nat → Nat → Nat => T i = S i) (by decide) (by decide) rfl (fun T _ _ => ?_)
  exact new_25 (by omega) i hi
theorem c25_carry {S : Nat → Nat → Nat} {a b : Int32} : ∀ i, 25 ≤ i → nC_carry S a b i = S i := by
  intro i hi
  unfold nC_carry
  refine rg_cas (P := fun T : Nat → Nat → Nat => T i = S i) (by decide) (by decide) rfl (fun k _ hk => ?_)
  refine rg_cas (P := fun T : Nat → Nat → Nat => T i = S i) (by decide) (by decide) rfl (fun u _ _ => ?_)
  split
  · exact new_25 (by omega) i hi
  · rfl
theorem c25_map {S : Nat → Nat → Nat} {a x v : Int32} : ∀ i, 25 ≤ i → nC_map S a x v i = S i := by
  intro i hi
  unfold nC_map
  refine rg_cas (P := fun T : Nat → Nat → Nat => T i = S i) (by decide) (by decide) rfl (fun g _ hg => ?_)
  refine rg_cas (P := fun T : Nat → Nat → Nat => T i = S i) (by decide) (by decide) rfl (fun I _ _ => ?_)
  refine rg_cas (P := fun T : Nat → Nat → Nat => T i = S i) (by decide) (by decide) rfl (fun V _ _ => ?_)
  exact va_up_o (by omega)
theorem c25_cubes {S : Nat → Nat → Nat} {x : Int32} : ∀ i, 25 ≤ i → nC_cubes S x i = S i := by
  intro i hi
  unfold nC_cubes
  refine rg_cas (P := fun T : Nat → Nat → Nat => T i = S i) (by decide) (by decide) rfl (fun N _ _ => ?_)
  exact cub_o (by omega) _
theorem c25_put {S : Nat → Nat → Nat} {a x y v : Int32} (h : INV S) : ∀ i, 25 ≤ i → nC_put S a x y v i = S i := by
  intro i hi
  unfold nC_put
  refine rg_cas (P := fun T : Nat → Nat → Nat => T i = S i) (by decide) (by decide) rfl (fun k _ hk => ?_)
  have hb := p2b (ag_k h hk).2.2.2.1
  refine rg_cas (P := fun T : Nat → Nat → Nat => T i = S i) (by decide) hb.1 rfl (fun V _ _ => ?_)
  refine rg_cas (P := fun T : Nat → Nat → Nat => T i = S i) (by decide) hb.2.2 rfl (fun I _ _ => ?_)
  refine rg_cas (P := fun T : Nat → Nat → Nat => T i = S i) (by decide) hb.2.2 rfl (fun J _ _ => ?_)
  exact put_o (by omega)
theorem c25_ways {S : Nat → Nat → Nat} {a b : Int32} : ∀ i, 25 ≤ i → nC_ways S a b i = S i := fun i hi => wO_all i (by omega)
