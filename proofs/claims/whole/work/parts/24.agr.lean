/-! both sides hold the same worlds and maps -/
def AG (S : Nat → Nat → Nat) : Prop := (∀ k, k < 4 → S 26 k = S (13 + 3 * k) 0 ∧ ∀ i, i < S 26 k → ∀ j, j < S 26 k → rC S k (4 * i + j) = S (13 + 3 * k + 1) (4 * i + j)) ∧ ∀ m, m < 3 → ∀ i, i < 4 → rM S m i = S (3 + m) i
def INV (S : Nat → Nat → Nat) : Prop := WF S ∧ AG S
theorem INV.RF {S : Nat → Nat → Nat} (h : INV S) : RF S := by
  refine ⟨fun s hs => ?_, fun m hm i hi => ?_⟩
  · have a := h.2.1 s hs
    have b := h.1.2.1 s hs
    rw [a.1]
    refine ⟨⟨b.1.1, b.1.2.1⟩, fun i hi j hj => ?_⟩
    rw [a.2 i (by rw [a.1]; exact hi) j (by rw [a.1]; exact hj)]
    exact b.2.1 i hi j hj
  · rw [h.2.2 m hm i hi]
    exact h.1.2.2 m hm i hi
theorem RF_same {S S' : Nat → Nat → Nat} (h : RF S) (e : ∀ i, 25 ≤ i → S' i = S i) : RF S' := by
  have e1 := e 26 (by decide)
  have e2 := e 27 (by decide)
  have e3 := e 28 (by decide)
  unfold RF rC rM at h ⊢
  rw [e1, e2, e3]
  exact h
theorem rN_same {S S' : Nat → Nat → Nat} (e : ∀ i, 25 ≤ i → S' i = S i) : rN_ S' = rN_ S := by
  funext k
  show S' 26 k = S 26 k
  rw [e 26 (by decide)]
theorem rC_same {S S' : Nat → Nat → Nat} (e : ∀ i, 25 ≤ i → S' i = S i) : rC S' = rC S := by
  funext k q
  unfold rC
  rw [e 27 (by decide)]
theorem rM_same {S S' : Nat → Nat → Nat} (e : ∀ i, 25 ≤ i → S' i = S i) : rM S' = rM S := by
  funext k q
  unfold rM
  rw [e 28 (by decide)]
theorem ag_k {S : Nat → Nat → Nat} (h : INV S) {k : Nat} (hk : k ≤ 3) : rN_ S k = cN S k ∧ tm (cN S k) (rC S k) = tm (cN S k) (cC S k) ∧ 1 ≤ cN S k ∧ cN S k ≤ 4 ∧ CB (cN S k) (cC S k) := by
  have a := h.2.1 k (by omega)
  have b := h.1.2.1 k (by omega)
  refine ⟨a.1, tm_cong (fun i hi j hj => a.2 i ?_ j ?_), b.1.1, b.1.2.1, b.2.1⟩
  · rw [a.1]; exact hi
  · rw [a.1]; exact hj
theorem ag_m {S : Nat → Nat → Nat} (h : INV S) {m : Nat} (hm : m ≤ 2) : im (rM S m) = im (cM_ S m) := by
  funext x
  refine xs_cong (fun i hi => ?_)
  show (if _ then rM S m i else 0) = (if _ then S (3 + m) i else 0)
  rw [h.2.2 m (by omega) i hi]
theorem rg_cong {α : Type} {lo hi : Nat} {x : Int32} {els : α} {f g : Nat → α} (hl : lo < 2 ^ 31) (hh : hi < 2 ^ 31) (h : ∀ k, lo ≤ k → k ≤ hi → f k = g k) : rg lo hi x els f = rg lo hi x els g := by
  cases e : rB lo hi x with
  | false => rw [rg_n e, rg_n e]
  | true =>
    obtain ⟨k, h1, h2, h3⟩ := rB_some hl hh e
    rw [h3, rg_y h1 h2 hh, rg_y h1 h2 hh, h k h1 h2]
theorem rg_cas {α : Type} {P : α → Prop} {lo hi : Nat} {x : Int32} {els : α} {f : Nat → α} (hl : lo < 2 ^ 31) (hh : hi < 2 ^ 31) (h1 : P els) (h2 : ∀ k, lo ≤ k → k ≤ hi → P (f k)) : P (rg lo hi x els f) := by
  cases e : rB lo hi x with
  | false => rw [rg_n e]; exact h1
  | true =>
    obtain ⟨k, a1, a2, a3⟩ := rB_some hl hh e
    rw [a3, rg_y a1 a2 hh]
    exact h2 k a1 a2
theorem p2b {n : Nat} (h : n ≤ 4) : 2 ^ n - 1 < 2 ^ 31 ∧ 2 ^ n * 2 ^ n + 2 ^ n < 2 ^ 31 ∧ n - 1 < 2 ^ 31 := by
  have := pow4 h
  have := sq4 this
  omega
/-! what is told of a world is told of its products -/
section TC
variable {n : Nat} {c c' : Nat → Nat}
theorem brS_cong (h : tm n c = tm n c') : brS n c = brS n c' := by
  funext B
  unfold brS
  rw [lbr_cong h, lpr_cong h]
theorem unt_cong (h : tm n c = tm n c') : unt n c = unt n c' := by
  unfold unt
  rw [show isU n c = isU n c' from by funext e; unfold isU; rw [h]]
theorem slv_cong (h : tm n c = tm n c') : slv n c = slv n c' := by
  funext x z L
  unfold slv
  rw [show slp n c x z L = slp n c' x z L from by funext y; unfold slp; rw [h]]
theorem jnB_cong (h : tm n c = tm n c') : jnB n c = jnB n c' := by
  funext x w
  unfold jnB comB assB asw iop
  rw [h]
theorem unl_cong (h : tm n c = tm n c') : unl n c = unl n c' := by
  unfold unl
  rw [h]
theorem lsB_cong (h : tm n c = tm n c') : lsB n c = lsB n c' := by
  funext P Q
  unfold lsB
  rw [h]
theorem ltS_cong (h : tm n c = tm n c') : ltS n c = ltS n c' := by
  funext a b
  unfold ltS ltM
  rw [slv_cong h, h]
theorem mtS_cong (h : tm n c = tm n c') : mtS n c = mtS n c' := by
  funext a b
  unfold mtS ltM
  rw [slv_cong h, h]
theorem cbS_cong (h : tm n c = tm n c') : cbS n c = cbS n c' := by
  unfold cbS
  rw [show cbF n c = cbF n c' from by funext d; unfold cbF; rw [lpr_cong h]]
theorem rnk_cong (h : tm n c = tm n c') : rnk n c = rnk n c' := by
  funext y
  unfold rnk
  rw [h]
end TC
section EQ
variable {S : Nat → Nat → Nat} {a b x y z w : Int32} {B : Bool}
theorem e_product (h : INV S) : sC_product (rN_ S) (rC S) a x y = sC_product (cN S) (cC S) a x y := by
  unfold sC_product
  refine rg_cong (by decide) (by decide) (fun k h1 h2 => ?_)
  obtain ⟨hn, ht, hn1, hn4, hcb⟩ := ag_k h h2
  have hb := p2b hn4
  rw [hn]
  refine rg_cong (by decide) hb.1 (fun X _ _ => ?_)
  refine rg_cong (by decide) hb.1 (fun Y _ _ => ?_)
  rw [ht]
theorem e_divides (h : INV S) : sC_divides (rN_ S) (rC S) a = sC_divides (cN S) (cC S) a := by
  unfold sC_divides
  refine rg_cong (by decide) (by decide) (fun k h1 h2 => ?_)
  obtain ⟨hn, ht, hn1, hn4, hcb⟩ := ag_k h h2
  have hb := p2b hn4
  rw [hn]
  rw [lbr_cong ht]
theorem e_broken (h : INV S) : sC_broken (rN_ S) (rC S) a B = sC_broken (cN S) (cC S) a B := by
  unfold sC_broken
  refine rg_cong (by decide) (by decide) (fun k h1 h2 => ?_)
  obtain ⟨hn, ht, hn1, hn4, hcb⟩ := ag_k h h2
  have hb := p2b hn4
  rw [hn]
  rw [brS_cong ht]
theorem e_one (h : INV S) : sC_one (rN_ S) (rC S) a = sC_one (cN S) (cC S) a := by
  unfold sC_one
  refine rg_cong (by decide) (by decide) (fun k h1 h2 => ?_)
  obtain ⟨hn, ht, hn1, hn4, hcb⟩ := ag_k h h2
  have hb := p2b hn4
  rw [hn]
  rw [unt_cong ht]
theorem e_quotient (h : INV S) : sC_quotient (rN_ S) (rC S) a x z B = sC_quotient (cN S) (cC S) a x z B := by
  unfold sC_quotient
  refine rg_cong (by decide) (by decide) (fun k h1 h2 => ?_)
  obtain ⟨hn, ht, hn1, hn4, hcb⟩ := ag_k h h2
  have hb := p2b hn4
  rw [hn]
  refine rg_cong (by decide) hb.1 (fun X _ _ => ?_)
  refine rg_cong (by decide) hb.1 (fun Z _ _ => ?_)
  rw [slv_cong ht]
theorem e_joins (h : INV S) : sC_joins (rN_ S) (rC S) a x w = sC_joins (cN S) (cC S) a x w := by
  unfold sC_joins
  refine rg_cong (by decide) (by decide) (fun k h1 h2 => ?_)
  obtain ⟨hn, ht, hn1, hn4, hcb⟩ := ag_k h h2
  have hb := p2b hn4
  rw [hn]
  refine rg_cong (by decide) hb.1 (fun X _ _ => ?_)
  refine rg_cong (by decide) (by decide) (fun V _ _ => ?_)
  rw [jnB_cong ht]
theorem e_many (h : INV S) : sC_many (rN_ S) (rC S) a w = sC_many (cN S) (cC S) a w := by
  unfold sC_many
  refine rg_cong (by decide) (by decide) (fun k h1 h2 => ?_)
  obtain ⟨hn, ht, hn1, hn4, hcb⟩ := ag_k h h2
  have hb := p2b hn4
  rw [hn]
  refine rg_cong (by decide) (by decide) (fun V _ _ => ?_)
  rw [jnB_cong ht]
theorem e_unlike (h : INV S) : sC_unlike (rN_ S) (rC S) a = sC_unlike (cN S) (cC S) a := by
  unfold sC_unlike
  refine rg_cong (by decide) (by decide) (fun k h1 h2 => ?_)
  obtain ⟨hn, ht, hn1, hn4, hcb⟩ := ag_k h h2
  have hb := p2b hn4
  rw [hn]
  rw [unl_cong ht]
theorem e_on (h : INV S) : sC_on (rN_ S) (rC S) a x y = sC_on (cN S) (cC S) a x y := by
  unfold sC_on
  refine rg_cong (by decide) (by decide) (fun k h1 h2 => ?_)
  obtain ⟨hn, ht, hn1, hn4, hcb⟩ := ag_k h h2
  have hb := p2b hn4
  rw [hn]
  refine rg_cong (by decide) hb.2.1 (fun X _ _ => ?_)
  refine rg_cong (by decide) hb.2.1 (fun Y _ _ => ?_)
  rw [lsB_cong ht]
theorem CB_r (h : INV S) {k : Nat} (hk : k ≤ 3) : CB (cN S k) (rC S k) := by
  have := (h.RF.1 k (by omega)).2
  rw [show S 26 k = cN S k from (ag_k h hk).1] at this
  exact this
theorem e_join (h : INV S) : sR_join (rN_ S) (rC S) true a x y = sC_join (cN S) (cC S) a x y := by
  unfold sR_join sC_join
  refine rg_cong (by decide) (by decide) (fun k h1 h2 => ?_)
  obtain ⟨hn, ht, hn1, hn4, hcb⟩ := ag_k h h2
  have hb := p2b hn4
  rw [hn]
  refine rg_cong (by decide) hb.2.1 (fun X _ hX => ?_)
  refine rg_cong (by decide) hb.2.1 (fun Y _ hY => ?_)
  by_cases he : X = Y
  · rw [if_pos he, if_pos he]
  · rw [if_neg he, if_neg he, join_eq (CB_r h h2) he hX hY, ltS_cong ht]
theorem e_meet (h : INV S) : sR_join (rN_ S) (rC S) false a x y = sC_meet (cN S) (cC S) a x y := by
  unfold sR_join sC_meet
  refine rg_cong (by decide) (by decide) (fun k h1 h2 => ?_)
  obtain ⟨hn, ht, hn1, hn4, hcb⟩ := ag_k h h2
  have hb := p2b hn4
  rw [hn]
  refine rg_cong (by decide) hb.2.1 (fun X _ hX => ?_)
  refine rg_cong (by decide) hb.2.1 (fun Y _ hY => ?_)
  by_cases he : X = Y
  · rw [if_pos he, if_pos he]
  · rw [if_neg he, if_neg he, meet_eq (CB_r h h2) he hX hY, mtS_cong ht]
theorem e_bad (h : INV S) : sR_bad (rN_ S) (rC S) a = sC_bad (cN S) (cC S) a := by
  unfold sR_bad sC_bad
  refine rg_cong (by decide) (by decide) (fun k h1 h2 => ?_)
  obtain ⟨hn, ht, hn1, hn4, hcb⟩ := ag_k h h2
  have hb := p2b hn4
  rw [hn]
  rw [bd_eq (CB_r h h2), cbS_cong ht]
theorem e_rank (h : INV S) : sC_rank (rN_ S) (rC S) a y = sC_rank (cN S) (cC S) a y := by
  unfold sC_rank
  refine rg_cong (by decide) (by decide) (fun k h1 h2 => ?_)
  obtain ⟨hn, ht, hn1, hn4, hcb⟩ := ag_k h h2
  have hb := p2b hn4
  rw [hn]
  refine rg_cong (by decide) hb.1 (fun Y _ _ => ?_)
  rw [rnk_cong ht]
theorem e_ranks (h : INV S) : sC_ranks (rN_ S) (rC S) a x = sC_ranks (cN S) (cC S) a x := by
  unfold sC_ranks
  refine rg_cong (by decide) (by decide) (fun k h1 h2 => ?_)
  obtain ⟨hn, ht, hn1, hn4, hcb⟩ := ag_k h h2
  have hb := p2b hn4
  rw [hn]
  refine rg_cong (by decide) (by decide) (fun X _ _ => ?_)
  rw [rnk_cong ht]
theorem fitB_imc {f f' : Nat → Nat} {n : Nat} (h : im f = im f') : fitB f n = fitB f' n := by
  unfold fitB
  rw [h]
theorem e_gives (h : INV S) : sC_gives (rM S) a x = sC_gives (cM_ S) a x := by
  unfold sC_gives
  refine rg_cong (by decide) (by decide) (fun k h1 h2 => ?_)
  rw [ag_m h h2]
theorem e_fits (h : INV S) : sC_fits (rM S) a x = sC_fits (cM_ S) a x := by
  unfold sC_fits
  refine rg_cong (by decide) (by decide) (fun k h1 h2 => ?_)
  refine rg_cong (by decide) (by decide) (fun N _ _ => ?_)
  rw [fitB_imc (ag_m h h2)]
theorem e_amf (h : INV S) (n : Nat) : amf (rM S) n = amf (cM_ S) n := al_cong (fun m hm => fitB_imc (ag_m h (by omega)))
theorem e_alike (h : INV S) : sC_alike (rN_ S) (rC S) (rM S) a b = sC_alike (cN S) (cC S) (cM_ S) a b := by
  unfold sC_alike
  refine rg_cong (by decide) (by decide) (fun k h1 h2 => ?_)
  refine rg_cong (by decide) (by decide) (fun j g1 g2 => ?_)
  obtain ⟨hn, ht, hn1, hn4, hcb⟩ := ag_k h h2
  obtain ⟨hn', ht', _⟩ := ag_k h g2
  rw [hn, hn']
  by_cases he : cN S k = cN S j
  · rw [if_pos he, if_pos he, e_amf h]
    congr 2
    unfold mcS
    rw [he] at ht ⊢
    rw [ag_m h (m := 0) (by decide), ag_m h (m := 1) (by decide), ag_m h (m := 2) (by decide), ht, ht']
  · rw [if_neg he, if_neg he]
theorem e_put (h : INV S) {v : Int32} : sC_put (rN_ S) (rC S) a x y v = sC_put (cN S) (cC S) a x y v := by
  unfold sC_put
  refine rg_cong (by decide) (by decide) (fun k h1 h2 => ?_)
  obtain ⟨hn, ht, hn1, hn4, hcb⟩ := ag_k h h2
  have hb := p2b hn4
  have hn' : S 26 k = cN S k := hn
  rw [hn]
  refine rg_cong (by decide) hb.1 (fun V _ _ => ?_)
  refine rg_cong (by decide) hb.2.2 (fun I _ hI => ?_)
  refine rg_cong (by decide) hb.2.2 (fun J _ hJ => ?_)
  rw [(h.2.1 k (by omega)).2 I (by omega) J (by omega)]
theorem e_map (h : INV S) {v : Int32} : sC_map (rM S) a x v = sC_map (cM_ S) a x v := by
  unfold sC_map
  refine rg_cong (by decide) (by decide) (fun m h1 h2 => ?_)
  refine rg_cong (by decide) (by decide) (fun I _ hI => ?_)
  refine rg_cong (by decide) (by decide) (fun V _ _ => ?_)
  rw [h.2.2 m (by omega) I (by omega)]
theorem e_carry (h : INV S) : sC_carry (rN_ S) (rM S) a b = sC_carry (cN S) (cM_ S) a b := by
  unfold sC_carry
  refine rg_cong (by decide) (by decide) (fun k h1 h2 => ?_)
  refine rg_cong (by decide) (by decide) (fun j g1 g2 => ?_)
  rw [(ag_k h g2).1, e_amf h]
theorem e_ways (h : INV S) : sR_ways (rN_ S) (rC S) a b = sC_ways (cN S) (cC S) a b := by
  unfold sR_ways sC_ways
  refine rg_cong (by decide) (by decide) (fun k h1 h2 => ?_)
  refine rg_cong (by decide) (by decide) (fun j g1 g2 => ?_)
  obtain ⟨hn, ht, hn1, hn4, hcb⟩ := ag_k h h2
  obtain ⟨hn', ht', hm1, hm4, hcb'⟩ := ag_k h g2
  rw [hn, hn', lbr_cong ht, lbr_cong ht']
  by_cases c1 : ¬ cN S k = cN S j ∨ 3 < cN S k
  · rw [if_pos c1, if_pos c1]
  · rw [if_neg c1, if_neg c1]
    by_cases c2 : (lbr (cN S k) (cC S k)).isNone = false
    · rw [if_pos c2, if_pos c2]
    · rw [if_neg c2, if_neg c2]
      by_cases c3 : (lbr (cN S j) (cC S j)).isNone = false
      · rw [if_pos c3, if_pos c3]
      · rw [if_neg c3, if_neg c3]
        have e : cN S k = cN S j := Classical.byContradiction fun z => c1 (Or.inl z)
        have e3 : cN S k ≤ 3 := Nat.le_of_not_lt fun z => c1 (Or.inr z)
        have d1 : lbr (cN S k) (cC S k) = none := by simpa using c2
        have d2 : lbr (cN S j) (cC S j) = none := by simpa using c3
        rw [← e] at ht' d2 hcb'
        rw [ht, ht', wy_eq hn1 e3 d1 d2 hcb hcb']
end EQ
