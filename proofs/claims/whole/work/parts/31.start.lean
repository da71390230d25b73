/-! the law from its entry -/
def S0 (i : Nat) : Nat → Nat := if i < 25 then S2 i else S3 i
theorem wf_0 {b : Nat} (h0 : S0 b = obS 1 (2 ^ 1)) (h1 : S0 (b + 1) = oneC) (h2 : S0 (b + 2) = pf 1 oneC (fun _ => 0) (2 ^ 1) 0) : wf S0 b := by
  unfold wf
  rw [h0, h1, h2]
  refine ⟨⟨by decide, by decide, rfl⟩, fun i hi j hj => ?_, pf_OK (by decide)⟩
  have hi : i < 1 := hi
  have hj : j < 1 := hj
  rw [show i = 0 by omega, show j = 0 by omega]
  show oneC 0 < 2
  decide
theorem INV_0 : INV S0 := by
  refine ⟨⟨wf_0 rfl rfl rfl, fun k hk => ?_, fun m hm i hi => ?_⟩, fun k hk => ?_, fun m hm i hi => ?_⟩
  · rcases (show k = 0 ∨ k = 1 ∨ k = 2 ∨ k = 3 by omega) with e | e | e | e <;> subst e <;> exact wf_0 rfl rfl rfl
  · rcases (show m = 0 ∨ m = 1 ∨ m = 2 by omega) with e | e | e <;> subst e <;> exact (by decide : (0 : Nat) < 16)
  · rcases (show k = 0 ∨ k = 1 ∨ k = 2 ∨ k = 3 by omega) with e | e | e | e <;> subst e
    all_goals
      refine ⟨rfl, fun i hi j hj => ?_⟩
      have hi : i < 1 := hi
      have hj : j < 1 := hj
      rw [show i = 0 by omega, show j = 0 by omega]
      rfl
  · rcases (show m = 0 ∨ m = 1 ∨ m = 2 by omega) with e | e | e <;> subst e <;> rfl
theorem gE_cong {cI cW cM : ClassId} {ad ad' : Nat → Nat} {S S' : Nat → Nat → Nat} (h : ∀ j, j < 25 → ad j = ad' j) {i : Nat} (hi : i < 25) (hS : S i = S' i) : gE cI cW cM ad S i = gE cI cW cM ad' S' i := by
  unfold gE
  rw [hS]
  by_cases h0 : i = 0
  · rw [if_pos h0, if_pos h0, h 1 (by decide), h 2 (by decide), h 6 (by decide), h 9 (by decide), h 10 (by decide), h 11 (by decide), h 12 (by decide)]
  · rw [if_neg h0, if_neg h0]
    by_cases h1 : i = 1
    · rw [if_pos h1, if_pos h1]
      refine congrArg (fun f => (Sum.inl (cW, 4, Sum.inr (Sum.inr (Sum.inr (Sum.inr f)))) : va_E)) (funext fun k => ?_)
      by_cases hk : k < 4
      · rw [if_pos hk, if_pos hk, h _ (by omega)]
      · rw [if_neg hk, if_neg hk]
    · rw [if_neg h1, if_neg h1]
      by_cases h2 : i = 2
      · rw [if_pos h2, if_pos h2]
        refine congrArg (fun f => (Sum.inl (cM, 3, Sum.inr (Sum.inr (Sum.inr (Sum.inr f)))) : va_E)) (funext fun k => ?_)
        by_cases hk : k < 3
        · rw [if_pos hk, if_pos hk, h _ (by omega)]
        · rw [if_neg hk, if_neg hk]
      · have h25 : ¬ i = 25 := by omega
        rw [if_neg h2, if_neg h2, if_neg h25, if_neg h25]
        by_cases ho : isO i = true
        · have ho2 := ho
          simp only [isO, Bool.or_eq_true, beq_iff_eq] at ho2
          rw [if_pos ho, if_pos ho, h (i + 1) (by omega), h (i + 2) (by omega)]
        · rw [if_neg ho, if_neg ho]
set_option maxHeartbeats 8000000 in
set_option maxRecDepth 100000 in
/-- from the entry the law comes to its end with true -/
theorem whole_start {p : Program} {e : Env} {s : State} {m : MethodId} {below : List Frame} {meth : Method} {c : Code} (l : Launch) (hflags : l.flags = flags0) {b L : Nat} {xs : Nat → Int32} (hL : L ≤ 2560) (C0 : lw_At p s m meth c b L xs) : W p l e room_1 s m #[Value.ref b] below meth c s.heap [] 0 0 (lw_Z below #[Value.ref b] s) (entryFrame m ([Value.ref b] : List Value).toArray 4) := by
  obtain ⟨hx, hb, hr, hml, hown, hts0, hX, hbl, hlocks, hgv⟩ := id C0
  have hts := lw_of hts0
  have hA : ∀ q : Nat, s.heap.size ≤ q → (fun q : Nat => s.heap.size ≤ q) q := fun _ h => h
  obtain ⟨tz, hZ⟩ := zf_of hgv hts0
  obtain ⟨c0, iS0, hKn0⟩ := u_known (C := RX1) (T := TX1) (N := 4) (n := 4) hts inlX1 (hts (.instantiable RX1 4) (by decide +kernel))
  obtain ⟨c1, iS1, hKn1⟩ := u_known (C := RX2) (T := TX2) (N := 7) (n := 7) hts inlX2 (hts (.instantiable RX2 7) (by decide +kernel))
  obtain ⟨c2, iS2, hKn2⟩ := u_known (C := RX3) (T := TX3) (N := 7) (n := 7) hts inlX3 (hts (.instantiable RX3 7) (by decide +kernel))
  obtain ⟨dC, dI, hKc⟩ : ∃ (dC : Nat → ClassId) (dI : Nat → Nat → Nat), ∀ (k : Nat) (q : vw_C), vwCl[k]? = some q → u_Kn s q.1 q.2.1 q.2.2 (dC k) (dI k) := by
    refine ⟨fun k => if k = 0 then c0 else if k = 1 then c1 else c2, fun k => if k = 0 then iS0 else if k = 1 then iS1 else iS2, ?_⟩
    intro k q hq
    match k, hq with
    | 0, hq => cases hq; exact hKn0
    | 1, hq => cases hq; exact hKn1
    | 2, hq => cases hq; exact hKn2
    | k + 3, hq => simp [vwCl] at hq
  have hS : va_S (fun q : Nat => s.heap.size ≤ q) s.heap s.heap [] := va_S.rf
  have hK : KN (dC, dI) [] s := ⟨⟨hKc, fun k q h => by simp at h⟩, va_Nw.of rfl (hts0 nestW (by decide +kernel))⟩
  have hXO : XO s := ⟨va_AO.of (hts0 (.arrayOver (.object "CubeWorlds$World")) (by decide +kernel)), hts0 (.arrayOver (.array .int)) (by decide +kernel)⟩
  have hP : va_P (dC, dI) vwCl (pic 0 (fun _ => 0) (fun _ => .inr (0, []))) s.heap := fun k q h => by simp [pic] at h
  have hD : va_D (fun q : Nat => s.heap.size ≤ q) (pic 0 (fun _ => 0) (fun _ => .inr (0, []))) := ⟨fun i j p q h => by simp [pic] at h, fun k q h => by simp [pic] at h⟩
  have hl := lv_entry ([.ref b]) (n := 4) (Nat.le_of_ble_eq_true rfl)
  rw [lg_entry_eq]
  generalize (lg_sl ([.ref b]) ++ List.replicate (4 - (lg_sl ([.ref b])).length) Slot.unset).toArray = ls at hl ⊢
  have hl : lv_has ls 4 [(0, .ref b)] := hl
  refine g_new (n := 0) (C := RX2) (T := TX2) (N := 7) (ci := 1) (fs := [.null, .null, .null, .null, .null, .null, .null]) hx hb hts inlX2 tyX2 tyX2_ok hown (by decide +kernel) (by decide +kernel) (by decide +kernel) hK hP hD hS hA rfl (fun j hj => by rcases (show j = 0 ∨ j = 1 ∨ j = 2 ∨ j = 3 ∨ j = 4 ∨ j = 5 ∨ j = 6 by omega) with rfl | rfl | rfl | rfl | rfl | rfl | rfl <;> rfl) (Nat.le_of_ble_eq_true rfl) (Nat.le_of_ble_eq_true rfl) dL_law_0 (fun q0 H hP hD hS => ?_)
  refine W.widen (k := 1) (n := 7) (Nat.le_of_ble_eq_true rfl) (Nat.le_of_ble_eq_true rfl) ?_
  refine lv_dup hx hb dL_law_3 rfl ?_
  refine g_callI (n := 1) (ad := va_up (fun _ => 0) 0 q0) 0 (X := XO) (rest := [.ref q0]) (c_X2_init l (by rfl)) (cwI 0 hts gL_law_X2_init rfl rfl rfl (hts (.initialized RX2) (by decide +kernel)) (hts (.methodLink RL 9 yX2_init) (by decide +kernel)) (hts (.instanceMethod yX2_init) (by decide +kernel)) rfl (by decide +kernel) ⟨Nat.le_of_ble_eq_true rfl, Nat.le_of_ble_eq_true rfl⟩) hx hb hml hown hts hK hP hD hS hA (fun a U g mk h => h.call g mk a) (fun U hW => hXO.moved hW) hl.1 rfl (Nat.le_of_ble_eq_true rfl) (Nat.le_of_ble_eq_true rfl) (Nat.le_of_ble_eq_true rfl) dL_law_4 (fun t H locs ht hal hB hS => ?_)
  obtain ⟨cI, cW, cM, ad, ha0, hP, hKt, hD⟩ := hB
  rw [ht] at hP
  have hK : KN (dC, dI) [(cI, .int), (cW, .object "CubeWorlds$World"), (cM, .array .int)] s := ⟨va_K.moved hal.symm hKt.1, hK.2⟩
  refine W.widen (k := 25) (n := 1434) (Nat.le_of_ble_eq_true rfl) (Nat.le_of_ble_eq_true rfl) ?_
  refine n_ref (show q0 = ad 0 from ha0.symm) ?_
  refine lv_astore_n (lv' := [(1, .ref (ad 0)), (0, .ref b)]) hx hb dL_law_7 rfl hl (by decide) rfl (fun ls hl => ?_)
  refine g_new (n := 25) (C := RX3) (T := TX3) (N := 7) (ci := 2) (fs := [.null, .null, .null, .null, .null, .null, .null]) hx hb hts inlX3 tyX3 tyX3_ok hown (by decide +kernel) (by decide +kernel) (by decide +kernel) hK hP hD hS hA rfl (fun j hj => by rcases (show j = 0 ∨ j = 1 ∨ j = 2 ∨ j = 3 ∨ j = 4 ∨ j = 5 ∨ j = 6 by omega) with rfl | rfl | rfl | rfl | rfl | rfl | rfl <;> rfl) (Nat.le_of_ble_eq_true rfl) (Nat.le_of_ble_eq_true rfl) dL_law_8 (fun q25 H hP hD hS => ?_)
  refine W.widen (k := 26) (n := 1441) (Nat.le_of_ble_eq_true rfl) (Nat.le_of_ble_eq_true rfl) ?_
  refine lv_dup hx hb dL_law_11 rfl ?_
  refine g_callI (n := 26) (ad := va_up ad 25 q25) 25 (rest := [.ref q25]) (c_X3_init l (t0 := 0) rfl (by rfl)) (cwI 0 hts gL_law_X3_init rfl rfl rfl (hts (.initialized RX3) (by decide +kernel)) (hts (.methodLink RL 12 yX3_init) (by decide +kernel)) (hts (.instanceMethod yX3_init) (by decide +kernel)) rfl (by decide +kernel) ⟨Nat.le_of_ble_eq_true rfl, Nat.le_of_ble_eq_true rfl⟩) hx hb hml hown hts hK hP hD hS hA (fun _ _ _ _ _ => trivial) (fun _ _ => trivial) hl.1 rfl (Nat.le_of_ble_eq_true rfl) (Nat.le_of_ble_eq_true rfl) (Nat.le_of_ble_eq_true rfl) dL_law_12 (fun t H locs ht hal hB hS => ?_)
  obtain ⟨ad3, ha3, hP, -, hD⟩ := hB
  rw [ht] at hP
  have hag : ∀ j, j < 25 → ad3 j = ad j := fun j hj => (ha3 j (by omega)).trans (va_up_o (by omega))
  refine W.widen (k := 33) (n := 1690) (Nat.le_of_ble_eq_true rfl) (Nat.le_of_ble_eq_true rfl) ?_
  refine n_ref (show q25 = ad3 25 from ((ha3 25 (by decide)).trans (va_up_at _ _ _)).symm) ?_
  refine lv_astore_n (lv' := [(2, .ref (ad3 25)), (1, .ref (ad 0)), (0, .ref b)]) hx hb dL_law_15 rfl hl (by decide) rfl (fun ls hl => ?_)
  refine n_iconst 0 hx hb dL_law_16 ?_
  refine lv_istore_n (lv' := [(3, .int (nI 0)), (2, .ref (ad3 25)), (1, .ref (ad 0)), (0, .ref b)]) hx hb dL_law_17 rfl hl (by decide) rfl (fun ls hl => ?_)
  rw [← hag 0 (by decide)] at hl
  have hP : va_P (dC, dI) vwCl (pic 33 ad3 (gE cI cW cM ad3 S0)) H := by
    refine Eq.mp (congrArg (fun w => va_P (dC, dI) vwCl w H) (pic_ext (fun i hi => ?_))) hP
    rcases (show i < 25 ∨ i = 25 ∨ i = 26 ∨ i = 27 ∨ i = 28 ∨ i = 29 ∨ i = 30 ∨ i = 31 ∨ i = 32 by omega) with h | h | h | h | h | h | h | h | h
    · refine (if_pos h).trans ((va_up_o (by omega)).trans ?_)
      exact gE_cong (fun j hj => (hag j hj).symm) h (if_pos h).symm
    · subst h; rfl
    · subst h; rfl
    · subst h; rfl
    · subst h; rfl
    · subst h; rfl
    · subst h; rfl
    · subst h; rfl
    · subst h; rfl
  exact law_loop hL C0 hZ hK (fun E => pic_D E hD) (L + 1) 0 (Nat.zero_le _) (by omega) S0 INV_0 _ _ hP hS ls (lv_sub hl [3, 2, 1, 0] rfl)
