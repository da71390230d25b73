/-! the whole picture: 33 cells, in the order in which they are made: CubeWorlds 0 .. 24, CubeWorldsModel 25 .. 32; S i is what the cell i holds -/
def rg {α : Type} (lo hi : Nat) (x : Int32) (els : α) (f : Nat → α) : α := if rB lo hi x then f x.toNatClampNeg else els
theorem rg_n {α : Type} {lo hi : Nat} {x : Int32} {els : α} {f : Nat → α} (h : rB lo hi x = false) : rg lo hi x els f = els := by unfold rg; rw [h]; rfl
theorem rg_y {α : Type} {lo hi k : Nat} {els : α} {f : Nat → α} (h1 : lo ≤ k) (h2 : k ≤ hi) (h3 : hi < 2 ^ 31) : rg lo hi (nI k) els f = f k := by
  unfold rg
  rw [rB_nI h3 (by omega) (by omega), if_pos (decide_eq_true ⟨h1, h2⟩), k_toNat (by omega)]
def lnL : List Nat := [0, 0, 0, 4, 4, 4, 0, 16, 256, 16, 4, 4, 4, 0, 16, 256, 0, 16, 256, 0, 16, 256, 0, 16, 256, 0, 5, 80, 12, 128, 8, 8, 8]
def ln (i : Nat) : Nat := lnL.getD i 0
def isO (i : Nat) : Bool := i == 6 || (i == 13 || (i == 16 || (i == 19 || i == 22)))
def gE (cI cW cM : ClassId) (ad : Nat → Nat) (S : Nat → Nat → Nat) (i : Nat) : va_E :=
  if i = 0 then .inr (1, [.ref (ad 1), .ref (ad 2), .ref (ad 6), .ref (ad 9), .ref (ad 10), .ref (ad 11), .ref (ad 12)])
  else if i = 1 then .inl (cW, 4, .inr (.inr (.inr (.inr (fun k => if k < 4 then some (ad (13 + 3 * k)) else none)))))
  else if i = 2 then .inl (cM, 3, .inr (.inr (.inr (.inr (fun k => if k < 3 then some (ad (3 + k)) else none)))))
  else if i = 25 then .inr (2, [.ref (ad 26), .ref (ad 27), .ref (ad 28), .ref (ad 29), .ref (ad 30), .ref (ad 31), .ref (ad 32)])
  else if isO i then .inr (0, [.int (nI (S i 0)), .int (nI (S i 1)), .ref (ad (i + 1)), .ref (ad (i + 2))])
  else .inl (cI, ln i, .inl (nF (S i)))
section GE
variable {cI cW cM : ClassId} {ad : Nat → Nat} {S : Nat → Nat → Nat}
theorem ln_O {i : Nat} (h : isO i = true) : ln i = 0 := by
  unfold isO at h
  simp only [Bool.or_eq_true, beq_iff_eq] at h
  rcases h with h | h | h | h | h <;> (subst h; rfl)
theorem gE_int {i : Nat} (h : ln i ≠ 0) : gE cI cW cM ad S i = .inl (cI, ln i, .inl (nF (S i))) := by
  unfold gE
  rw [if_neg (fun e => h (by rw [e]; rfl)), if_neg (fun e => h (by rw [e]; rfl)), if_neg (fun e => h (by rw [e]; rfl)), if_neg (fun e => h (by rw [e]; rfl)), if_neg (fun e => h (ln_O e))]
theorem gE_loc {S' : Nat → Nat → Nat} {i : Nat} (h : S i = S' i) : gE cI cW cM ad S i = gE cI cW cM ad S' i := by
  unfold gE
  rw [h]
theorem gE_up {i : Nat} (h : ln i ≠ 0) (f : Nat → Nat) : va_up (gE cI cW cM ad S) i (.inl (cI, ln i, .inl (nF f))) = gE cI cW cM ad (va_up S i f) := by
  funext j
  by_cases e : j = i
  · rw [e, va_up_at, gE_int h, va_up_at]
  · rw [va_up_o e]
    exact gE_loc (va_up_o e).symm
theorem gE_obj {i : Nat} (h : isO i = true) : gE cI cW cM ad S i = .inr (0, [.int (nI (S i 0)), .int (nI (S i 1)), .ref (ad (i + 1)), .ref (ad (i + 2))]) := by
  unfold gE
  rw [if_neg (fun e => by rw [e] at h; cases h), if_neg (fun e => by rw [e] at h; cases h), if_neg (fun e => by rw [e] at h; cases h), if_neg (fun e => by rw [e] at h; cases h), if_pos h]
def obS (x y : Nat) (q : Nat) : Nat := if q = 0 then x else y
theorem gE_ob {i : Nat} (h : isO i = true) (x y : Nat) : va_up (gE cI cW cM ad S) i (.inr (0, [.int (nI x), .int (nI y), .ref (ad (i + 1)), .ref (ad (i + 2))])) = gE cI cW cM ad (va_up S i (obS x y)) := by
  funext j
  by_cases e : j = i
  · rw [e, va_up_at, gE_obj h, va_up_at]
    rfl
  · rw [va_up_o e]
    exact gE_loc (va_up_o e).symm
end GE
/-- a world's own numbers are in order -/
def wf (S : Nat → Nat → Nat) (b : Nat) : Prop := (1 ≤ S b 0 ∧ S b 0 ≤ 4 ∧ S b 1 = 2 ^ S b 0) ∧ CB (S b 0) (S (b + 1)) ∧ tOK (S b 0) (S (b + 1)) (S (b + 2))
def m16 (S : Nat → Nat → Nat) : Prop := ∀ m, m < 3 → ∀ i, i < 4 → S (3 + m) i < 16
def WF (S : Nat → Nat → Nat) : Prop := wf S 6 ∧ (∀ k, k < 4 → wf S (13 + 3 * k)) ∧ m16 S
theorem isO_w {k : Nat} (h : k < 4) : isO (13 + 3 * k) = true := by
  rcases (show k = 0 ∨ k = 1 ∨ k = 2 ∨ k = 3 by omega) with e | e | e | e <;> (subst e; rfl)
theorem ln_c {k : Nat} (h : k < 4) : ln (13 + 3 * k + 1) = 16 := by
  rcases (show k = 0 ∨ k = 1 ∨ k = 2 ∨ k = 3 by omega) with e | e | e | e <;> (subst e; rfl)
theorem ln_t {k : Nat} (h : k < 4) : ln (13 + 3 * k + 2) = 256 := by
  rcases (show k = 0 ∨ k = 1 ∨ k = 2 ∨ k = 3 by omega) with e | e | e | e <;> (subst e; rfl)
theorem ln_m {m : Nat} (h : m < 3) : ln (3 + m) = 4 := by
  rcases (show m = 0 ∨ m = 1 ∨ m = 2 by omega) with e | e | e <;> (subst e; rfl)
theorem gI {cI cW cM : ClassId} {ad : Nat → Nat} {S : Nat → Nat → Nat} (i L : Nat) (h : ln i = L) (h0 : L ≠ 0) : gE cI cW cM ad S i = .inl (cI, L, .inl (nF (S i))) := by
  subst h
  exact gE_int h0
theorem gE_W {cI cW cM : ClassId} {ad : Nat → Nat} {S : Nat → Nat → Nat} {k : Nat} (h : k < 4) (hw : wf S (13 + 3 * k)) : isW cI ad (gE cI cW cM ad S) (13 + 3 * k) (S (13 + 3 * k) 0) (S (13 + 3 * k + 1)) (S (13 + 3 * k + 2)) :=
  ⟨by rw [gE_obj (isO_w h), hw.1.2.2], gI _ 16 (ln_c h) (by decide), gI _ 256 (ln_t h) (by decide)⟩
theorem gE_W6 {cI cW cM : ClassId} {ad : Nat → Nat} {S : Nat → Nat → Nat} (hw : wf S 6) : isW cI ad (gE cI cW cM ad S) 6 (S 6 0) (S 7) (S 8) :=
  ⟨by rw [gE_obj (by rfl), hw.1.2.2], gI 7 16 rfl (by decide), gI 8 256 rfl (by decide)⟩
