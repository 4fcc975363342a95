/-! ===== the parser over tokens ===== -/
abbrev sp_TK : Type := Nat × Int32 × Int32 × Nat
def sp_t (c : Nat → Int32) (n i : Nat) : sp_TK := sp_tok c n i 0
def sp_okN (t : sp_TK) (lo hi : Int32) : Bool := decide (t.2.1 = 3 ∧ lo ≤ t.2.2.1 ∧ t.2.2.1 ≤ hi)
def sp_least (q : Nat) : Int32 := [3, 0, 0, 0, 1, 0, 0, 1, 0, 1].getD q 0
def sp_most (q : Nat) : Int32 := [20, 9, 9, 99, 99, 99, 9, 99, 9, 9].getD q 0
/-- k numbers from rule q on, from sign i on: the place that fails, or the rules and the next sign -/
def sp_nums (c : Nat → Int32) (n : Nat) (k q i : Nat) (nu : Nat → Int32) : Nat ⊕ (Nat → Int32) × Nat := match k with
  | 0 => .inr (nu, i)
  | k + 1 => if sp_okN (sp_t c n i) (sp_least q) (sp_most q) = true then sp_nums c n k (q + 1) (sp_t c n i).2.2.2 (upd nu q (sp_t c n i).2.2.1) else .inl (sp_t c n i).1
def sp_rFirst (w : Nat) : Nat := if w ≤ 1 then w else w + 1
def sp_rMany (w : Nat) : Nat := if w = 1 then 2 else 1
/-- a person: law, measure, coins, sheets, the next sign -/
def sp_pTail (c : Nat → Int32) (n i : Nat) (law me : Int32) : Nat ⊕ Int32 × Int32 × Int32 × Int32 × Nat :=
  if sp_okN (sp_t c n i) 0 99 = true then
    (if sp_okN (sp_t c n (sp_t c n i).2.2.2) 0 9 = true then .inr (law, me, (sp_t c n i).2.2.1, (sp_t c n (sp_t c n i).2.2.2).2.2.1, (sp_t c n (sp_t c n i).2.2.2).2.2.2)
    else .inl (sp_t c n (sp_t c n i).2.2.2).1)
  else .inl (sp_t c n i).1
def sp_pers (c : Nat → Int32) (n i : Nat) : Nat ⊕ Int32 × Int32 × Int32 × Int32 × Nat :=
  if (sp_t c n i).2.1 = 4 ∧ 10 ≤ (sp_t c n i).2.2.1 then
    (if (sp_t c n i).2.2.1 - 10 = 0 then sp_pTail c n (sp_t c n i).2.2.2 0 0
    else if sp_okN (sp_t c n (sp_t c n i).2.2.2) 1 (if (sp_t c n i).2.2.1 - 10 = 3 then 99 else 9) = true then sp_pTail c n (sp_t c n (sp_t c n i).2.2.2).2.2.2 ((sp_t c n i).2.2.1 - 10) (sp_t c n (sp_t c n i).2.2.2).2.2.1
    else .inl (sp_t c n (sp_t c n i).2.2.2).1)
  else .inl (sp_t c n i).1
theorem sp_wFold_va (c : Nat → Int32) (s l n : Nat) (va vb : Int32) : ∀ k : Nat, (sp_wFold c s l n va k).1 = (sp_wFold c s l n vb k).1 ∧ (sp_wFold c s l n va k).2.2 = (sp_wFold c s l n vb k).2.2 ∧ ((sp_wFold c s l n va k).1 = 4 → (sp_wFold c s l n va k).2.1 = (sp_wFold c s l n vb k).2.1) := by
  intro k
  induction k with
  | zero => exact ⟨rfl, rfl, fun h => absurd (show (0 : Int32) = 4 from h) (by decide)⟩
  | succ k ih =>
    unfold sp_wFold at ih ⊢
    rw [am_fold_succ, am_fold_succ]
    generalize am_fold k (sp_wOne c s l n) (0, va, 0, 0, true) = X at ih ⊢
    generalize am_fold k (sp_wOne c s l n) (0, vb, 0, 0, true) = Y at ih ⊢
    obtain ⟨k1, v1, w1⟩ := X
    obtain ⟨k2, v2, w2⟩ := Y
    dsimp only at ih
    obtain ⟨rfl, rfl, h⟩ := ih
    unfold sp_wOne
    dsimp only
    split
    · refine ⟨rfl, rfl, ?_⟩
      dsimp only
      split
      · intro _; rfl
      · exact h
    · exact ⟨rfl, rfl, h⟩
theorem sp_wFold_kind (c : Nat → Int32) (s l n : Nat) (va : Int32) : ∀ k : Nat, (sp_wFold c s l n va k).1 = 0 ∨ (sp_wFold c s l n va k).1 = 4 := by
  intro k
  induction k with
  | zero => exact Or.inl rfl
  | succ k ih =>
    unfold sp_wFold at ih ⊢
    rw [am_fold_succ]
    generalize am_fold k (sp_wOne c s l n) (0, va, 0, 0, true) = X at ih ⊢
    unfold sp_wOne
    split
    · dsimp only
      split
      · exact Or.inr rfl
      · exact ih
    · exact ih
theorem sp_wFold_k3 (c : Nat → Int32) (s l n : Nat) (va : Int32) : ¬ (sp_wFold c s l n va 89).1 = 3 := fun h => by
  rcases sp_wFold_kind c s l n va 89 with q | q
  · rw [q] at h; exact absurd h (by decide)
  · rw [q] at h; exact absurd h (by decide)
theorem sp_tok_va (c : Nat → Int32) (n i : Nat) (va : Int32) : (sp_tok c n i va).1 = (sp_t c n i).1 ∧ (sp_tok c n i va).2.1 = (sp_t c n i).2.1 ∧ (sp_tok c n i va).2.2.2 = (sp_t c n i).2.2.2 ∧ ((sp_t c n i).2.1 = 3 ∨ (sp_t c n i).2.1 = 4 → (sp_tok c n i va).2.2.1 = (sp_t c n i).2.2.1) := by
  unfold sp_t sp_tok sp_tokAt
  generalize sp_run sp_sp c (n - i) i = s
  have hw := sp_wFold_va c s (sp_run sp_let c (n - s) s - s) n va 0 89
  split
  · exact ⟨rfl, rfl, rfl, fun h => by dsimp only at h; rcases h with h | h <;> exact absurd h (by decide)⟩
  · split
    · exact ⟨rfl, rfl, rfl, fun h => by dsimp only at h; rcases h with h | h <;> exact absurd h (by decide)⟩
    · split
      · exact ⟨rfl, rfl, rfl, fun _ => rfl⟩
      · split
        · refine ⟨rfl, hw.1, rfl, fun h => ?_⟩
          dsimp only at h ⊢
          rcases h with h | h
          · exact absurd (hw.1.trans h) (sp_wFold_k3 c s _ n va)
          · exact hw.2.2 (hw.1.trans h)
        · exact ⟨rfl, rfl, rfl, fun h => by dsimp only at h; rcases h with h | h <;> exact absurd h (by decide)⟩
theorem sp_t_le (c : Nat → Int32) (n i : Nat) (hi : i ≤ n) : (sp_t c n i).2.2.2 ≤ n := by
  unfold sp_t sp_tok sp_tokAt
  have h1 := sp_run_le sp_sp c (n - i) i
  generalize sp_run sp_sp c (n - i) i = s at h1 ⊢
  have h2 := sp_run_le sp_dig c (n - s) s
  have h3 := sp_run_le sp_let c (n - s) s
  split
  · dsimp only
    omega
  · split
    · dsimp only
      omega
    · split
      · dsimp only
        omega
      · split <;> dsimp only <;> omega
theorem sp_t_stop (c : Nat → Int32) (n i : Nat) (hi : i ≤ n) (h : (sp_t c n i).2.1 = 2) : i < (sp_t c n i).2.2.2 := by
  have h1 := sp_run_le sp_sp c (n - i) i
  unfold sp_t sp_tok sp_tokAt at h ⊢
  generalize sp_run sp_sp c (n - i) i = s at h h1 ⊢
  split at h
  · exact absurd (show (1 : Int32) = 2 from h) (by decide)
  · next g1 =>
    rw [if_neg g1]
    split at h
    · next g2 =>
      rw [if_pos g2]
      show i < s + 1
      omega
    · split at h
      · exfalso
        have h' : sp_nkind c s (sp_run sp_dig c (n - s) s) (sp_num c (n - s) s 0) = 2 := h
        unfold sp_nkind at h'
        split at h'
        · exact absurd h' (by decide)
        · exact absurd h' (by decide)
      · split at h
        · exfalso
          have h' : (sp_wFold c s (sp_run sp_let c (n - s) s - s) n 0 89).1 = 2 := h
          rcases sp_wFold_kind c s (sp_run sp_let c (n - s) s - s) n 0 89 with q | q
          · rw [q] at h'; exact absurd h' (by decide)
          · rw [q] at h'; exact absurd h' (by decide)
        · exact absurd (show (0 : Int32) = 2 from h) (by decide)
/-- what a rule's word is followed by -/
def sp_rule (c : Nat → Int32) (n w i p0 : Nat) (tw : Int32) (nu : Nat → Int32) : Nat ⊕ (Nat → Int32) × Nat := if 9 ≤ w ∨ ¬ (tw >>> (Int32.ofNat w &&& 31)) &&& 1 = 0 then .inl p0 else sp_nums c n (sp_rMany w) (sp_rFirst w) i nu
