/-! ===== items: rules and persons, one behind another ===== -/
abbrev sp_DR : Type := (Nat → Int32) × (Nat → Int32) × (Nat → Int32) × (Nat → Int32) × (Nat → Int32) × Nat
def sp_tell (tw : Int32) (w : Nat) : Int32 := tw ||| (1 <<< (Int32.ofNat w &&& 31))
def sp_stop (c : Nat → Int32) (n i : Nat) (D : sp_DR) (tw : Int32) : Nat ⊕ sp_DR × Int32 × Nat := if (sp_t c n i).2.1 = 2 then .inr (D, tw, (sp_t c n i).2.2.2) else .inl (sp_t c n i).1
def sp_perD (D : sp_DR) (X : Int32 × Int32 × Int32 × Int32 × Nat) : sp_DR := (D.1, upd D.2.1 D.2.2.2.2.2 X.1, upd D.2.2.1 D.2.2.2.2.2 X.2.1, upd D.2.2.2.1 D.2.2.2.2.2 X.2.2.1, upd D.2.2.2.2.1 D.2.2.2.2.2 X.2.2.2.1, D.2.2.2.2.2 + 1)
def sp_itPer (c : Nat → Int32) (n : Nat) (tw : Int32) (D : sp_DR) (S : Nat ⊕ Int32 × Int32 × Int32 × Int32 × Nat) : Nat ⊕ sp_DR × Int32 × Nat := match S with
  | .inl p => .inl p
  | .inr X => sp_stop c n X.2.2.2.2 (sp_perD D X) tw
def sp_itRule (c : Nat → Int32) (n : Nat) (tw : Int32) (D : sp_DR) (S : Nat ⊕ (Nat → Int32) × Nat) : Nat ⊕ sp_DR × Int32 × Nat := match S with
  | .inl p => .inl p
  | .inr X => sp_stop c n X.2 (X.1, D.2) tw
def sp_item (c : Nat → Int32) (n i : Nat) (tw : Int32) (D : sp_DR) : Nat ⊕ sp_DR × Int32 × Nat :=
  if (sp_t c n i).2.1 = 4 then
    (if (sp_t c n i).2.2.1 = 9 then sp_itPer c n tw D (if 9 ≤ D.2.2.2.2.2 then (.inl (sp_t c n i).1 : Nat ⊕ Int32 × Int32 × Int32 × Int32 × Nat) else sp_pers c n (sp_t c n i).2.2.2)
    else sp_itRule c n (sp_tell tw (sp_t c n i).2.2.1.toNatClampNeg) D (sp_rule c n (sp_t c n i).2.2.1.toNatClampNeg (sp_t c n i).2.2.2 (sp_t c n i).1 tw D.1))
  else .inl (sp_t c n i).1
def sp_items (c : Nat → Int32) (n : Nat) (k i : Nat) (tw : Int32) (D : sp_DR) (it : Nat) : Nat ⊕ sp_DR × Nat := match k with
  | 0 => .inr (D, it)
  | k + 1 => if (sp_t c n i).2.1 = 1 then .inr (D, it) else match sp_item c n i tw D with
    | .inl p => .inl p
    | .inr X => sp_items c n k X.2.2 X.2.1 X.1 (it + 1)
def sp_wCnt (k : Nat) : Nat := am_fold k (fun i w => if sp_wd i = 32 then w + 1 else w) 0
theorem sp_wCnt_lt : ∀ k : Nat, k < 89 → sp_wd k = 32 → sp_wCnt k < 15 := by decide +kernel
theorem sp_wFold_val (c : Nat → Int32) (s l n : Nat) (va : Int32) : ∀ k : Nat, k ≤ 89 → (sp_wFold c s l n va k).2.2.1 = sp_wCnt k ∧ ((sp_wFold c s l n va k).1 = 4 → ∃ w : Nat, w < 15 ∧ (sp_wFold c s l n va k).2.1 = Int32.ofNat w) := by
  intro k
  induction k with
  | zero => intro _; exact ⟨rfl, fun h => absurd (show (0 : Int32) = 4 from h) (by decide)⟩
  | succ k ih =>
    intro hk
    have ih := ih (by omega)
    unfold sp_wFold sp_wCnt at ih ⊢
    rw [am_fold_succ, am_fold_succ]
    have hlt := sp_wCnt_lt k (by omega)
    unfold sp_wCnt at hlt
    generalize am_fold k (sp_wOne c s l n) (0, va, 0, 0, true) = X at ih ⊢
    generalize am_fold k (fun i w => if sp_wd i = 32 then w + 1 else w) 0 = W at ih hlt ⊢
    obtain ⟨rfl, h2⟩ := ih
    unfold sp_wOne
    split
    · next g =>
      dsimp only
      refine ⟨rfl, ?_⟩
      split
      · intro _; exact ⟨_, hlt g, rfl⟩
      · exact h2
    · next g =>
      dsimp only
      exact ⟨rfl, h2⟩
theorem sp_t_word (c : Nat → Int32) (n i : Nat) (h : (sp_t c n i).2.1 = 4) : ∃ w : Nat, w < 15 ∧ (sp_t c n i).2.2.1 = Int32.ofNat w := by
  unfold sp_t sp_tok sp_tokAt at h ⊢
  generalize sp_run sp_sp c (n - i) i = s at h ⊢
  split at h
  · exact absurd (show (1 : Int32) = 4 from h) (by decide)
  · next g1 =>
    rw [if_neg g1]
    split at h
    · exact absurd (show (2 : Int32) = 4 from h) (by decide)
    · next g2 =>
      rw [if_neg g2]
      split at h
      · exfalso
        have h' : sp_nkind c s (sp_run sp_dig c (n - s) s) (sp_num c (n - s) s 0) = 4 := h
        unfold sp_nkind at h'
        split at h'
        · exact absurd h' (by decide)
        · exact absurd h' (by decide)
      · next g3 =>
        rw [if_neg g3]
        split at h
        · next g4 =>
          rw [if_pos g4]
          exact (sp_wFold_val c s _ n 0 89 (Nat.le_refl _)).2 h
        · exact absurd (show (0 : Int32) = 4 from h) (by decide)
theorem sp_nums_le (c : Nat → Int32) (n : Nat) : ∀ (k q i : Nat) (nu : Nat → Int32) (X : (Nat → Int32) × Nat), i ≤ n → sp_nums c n k q i nu = .inr X → X.2 ≤ n := by
  intro k
  induction k with
  | zero => intro q i nu X hi h; cases h; exact hi
  | succ k ih =>
    intro q i nu X hi h
    unfold sp_nums at h
    split at h
    · exact ih _ _ _ _ (sp_t_le c n i hi) h
    · cases h
theorem sp_rule_le {c : Nat → Int32} {n w i p0 : Nat} {tw : Int32} {nu : Nat → Int32} {X : (Nat → Int32) × Nat} (hi : i ≤ n) (h : sp_rule c n w i p0 tw nu = .inr X) : X.2 ≤ n := by
  unfold sp_rule at h
  split at h
  · cases h
  · exact sp_nums_le c n _ _ _ _ _ hi h
theorem sp_pTail_le {c : Nat → Int32} {n i : Nat} {law me : Int32} {X : Int32 × Int32 × Int32 × Int32 × Nat} (hi : i ≤ n) (h : sp_pTail c n i law me = .inr X) : X.2.2.2.2 ≤ n := by
  unfold sp_pTail at h
  split at h
  · split at h
    · cases h
      exact sp_t_le c n _ (sp_t_le c n i hi)
    · cases h
  · cases h
theorem sp_pers_le {c : Nat → Int32} {n i : Nat} {X : Int32 × Int32 × Int32 × Int32 × Nat} (hi : i ≤ n) (h : sp_pers c n i = .inr X) : X.2.2.2.2 ≤ n := by
  unfold sp_pers at h
  split at h
  · split at h
    · exact sp_pTail_le (sp_t_le c n i hi) h
    · generalize (if (sp_t c n i).2.2.1 - 10 = 3 then (99 : Int32) else 9) = u at h
      split at h
      · exact sp_pTail_le (sp_t_le c n _ (sp_t_le c n i hi)) h
      · cases h
  · cases h
