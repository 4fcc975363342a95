/-- the model stands at the token from sign i on -/
def sp_at (c : Nat → Int32) (n i : Nat) (nx tk pl va : Int32) : Prop := tk = sp_mk (sp_t c n i).2.1 ∧ pl = Int32.ofNat (sp_t c n i).1 ∧ (¬ (sp_t c n i).2.1 = 0 → nx = Int32.ofNat (sp_t c n i).2.2.2) ∧ ((sp_t c n i).2.1 = 3 ∨ (sp_t c n i).2.1 = 4 → va = (sp_t c n i).2.2.1)
theorem sp_t_kinds (c : Nat → Int32) (n i : Nat) : (sp_t c n i).2.1 = 0 ∨ (sp_t c n i).2.1 = 1 ∨ (sp_t c n i).2.1 = 2 ∨ (sp_t c n i).2.1 = 3 ∨ (sp_t c n i).2.1 = 4 := by
  unfold sp_t sp_tok sp_tokAt
  generalize sp_run sp_sp c (n - i) i = s
  split
  · exact Or.inr (Or.inl rfl)
  · split
    · exact Or.inr (Or.inr (Or.inl rfl))
    · split
      · show sp_nkind _ _ _ _ = 0 ∨ _
        unfold sp_nkind
        split
        · exact Or.inl rfl
        · exact Or.inr (Or.inr (Or.inr (Or.inl rfl)))
      · split
        · rcases sp_wFold_kind c s (sp_run sp_let c (n - s) s - s) n 0 89 with h | h
          · exact Or.inl h
          · exact Or.inr (Or.inr (Or.inr (Or.inr h)))
        · exact Or.inl rfl
theorem sp_mk_iff (c : Nat → Int32) (n i : Nat) : (sp_mk (sp_t c n i).2.1 = 0 ↔ (sp_t c n i).2.1 = 1) ∧ (sp_mk (sp_t c n i).2.1 = 1 ↔ (sp_t c n i).2.1 = 4) ∧ (sp_mk (sp_t c n i).2.1 = 2 ↔ (sp_t c n i).2.1 = 3) ∧ (sp_mk (sp_t c n i).2.1 = 3 ↔ (sp_t c n i).2.1 = 2) := by
  rcases sp_t_kinds c n i with h | h | h | h | h <;> rw [h] <;> decide
theorem sp_t_ge (c : Nat → Int32) (n i : Nat) : i ≤ (sp_t c n i).2.2.2 := by
  unfold sp_t sp_tok sp_tokAt
  have h1 := sp_run_le sp_sp c (n - i) i
  generalize sp_run sp_sp c (n - i) i = s at h1 ⊢
  have h2 := sp_run_le sp_dig c (n - s) s
  have h3 := sp_run_le sp_let c (n - s) s
  split
  · dsimp only; omega
  · split
    · dsimp only; omega
    · split
      · dsimp only; omega
      · split <;> dsimp only <;> omega
theorem mm_takes_T (sc : am_Sc) (n : Nat) (hn : n ≤ 400) (tx : Nat → Int32) (hf : ∀ q, q < n → 0 ≤ tx q) (i : Nat) (hi : i ≤ n) (nx tk pl va : Int32) (hat : sp_at tx n i nx tk pl va) (hk : ¬ (sp_t tx n i).2.1 = 0) (tr : Int64) (dp cm : Int32) (nu dn la me tc ts ps : Nat → Int32) (P : Nat) (rd pr pv sa pd lo : Int32) (bo co sh se si er of_ sp ke ik bi bt so nr ou ho cl : Nat → Int32) (B0 B1 B2 B3 B4 B5 B6 B7 B8 B9 B10 B11 B12 : List am_E) (Bs : am_M) : am_Rn sc 104 (0, am_entry 104 [.ref 416, .int 1], [], B0 :: B1 :: B2 :: B3 :: B4 :: B5 :: B6 :: B7 :: B8 :: B9 :: B10 :: B11 :: B12 :: bkModel tr (Int32.ofNat n) nx tk pl va (-1) (Int32.ofNat P) dp cm tx (mp_ru nu dn) (mp_ps (mp_q la me tc ts) ps) (mp_s rd pr pv sa pd lo bo co sh se si er of_) sp ke ik bi bt so nr ou ho cl :: Bs) (fun r M' => ∃ nx2 tk2 pl2 va2, r = some (.int va) ∧ M' = B0 :: B1 :: B2 :: B3 :: B4 :: B5 :: B6 :: B7 :: B8 :: B9 :: B10 :: B11 :: B12 :: bkModel tr (Int32.ofNat n) nx2 tk2 pl2 va2 (-1) (Int32.ofNat P) dp cm tx (mp_ru nu dn) (mp_ps (mp_q la me tc ts) ps) (mp_s rd pr pv sa pd lo bo co sh se si er of_) sp ke ik bi bt so nr ou ho cl :: Bs ∧ sp_at tx n (sp_t tx n i).2.2.2 nx2 tk2 pl2 va2) := by
  show am_Rn sc 104 (0, [some (.ref 416), some (.int 1), none], [], _) _
  have hle := sp_t_le tx n i hi
  obtain ⟨a1, a2, a3, a4⟩ := hat
  have a3 := a3 hk
  subst a3
  refine am_Rn.go (t := am_t104) rfl 1 rfl ⟨trivial, trivial⟩ ?_
  refine am_Rn.call (t := am_t104) rfl rfl (mm_isWell ..) ?_
  rintro _ _ ⟨rfl, rfl⟩
  refine am_Rn.go (t := am_t104) rfl 1 rfl ⟨trivial, trivial⟩ ?_
  refine am_Rn.brF (fun z => am_b0.mp z (by decide)) ?_
  refine am_Rn.go (t := am_t104) rfl 2 rfl ⟨trivial, trivial, trivial⟩ ?_
  refine am_Rn.brF (by decide) ?_
  refine am_Rn.go (t := am_t104) rfl 4 rfl ⟨trivial, trivial, trivial, trivial, trivial⟩ ?_
  refine am_Rn.call (t := am_t104) rfl rfl (mm_advances (hn := hn) (hf := hf) (hi := hle) ..) ?_
  rintro _ _ ⟨nx2, va2, rfl, rfl, b1, b2⟩
  refine am_Rn.go (t := am_t104) rfl 1 rfl ⟨trivial, trivial⟩ ?_
  refine am_Rn.ret (t := am_t104) rfl rfl trivial ?_
  exact ⟨_, _, _, _, rfl, rfl, rfl, rfl, b1, b2⟩
theorem mm_takes_F (sc : am_Sc) (n : Nat) (tr : Int64) (nx tk pl va dp cm : Int32) (tx nu dn la me tc ts ps : Nat → Int32) (P : Nat) (rd pr pv sa pd lo : Int32) (bo co sh se si er of_ sp ke ik bi bt so nr ou ho cl : Nat → Int32) (B0 B1 B2 B3 B4 B5 B6 B7 B8 B9 B10 B11 B12 : List am_E) (Bs : am_M) : am_Rn sc 104 (0, am_entry 104 [.ref 416, .int 0], [], B0 :: B1 :: B2 :: B3 :: B4 :: B5 :: B6 :: B7 :: B8 :: B9 :: B10 :: B11 :: B12 :: bkModel tr (Int32.ofNat n) nx tk pl va (-1) (Int32.ofNat P) dp cm tx (mp_ru nu dn) (mp_ps (mp_q la me tc ts) ps) (mp_s rd pr pv sa pd lo bo co sh se si er of_) sp ke ik bi bt so nr ou ho cl :: Bs) (fun r M' => r = some (.int 0) ∧ M' = B0 :: B1 :: B2 :: B3 :: B4 :: B5 :: B6 :: B7 :: B8 :: B9 :: B10 :: B11 :: B12 :: bkModel tr (Int32.ofNat n) nx tk pl va pl (Int32.ofNat P) dp cm tx (mp_ru nu dn) (mp_ps (mp_q la me tc ts) ps) (mp_s rd pr pv sa pd lo bo co sh se si er of_) sp ke ik bi bt so nr ou ho cl :: Bs) := by
  show am_Rn sc 104 (0, [some (.ref 416), some (.int 0), none], [], _) _
  refine am_Rn.go (t := am_t104) rfl 1 rfl ⟨trivial, trivial⟩ ?_
  refine am_Rn.call (t := am_t104) rfl rfl (mm_isWell ..) ?_
  rintro _ _ ⟨rfl, rfl⟩
  refine am_Rn.go (t := am_t104) rfl 1 rfl ⟨trivial, trivial⟩ ?_
  refine am_Rn.brF (fun z => am_b0.mp z (by decide)) ?_
  refine am_Rn.go (t := am_t104) rfl 2 rfl ⟨trivial, trivial, trivial⟩ ?_
  refine am_Rn.brT (by decide) ?_
  refine am_Rn.go (t := am_t104) rfl 5 rfl ⟨trivial, trivial, trivial, trivial, trivial, trivial⟩ ?_
  refine am_Rn.ret (t := am_t104) rfl rfl trivial ?_
  exact ⟨rfl, rfl⟩
theorem mm_takes_N (sc : am_Sc) (fa : Int32) (hfa : 0 ≤ fa) (x0 : Int32) (tr : Int64) (ty nx tk pl va dp cm : Int32) (tx nu dn la me tc ts ps : Nat → Int32) (P : Nat) (rd pr pv sa pd lo : Int32) (bo co sh se si er of_ sp ke ik bi bt so nr ou ho cl : Nat → Int32) (B0 B1 B2 B3 B4 B5 B6 B7 B8 B9 B10 B11 B12 : List am_E) (Bs : am_M) : am_Rn sc 104 (0, am_entry 104 [.ref 416, .int x0], [], B0 :: B1 :: B2 :: B3 :: B4 :: B5 :: B6 :: B7 :: B8 :: B9 :: B10 :: B11 :: B12 :: bkModel tr ty nx tk pl va fa (Int32.ofNat P) dp cm tx (mp_ru nu dn) (mp_ps (mp_q la me tc ts) ps) (mp_s rd pr pv sa pd lo bo co sh se si er of_) sp ke ik bi bt so nr ou ho cl :: Bs) (fun r M' => r = some (.int 0) ∧ M' = B0 :: B1 :: B2 :: B3 :: B4 :: B5 :: B6 :: B7 :: B8 :: B9 :: B10 :: B11 :: B12 :: bkModel tr ty nx tk pl va fa (Int32.ofNat P) dp cm tx (mp_ru nu dn) (mp_ps (mp_q la me tc ts) ps) (mp_s rd pr pv sa pd lo bo co sh se si er of_) sp ke ik bi bt so nr ou ho cl :: Bs) := by
  show am_Rn sc 104 (0, [some (.ref 416), some (.int x0), none], [], _) _
  refine am_Rn.go (t := am_t104) rfl 1 rfl ⟨trivial, trivial⟩ ?_
  refine am_Rn.call (t := am_t104) rfl rfl (mm_isWell ..) ?_
  rintro _ _ ⟨rfl, rfl⟩
  refine am_Rn.go (t := am_t104) rfl 1 rfl ⟨trivial, trivial⟩ ?_
  refine am_Rn.brT (am_b0.mpr (fun z => Int32.not_lt.mpr hfa z)) ?_
  refine am_Rn.go (t := am_t104) rfl 1 rfl ⟨trivial, trivial⟩ ?_
  refine am_Rn.ret (t := am_t104) rfl rfl trivial ?_
  exact ⟨rfl, rfl⟩
theorem mm_number_T (sc : am_Sc) (n : Nat) (hn : n ≤ 400) (tx : Nat → Int32) (hf : ∀ q, q < n → 0 ≤ tx q) (i : Nat) (hi : i ≤ n) (lw hi0 : Int32) (nx tk pl va : Int32) (hat : sp_at tx n i nx tk pl va) (hok : sp_okN (sp_t tx n i) lw hi0 = true) (tr : Int64) (dp cm : Int32) (nu dn la me tc ts ps : Nat → Int32) (P : Nat) (rd pr pv sa pd lo : Int32) (bo co sh se si er of_ sp ke ik bi bt so nr ou ho cl : Nat → Int32) (B0 B1 B2 B3 B4 B5 B6 B7 B8 B9 B10 B11 B12 : List am_E) (Bs : am_M) : am_Rn sc 105 (0, am_entry 105 [.ref 416, .int lw, .int hi0], [], B0 :: B1 :: B2 :: B3 :: B4 :: B5 :: B6 :: B7 :: B8 :: B9 :: B10 :: B11 :: B12 :: bkModel tr (Int32.ofNat n) nx tk pl va (-1) (Int32.ofNat P) dp cm tx (mp_ru nu dn) (mp_ps (mp_q la me tc ts) ps) (mp_s rd pr pv sa pd lo bo co sh se si er of_) sp ke ik bi bt so nr ou ho cl :: Bs) (fun r M' => ∃ nx2 tk2 pl2 va2, r = some (.int (sp_t tx n i).2.2.1) ∧ M' = B0 :: B1 :: B2 :: B3 :: B4 :: B5 :: B6 :: B7 :: B8 :: B9 :: B10 :: B11 :: B12 :: bkModel tr (Int32.ofNat n) nx2 tk2 pl2 va2 (-1) (Int32.ofNat P) dp cm tx (mp_ru nu dn) (mp_ps (mp_q la me tc ts) ps) (mp_s rd pr pv sa pd lo bo co sh se si er of_) sp ke ik bi bt so nr ou ho cl :: Bs ∧ sp_at tx n (sp_t tx n i).2.2.2 nx2 tk2 pl2 va2) := by
  show am_Rn sc 105 (0, [some (.ref 416), some (.int lw), some (.int hi0)], [], _) _
  have ok := of_decide_eq_true hok
  have k2 : tk = 2 := hat.1.trans ((sp_mk_iff tx n i).2.2.1.mpr ok.1)
  have kv : va = (sp_t tx n i).2.2.1 := hat.2.2.2 (Or.inl ok.1)
  refine am_Rn.go (t := am_t105) rfl 5 rfl ⟨trivial, trivial, trivial, trivial, trivial, trivial⟩ ?_
  refine am_Rn.brT k2 ?_
  refine am_Rn.go (t := am_t105) rfl 4 rfl ⟨trivial, trivial, trivial, trivial, trivial⟩ ?_
  refine am_Rn.call (t := am_t105) rfl rfl (sx_in ..) ?_
  rintro _ _ ⟨rfl, rfl⟩
  refine am_Rn.go (t := am_t105) rfl 1 rfl ⟨trivial, trivial⟩ ?_
  refine am_Rn.brF (fun z => am_b0.mp z (by rw [kv]; exact ok.2)) ?_
  refine am_Rn.go (t := am_t105) rfl 2 rfl ⟨trivial, trivial, trivial⟩ ?_
  refine am_Rn.call (t := am_t105) rfl rfl (mm_takes_T (hn := hn) (hf := hf) (hi := hi) (hat := hat) (hk := by rw [ok.1]; decide) ..) ?_
  rintro _ _ ⟨nx2, tk2, pl2, va2, rfl, rfl, b1⟩
  refine am_Rn.ret (t := am_t105) rfl rfl trivial ?_
  exact ⟨nx2, tk2, pl2, va2, congrArg (fun z => some (Value.int z)) kv, rfl, b1⟩
theorem mm_number_F (sc : am_Sc) (n : Nat) (hn : n ≤ 400) (tx : Nat → Int32) (hf : ∀ q, q < n → 0 ≤ tx q) (i : Nat) (hi : i ≤ n) (lw hi0 : Int32) (nx tk pl va : Int32) (hat : sp_at tx n i nx tk pl va) (hok : ¬ sp_okN (sp_t tx n i) lw hi0 = true) (tr : Int64) (dp cm : Int32) (nu dn la me tc ts ps : Nat → Int32) (P : Nat) (rd pr pv sa pd lo : Int32) (bo co sh se si er of_ sp ke ik bi bt so nr ou ho cl : Nat → Int32) (B0 B1 B2 B3 B4 B5 B6 B7 B8 B9 B10 B11 B12 : List am_E) (Bs : am_M) : am_Rn sc 105 (0, am_entry 105 [.ref 416, .int lw, .int hi0], [], B0 :: B1 :: B2 :: B3 :: B4 :: B5 :: B6 :: B7 :: B8 :: B9 :: B10 :: B11 :: B12 :: bkModel tr (Int32.ofNat n) nx tk pl va (-1) (Int32.ofNat P) dp cm tx (mp_ru nu dn) (mp_ps (mp_q la me tc ts) ps) (mp_s rd pr pv sa pd lo bo co sh se si er of_) sp ke ik bi bt so nr ou ho cl :: Bs) (fun r M' => r = some (.int 0) ∧ M' = B0 :: B1 :: B2 :: B3 :: B4 :: B5 :: B6 :: B7 :: B8 :: B9 :: B10 :: B11 :: B12 :: bkModel tr (Int32.ofNat n) nx tk pl va (Int32.ofNat (sp_t tx n i).1) (Int32.ofNat P) dp cm tx (mp_ru nu dn) (mp_ps (mp_q la me tc ts) ps) (mp_s rd pr pv sa pd lo bo co sh se si er of_) sp ke ik bi bt so nr ou ho cl :: Bs) := by
  show am_Rn sc 105 (0, [some (.ref 416), some (.int lw), some (.int hi0)], [], _) _
  obtain ⟨a1, a2, a3, a4⟩ := hat
  subst a2
  refine am_Rn.go (t := am_t105) rfl 5 rfl ⟨trivial, trivial, trivial, trivial, trivial, trivial⟩ ?_
  refine am_Rn.br (fun h1 => ?_) (fun h1 => ?_)
  · skip
    have k3 : (sp_t tx n i).2.1 = 3 := (sp_mk_iff tx n i).2.2.1.mp (a1.symm.trans h1)
    have kv := a4 (Or.inl k3)
    refine am_Rn.go (t := am_t105) rfl 4 rfl ⟨trivial, trivial, trivial, trivial, trivial⟩ ?_
    refine am_Rn.call (t := am_t105) rfl rfl (sx_in ..) ?_
    rintro _ _ ⟨rfl, rfl⟩
    refine am_Rn.go (t := am_t105) rfl 1 rfl ⟨trivial, trivial⟩ ?_
    refine am_Rn.brB (fun h2 => ?_) (fun h2 => ?_)
    · skip
      refine am_Rn.go (t := am_t105) rfl 1 rfl ⟨trivial, trivial⟩ ?_
      refine am_Rn.call (t := am_t105) rfl rfl (mm_takes_F (n := n) ..) ?_
      rintro _ _ ⟨rfl, rfl⟩
      refine am_Rn.ret (t := am_t105) rfl rfl trivial ?_
      exact ⟨rfl, rfl⟩
    · skip
      exact absurd (decide_eq_true ⟨k3, by rw [← kv]; exact (by assumption : lw ≤ va ∧ va ≤ hi0)⟩) hok
  · skip
    refine am_Rn.go (t := am_t105) rfl 1 rfl ⟨trivial, trivial⟩ ?_
    refine am_Rn.call (t := am_t105) rfl rfl (mm_takes_F (n := n) ..) ?_
    rintro _ _ ⟨rfl, rfl⟩
    refine am_Rn.ret (t := am_t105) rfl rfl trivial ?_
    exact ⟨rfl, rfl⟩
theorem mm_number_N (sc : am_Sc) (fa : Int32) (hfa : 0 ≤ fa) (lw hi0 : Int32) (tr : Int64) (ty nx tk pl va dp cm : Int32) (tx nu dn la me tc ts ps : Nat → Int32) (P : Nat) (rd pr pv sa pd lo : Int32) (bo co sh se si er of_ sp ke ik bi bt so nr ou ho cl : Nat → Int32) (B0 B1 B2 B3 B4 B5 B6 B7 B8 B9 B10 B11 B12 : List am_E) (Bs : am_M) : am_Rn sc 105 (0, am_entry 105 [.ref 416, .int lw, .int hi0], [], B0 :: B1 :: B2 :: B3 :: B4 :: B5 :: B6 :: B7 :: B8 :: B9 :: B10 :: B11 :: B12 :: bkModel tr ty nx tk pl va fa (Int32.ofNat P) dp cm tx (mp_ru nu dn) (mp_ps (mp_q la me tc ts) ps) (mp_s rd pr pv sa pd lo bo co sh se si er of_) sp ke ik bi bt so nr ou ho cl :: Bs) (fun r M' => r = some (.int 0) ∧ M' = B0 :: B1 :: B2 :: B3 :: B4 :: B5 :: B6 :: B7 :: B8 :: B9 :: B10 :: B11 :: B12 :: bkModel tr ty nx tk pl va fa (Int32.ofNat P) dp cm tx (mp_ru nu dn) (mp_ps (mp_q la me tc ts) ps) (mp_s rd pr pv sa pd lo bo co sh se si er of_) sp ke ik bi bt so nr ou ho cl :: Bs) := by
  show am_Rn sc 105 (0, [some (.ref 416), some (.int lw), some (.int hi0)], [], _) _
  refine am_Rn.go (t := am_t105) rfl 5 rfl ⟨trivial, trivial, trivial, trivial, trivial, trivial⟩ ?_
  refine am_Rn.br (fun h1 => ?_) (fun h1 => ?_)
  · skip
    refine am_Rn.go (t := am_t105) rfl 4 rfl ⟨trivial, trivial, trivial, trivial, trivial⟩ ?_
    refine am_Rn.call (t := am_t105) rfl rfl (sx_in ..) ?_
    rintro _ _ ⟨rfl, rfl⟩
    refine am_Rn.go (t := am_t105) rfl 1 rfl ⟨trivial, trivial⟩ ?_
    refine am_Rn.brB (fun h2 => ?_) (fun h2 => ?_)
    · skip
      refine am_Rn.go (t := am_t105) rfl 1 rfl ⟨trivial, trivial⟩ ?_
      refine am_Rn.call (t := am_t105) rfl rfl (mm_takes_N (hfa := hfa) ..) ?_
      rintro _ _ ⟨rfl, rfl⟩
      refine am_Rn.ret (t := am_t105) rfl rfl trivial ?_
      exact ⟨rfl, rfl⟩
    · skip
      refine am_Rn.go (t := am_t105) rfl 2 rfl ⟨trivial, trivial, trivial⟩ ?_
      refine am_Rn.call (t := am_t105) rfl rfl (mm_takes_N (hfa := hfa) ..) ?_
      rintro _ _ ⟨rfl, rfl⟩
      refine am_Rn.ret (t := am_t105) rfl rfl trivial ?_
      exact ⟨rfl, rfl⟩
  · skip
    refine am_Rn.go (t := am_t105) rfl 1 rfl ⟨trivial, trivial⟩ ?_
    refine am_Rn.call (t := am_t105) rfl rfl (mm_takes_N (hfa := hfa) ..) ?_
    rintro _ _ ⟨rfl, rfl⟩
    refine am_Rn.ret (t := am_t105) rfl rfl trivial ?_
    exact ⟨rfl, rfl⟩
theorem mm_leastOf (sc : am_Sc) (w : Nat) (hw : w < 9) (M : am_M) : am_Rn sc 108 (0, am_entry 108 [.int (Int32.ofNat w)], [], M) (fun r M' => r = some (.int (sp_least (sp_rFirst w))) ∧ M' = M) := by
  show am_Rn sc 108 (0, [some (.int (Int32.ofNat w))], [], _) _
  rcases (show w = 0 ∨ w = 1 ∨ w = 2 ∨ w = 3 ∨ w = 4 ∨ w = 5 ∨ w = 6 ∨ w = 7 ∨ w = 8 by omega) with rfl | rfl | rfl | rfl | rfl | rfl | rfl | rfl | rfl
  · skip
    refine am_Rn.go (t := am_t108) rfl 2 rfl ⟨trivial, trivial, trivial⟩ ?_
    refine am_Rn.brT (by decide) ?_
    refine am_Rn.go (t := am_t108) rfl 2 rfl ⟨trivial, trivial, trivial⟩ ?_
    refine am_Rn.ret (t := am_t108) rfl rfl trivial ?_
    exact ⟨rfl, rfl⟩
  · skip
    refine am_Rn.go (t := am_t108) rfl 2 rfl ⟨trivial, trivial, trivial⟩ ?_
    refine am_Rn.brF (by decide) ?_
    refine am_Rn.go (t := am_t108) rfl 3 rfl ⟨trivial, trivial, trivial, trivial⟩ ?_
    refine am_Rn.brF (by decide) ?_
    refine am_Rn.go (t := am_t108) rfl 3 rfl ⟨trivial, trivial, trivial, trivial⟩ ?_
    refine am_Rn.brF (by decide) ?_
    refine am_Rn.go (t := am_t108) rfl 3 rfl ⟨trivial, trivial, trivial, trivial⟩ ?_
    refine am_Rn.brF (by decide) ?_
    refine am_Rn.go (t := am_t108) rfl 1 rfl ⟨trivial, trivial⟩ ?_
    refine am_Rn.ret (t := am_t108) rfl rfl trivial ?_
    exact ⟨rfl, rfl⟩
  · skip
    refine am_Rn.go (t := am_t108) rfl 2 rfl ⟨trivial, trivial, trivial⟩ ?_
    refine am_Rn.brF (by decide) ?_
    refine am_Rn.go (t := am_t108) rfl 3 rfl ⟨trivial, trivial, trivial, trivial⟩ ?_
    refine am_Rn.brF (by decide) ?_
    refine am_Rn.go (t := am_t108) rfl 3 rfl ⟨trivial, trivial, trivial, trivial⟩ ?_
    refine am_Rn.brF (by decide) ?_
    refine am_Rn.go (t := am_t108) rfl 3 rfl ⟨trivial, trivial, trivial, trivial⟩ ?_
    refine am_Rn.brF (by decide) ?_
    refine am_Rn.go (t := am_t108) rfl 1 rfl ⟨trivial, trivial⟩ ?_
    refine am_Rn.ret (t := am_t108) rfl rfl trivial ?_
    exact ⟨rfl, rfl⟩
  · skip
    refine am_Rn.go (t := am_t108) rfl 2 rfl ⟨trivial, trivial, trivial⟩ ?_
    refine am_Rn.brF (by decide) ?_
    refine am_Rn.go (t := am_t108) rfl 3 rfl ⟨trivial, trivial, trivial, trivial⟩ ?_
    refine am_Rn.brT (by decide) ?_
    refine am_Rn.go (t := am_t108) rfl 2 rfl ⟨trivial, trivial, trivial⟩ ?_
    refine am_Rn.ret (t := am_t108) rfl rfl trivial ?_
    exact ⟨rfl, rfl⟩
  · skip
    refine am_Rn.go (t := am_t108) rfl 2 rfl ⟨trivial, trivial, trivial⟩ ?_
    refine am_Rn.brF (by decide) ?_
    refine am_Rn.go (t := am_t108) rfl 3 rfl ⟨trivial, trivial, trivial, trivial⟩ ?_
    refine am_Rn.brF (by decide) ?_
    refine am_Rn.go (t := am_t108) rfl 3 rfl ⟨trivial, trivial, trivial, trivial⟩ ?_
    refine am_Rn.brF (by decide) ?_
    refine am_Rn.go (t := am_t108) rfl 3 rfl ⟨trivial, trivial, trivial, trivial⟩ ?_
    refine am_Rn.brF (by decide) ?_
    refine am_Rn.go (t := am_t108) rfl 1 rfl ⟨trivial, trivial⟩ ?_
    refine am_Rn.ret (t := am_t108) rfl rfl trivial ?_
    exact ⟨rfl, rfl⟩
  · skip
    refine am_Rn.go (t := am_t108) rfl 2 rfl ⟨trivial, trivial, trivial⟩ ?_
    refine am_Rn.brF (by decide) ?_
    refine am_Rn.go (t := am_t108) rfl 3 rfl ⟨trivial, trivial, trivial, trivial⟩ ?_
    refine am_Rn.brF (by decide) ?_
    refine am_Rn.go (t := am_t108) rfl 3 rfl ⟨trivial, trivial, trivial, trivial⟩ ?_
    refine am_Rn.brF (by decide) ?_
    refine am_Rn.go (t := am_t108) rfl 3 rfl ⟨trivial, trivial, trivial, trivial⟩ ?_
    refine am_Rn.brF (by decide) ?_
    refine am_Rn.go (t := am_t108) rfl 1 rfl ⟨trivial, trivial⟩ ?_
    refine am_Rn.ret (t := am_t108) rfl rfl trivial ?_
    exact ⟨rfl, rfl⟩
  · skip
    refine am_Rn.go (t := am_t108) rfl 2 rfl ⟨trivial, trivial, trivial⟩ ?_
    refine am_Rn.brF (by decide) ?_
    refine am_Rn.go (t := am_t108) rfl 3 rfl ⟨trivial, trivial, trivial, trivial⟩ ?_
    refine am_Rn.brF (by decide) ?_
    refine am_Rn.go (t := am_t108) rfl 3 rfl ⟨trivial, trivial, trivial, trivial⟩ ?_
    refine am_Rn.brT (by decide) ?_
    refine am_Rn.go (t := am_t108) rfl 2 rfl ⟨trivial, trivial, trivial⟩ ?_
    refine am_Rn.ret (t := am_t108) rfl rfl trivial ?_
    exact ⟨rfl, rfl⟩
  · skip
    refine am_Rn.go (t := am_t108) rfl 2 rfl ⟨trivial, trivial, trivial⟩ ?_
    refine am_Rn.brF (by decide) ?_
    refine am_Rn.go (t := am_t108) rfl 3 rfl ⟨trivial, trivial, trivial, trivial⟩ ?_
    refine am_Rn.brF (by decide) ?_
    refine am_Rn.go (t := am_t108) rfl 3 rfl ⟨trivial, trivial, trivial, trivial⟩ ?_
    refine am_Rn.brF (by decide) ?_
    refine am_Rn.go (t := am_t108) rfl 3 rfl ⟨trivial, trivial, trivial, trivial⟩ ?_
    refine am_Rn.brF (by decide) ?_
    refine am_Rn.go (t := am_t108) rfl 1 rfl ⟨trivial, trivial⟩ ?_
    refine am_Rn.ret (t := am_t108) rfl rfl trivial ?_
    exact ⟨rfl, rfl⟩
  · skip
    refine am_Rn.go (t := am_t108) rfl 2 rfl ⟨trivial, trivial, trivial⟩ ?_
    refine am_Rn.brF (by decide) ?_
    refine am_Rn.go (t := am_t108) rfl 3 rfl ⟨trivial, trivial, trivial, trivial⟩ ?_
    refine am_Rn.brF (by decide) ?_
    refine am_Rn.go (t := am_t108) rfl 3 rfl ⟨trivial, trivial, trivial, trivial⟩ ?_
    refine am_Rn.brF (by decide) ?_
    refine am_Rn.go (t := am_t108) rfl 3 rfl ⟨trivial, trivial, trivial, trivial⟩ ?_
    refine am_Rn.brT (by decide) ?_
    refine am_Rn.go (t := am_t108) rfl 2 rfl ⟨trivial, trivial, trivial⟩ ?_
    refine am_Rn.ret (t := am_t108) rfl rfl trivial ?_
    exact ⟨rfl, rfl⟩

theorem mm_mostOf (sc : am_Sc) (w : Nat) (hw : w < 9) (M : am_M) : am_Rn sc 107 (0, am_entry 107 [.int (Int32.ofNat w)], [], M) (fun r M' => r = some (.int (sp_most (sp_rFirst w))) ∧ M' = M) := by
  show am_Rn sc 107 (0, [some (.int (Int32.ofNat w))], [], _) _
  rcases (show w = 0 ∨ w = 1 ∨ w = 2 ∨ w = 3 ∨ w = 4 ∨ w = 5 ∨ w = 6 ∨ w = 7 ∨ w = 8 by omega) with rfl | rfl | rfl | rfl | rfl | rfl | rfl | rfl | rfl
  · skip
    refine am_Rn.go (t := am_t107) rfl 2 rfl ⟨trivial, trivial, trivial⟩ ?_
    refine am_Rn.brT (by decide) ?_
    refine am_Rn.go (t := am_t107) rfl 2 rfl ⟨trivial, trivial, trivial⟩ ?_
    refine am_Rn.ret (t := am_t107) rfl rfl trivial ?_
    exact ⟨rfl, rfl⟩
  · skip
    refine am_Rn.go (t := am_t107) rfl 2 rfl ⟨trivial, trivial, trivial⟩ ?_
    refine am_Rn.brF (by decide) ?_
    refine am_Rn.go (t := am_t107) rfl 3 rfl ⟨trivial, trivial, trivial, trivial⟩ ?_
    refine am_Rn.brF (by decide) ?_
    refine am_Rn.go (t := am_t107) rfl 3 rfl ⟨trivial, trivial, trivial, trivial⟩ ?_
    refine am_Rn.brF (by decide) ?_
    refine am_Rn.go (t := am_t107) rfl 3 rfl ⟨trivial, trivial, trivial, trivial⟩ ?_
    refine am_Rn.brF (by decide) ?_
    refine am_Rn.go (t := am_t107) rfl 3 rfl ⟨trivial, trivial, trivial, trivial⟩ ?_
    refine am_Rn.brF (by decide) ?_
    refine am_Rn.go (t := am_t107) rfl 1 rfl ⟨trivial, trivial⟩ ?_
    refine am_Rn.ret (t := am_t107) rfl rfl trivial ?_
    exact ⟨rfl, rfl⟩
  · skip
    refine am_Rn.go (t := am_t107) rfl 2 rfl ⟨trivial, trivial, trivial⟩ ?_
    refine am_Rn.brF (by decide) ?_
    refine am_Rn.go (t := am_t107) rfl 3 rfl ⟨trivial, trivial, trivial, trivial⟩ ?_
    refine am_Rn.brT (by decide) ?_
    refine am_Rn.go (t := am_t107) rfl 2 rfl ⟨trivial, trivial, trivial⟩ ?_
    refine am_Rn.ret (t := am_t107) rfl rfl trivial ?_
    exact ⟨rfl, rfl⟩
  · skip
    refine am_Rn.go (t := am_t107) rfl 2 rfl ⟨trivial, trivial, trivial⟩ ?_
    refine am_Rn.brF (by decide) ?_
    refine am_Rn.go (t := am_t107) rfl 3 rfl ⟨trivial, trivial, trivial, trivial⟩ ?_
    refine am_Rn.brF (by decide) ?_
    refine am_Rn.go (t := am_t107) rfl 3 rfl ⟨trivial, trivial, trivial, trivial⟩ ?_
    refine am_Rn.brT (by decide) ?_
    refine am_Rn.go (t := am_t107) rfl 2 rfl ⟨trivial, trivial, trivial⟩ ?_
    refine am_Rn.ret (t := am_t107) rfl rfl trivial ?_
    exact ⟨rfl, rfl⟩
  · skip
    refine am_Rn.go (t := am_t107) rfl 2 rfl ⟨trivial, trivial, trivial⟩ ?_
    refine am_Rn.brF (by decide) ?_
    refine am_Rn.go (t := am_t107) rfl 3 rfl ⟨trivial, trivial, trivial, trivial⟩ ?_
    refine am_Rn.brF (by decide) ?_
    refine am_Rn.go (t := am_t107) rfl 3 rfl ⟨trivial, trivial, trivial, trivial⟩ ?_
    refine am_Rn.brF (by decide) ?_
    refine am_Rn.go (t := am_t107) rfl 3 rfl ⟨trivial, trivial, trivial, trivial⟩ ?_
    refine am_Rn.brT (by decide) ?_
    refine am_Rn.go (t := am_t107) rfl 2 rfl ⟨trivial, trivial, trivial⟩ ?_
    refine am_Rn.ret (t := am_t107) rfl rfl trivial ?_
    exact ⟨rfl, rfl⟩
  · skip
    refine am_Rn.go (t := am_t107) rfl 2 rfl ⟨trivial, trivial, trivial⟩ ?_
    refine am_Rn.brF (by decide) ?_
    refine am_Rn.go (t := am_t107) rfl 3 rfl ⟨trivial, trivial, trivial, trivial⟩ ?_
    refine am_Rn.brF (by decide) ?_
    refine am_Rn.go (t := am_t107) rfl 3 rfl ⟨trivial, trivial, trivial, trivial⟩ ?_
    refine am_Rn.brF (by decide) ?_
    refine am_Rn.go (t := am_t107) rfl 3 rfl ⟨trivial, trivial, trivial, trivial⟩ ?_
    refine am_Rn.brF (by decide) ?_
    refine am_Rn.go (t := am_t107) rfl 3 rfl ⟨trivial, trivial, trivial, trivial⟩ ?_
    refine am_Rn.brF (by decide) ?_
    refine am_Rn.go (t := am_t107) rfl 1 rfl ⟨trivial, trivial⟩ ?_
    refine am_Rn.ret (t := am_t107) rfl rfl trivial ?_
    exact ⟨rfl, rfl⟩
  · skip
    refine am_Rn.go (t := am_t107) rfl 2 rfl ⟨trivial, trivial, trivial⟩ ?_
    refine am_Rn.brF (by decide) ?_
    refine am_Rn.go (t := am_t107) rfl 3 rfl ⟨trivial, trivial, trivial, trivial⟩ ?_
    refine am_Rn.brF (by decide) ?_
    refine am_Rn.go (t := am_t107) rfl 3 rfl ⟨trivial, trivial, trivial, trivial⟩ ?_
    refine am_Rn.brF (by decide) ?_
    refine am_Rn.go (t := am_t107) rfl 3 rfl ⟨trivial, trivial, trivial, trivial⟩ ?_
    refine am_Rn.brF (by decide) ?_
    refine am_Rn.go (t := am_t107) rfl 3 rfl ⟨trivial, trivial, trivial, trivial⟩ ?_
    refine am_Rn.brT (by decide) ?_
    refine am_Rn.go (t := am_t107) rfl 2 rfl ⟨trivial, trivial, trivial⟩ ?_
    refine am_Rn.ret (t := am_t107) rfl rfl trivial ?_
    exact ⟨rfl, rfl⟩
  · skip
    refine am_Rn.go (t := am_t107) rfl 2 rfl ⟨trivial, trivial, trivial⟩ ?_
    refine am_Rn.brF (by decide) ?_
    refine am_Rn.go (t := am_t107) rfl 3 rfl ⟨trivial, trivial, trivial, trivial⟩ ?_
    refine am_Rn.brF (by decide) ?_
    refine am_Rn.go (t := am_t107) rfl 3 rfl ⟨trivial, trivial, trivial, trivial⟩ ?_
    refine am_Rn.brF (by decide) ?_
    refine am_Rn.go (t := am_t107) rfl 3 rfl ⟨trivial, trivial, trivial, trivial⟩ ?_
    refine am_Rn.brF (by decide) ?_
    refine am_Rn.go (t := am_t107) rfl 3 rfl ⟨trivial, trivial, trivial, trivial⟩ ?_
    refine am_Rn.brF (by decide) ?_
    refine am_Rn.go (t := am_t107) rfl 1 rfl ⟨trivial, trivial⟩ ?_
    refine am_Rn.ret (t := am_t107) rfl rfl trivial ?_
    exact ⟨rfl, rfl⟩
  · skip
    refine am_Rn.go (t := am_t107) rfl 2 rfl ⟨trivial, trivial, trivial⟩ ?_
    refine am_Rn.brF (by decide) ?_
    refine am_Rn.go (t := am_t107) rfl 3 rfl ⟨trivial, trivial, trivial, trivial⟩ ?_
    refine am_Rn.brF (by decide) ?_
    refine am_Rn.go (t := am_t107) rfl 3 rfl ⟨trivial, trivial, trivial, trivial⟩ ?_
    refine am_Rn.brF (by decide) ?_
    refine am_Rn.go (t := am_t107) rfl 3 rfl ⟨trivial, trivial, trivial, trivial⟩ ?_
    refine am_Rn.brF (by decide) ?_
    refine am_Rn.go (t := am_t107) rfl 3 rfl ⟨trivial, trivial, trivial, trivial⟩ ?_
    refine am_Rn.brF (by decide) ?_
    refine am_Rn.go (t := am_t107) rfl 1 rfl ⟨trivial, trivial⟩ ?_
    refine am_Rn.ret (t := am_t107) rfl rfl trivial ?_
    exact ⟨rfl, rfl⟩

def sp_usualM : Nat → Int32 := fun j => [15, 1, 3, 0, -9, 0, 0, 0, 0, 5].getD j 0
theorem mp_dn (nu dn : Nat → Int32) {i : Nat} (h : i < 10) (v : Int32) : upd (mp_ru nu dn) (10 + i) v = mp_ru nu (upd dn i v) := by
  funext j
  by_cases e : j = 10 + i
  · subst e
    rw [mp_upd_eq]
    unfold mp_ru
    rw [if_neg (by omega), if_pos (by omega), show 10 + i - 10 = i by omega, mp_upd_eq]
  · rw [mp_upd_ne _ _ e]
    unfold mp_ru
    split
    · rfl
    · split
      · rw [mp_upd_ne _ _ (by omega)]
      · rfl
theorem mp_nu (nu dn : Nat → Int32) {i : Nat} (h : i < 10) (v : Int32) : upd (mp_ru nu dn) i v = mp_ru (upd nu i v) dn := by
  funext j
  by_cases e : j = i
  · subst e
    rw [mp_upd_eq]
    unfold mp_ru
    rw [if_pos h, mp_upd_eq]
  · rw [mp_upd_ne _ _ e]
    unfold mp_ru
    split
    · rw [mp_upd_ne _ _ e]
    · rfl
theorem am_10N (i : Nat) : 10 + Int32.ofNat i = Int32.ofNat (10 + i) := am_addN 10 i
theorem mm_drafts (sc : am_Sc) (tr : Int64) (ty nx tk pl va fa dp cm : Int32) (tx nu dn la me tc ts ps : Nat → Int32) (P : Nat) (rd pr pv sa pd lo : Int32) (bo co sh se si er of_ sp ke ik bi bt so nr ou ho cl : Nat → Int32) (B0 B1 B2 B3 B4 B5 B6 B7 B8 B9 B10 B11 B12 : List am_E) (Bs : am_M) : am_Rn sc 106 (0, am_entry 106 [.ref 416], [], B0 :: B1 :: B2 :: B3 :: B4 :: B5 :: B6 :: B7 :: B8 :: B9 :: B10 :: B11 :: B12 :: bkModel tr ty nx tk pl va fa (Int32.ofNat P) dp cm tx (mp_ru nu dn) (mp_ps (mp_q la me tc ts) ps) (mp_s rd pr pv sa pd lo bo co sh se si er of_) sp ke ik bi bt so nr ou ho cl :: Bs) (fun r M' => r = none ∧ M' = B0 :: B1 :: B2 :: B3 :: B4 :: B5 :: B6 :: B7 :: B8 :: B9 :: B10 :: B11 :: B12 :: bkModel tr ty nx tk pl va fa (Int32.ofNat P) 0 cm tx (mp_ru nu (sp_cov 10 sp_usualM dn)) (mp_ps (mp_q la me tc ts) ps) (mp_s rd pr pv sa pd lo bo co sh se si er of_) sp ke ik bi bt so nr ou ho cl :: Bs) := by
  show am_Rn sc 106 (0, [some (.ref 416), none], [], _) _
  have L : ∀ (d i : Nat), i + d = 10 → am_Rn sc 106 (2, [some (.ref 416), some (.int (Int32.ofNat i))], [], B0 :: B1 :: B2 :: B3 :: B4 :: B5 :: B6 :: B7 :: B8 :: B9 :: B10 :: B11 :: B12 :: bkModel tr ty nx tk pl va fa (Int32.ofNat P) dp cm tx (mp_ru nu (am_fold i (fun k h => upd h k (sp_usualM k)) dn)) (mp_ps (mp_q la me tc ts) ps) (mp_s rd pr pv sa pd lo bo co sh se si er of_) sp ke ik bi bt so nr ou ho cl :: Bs) (fun r M' => r = none ∧ M' = B0 :: B1 :: B2 :: B3 :: B4 :: B5 :: B6 :: B7 :: B8 :: B9 :: B10 :: B11 :: B12 :: bkModel tr ty nx tk pl va fa (Int32.ofNat P) 0 cm tx (mp_ru nu (sp_cov 10 sp_usualM dn)) (mp_ps (mp_q la me tc ts) ps) (mp_s rd pr pv sa pd lo bo co sh se si er of_) sp ke ik bi bt so nr ou ho cl :: Bs) := by
    intro d
    induction d with
    | zero =>
      intro i  hi
      have hiP : i = 10 := by omega
      subst i
      rw [sp_covfold]
      refine am_Rn.go (t := am_t106) rfl 3 rfl ⟨trivial, trivial, trivial, trivial⟩ ?_
      refine am_Rn.brT (by first | exact (am_le (by omega) (by omega)).mpr (Nat.le_refl _) | exact fun q => absurd ((am_lt (by omega) (by omega)).mp q) (Nat.lt_irrefl _) | exact (am_lt (by omega) (by omega)).mpr (by omega) | decide) ?_
      refine am_Rn.go (t := am_t106) rfl 3 rfl ⟨trivial, trivial, trivial, trivial⟩ ?_
      refine am_Rn.ret (t := am_t106) rfl rfl trivial ?_
      exact ⟨rfl, rfl⟩
    | succ d ih =>
      intro i  hi
      have hiP : i < 10 := by omega
      have e1 : (Int32.ofNat i).toNatClampNeg = i := am_tn i (by omega)
      have g := ih (i + 1) (by omega)
      rw [am_fold_succ i, ← am_inc] at g
      generalize hX : (am_fold i (fun k h => upd h k (sp_usualM k)) dn) = X at g ⊢
      have eI : (10 + Int32.ofNat i).toNatClampNeg = 10 + i := by rw [am_10N]; exact am_tn _ (by omega)
      have iI : am_inb (10 + Int32.ofNat i) 20 := by rw [am_10N]; exact am_inb_of (by omega) (by omega)
      rcases (show i = 0 ∨ i = 1 ∨ i = 2 ∨ i = 3 ∨ i = 4 ∨ i = 5 ∨ i = 6 ∨ i = 7 ∨ i = 8 ∨ i = 9 by omega) with hq | hq | hq | hq | hq | hq | hq | hq | hq | hq
      · have hv : sp_usualM i = 15 := by rw [hq]; rfl
        rw [hv] at g
        refine am_Rn.go (t := am_t106) rfl 3 rfl ⟨trivial, trivial, trivial, trivial⟩ ?_
        refine am_Rn.brF (by first | exact fun q => absurd ((am_le (by omega) (by omega)).mp q) (by omega) | exact fun q => absurd ((am_le (i := 9) (by omega) (by omega)).mp q) (by omega) | exact fun q => absurd ((am_le (i := 10) (by omega) (by omega)).mp q) (by omega) | exact fun q => absurd ((am_le (i := 80) (by omega) (by omega)).mp q) (by omega) | exact (am_lt (by omega) (by omega)).mpr hiP | exact fun q => absurd ((am_lt (by omega) (by omega)).mp q) (by omega)) ?_
        refine am_Rn.go (t := am_t106) rfl 7 rfl ⟨trivial, trivial, trivial, trivial, trivial, trivial, trivial, trivial⟩ ?_
        refine am_Rn.brT (by rw [hq]; rfl) ?_
        refine am_Rn.go (t := am_t106) rfl 5 rfl ⟨trivial, trivial, (by exact iI), trivial, trivial, trivial⟩ ?_
        rw [eI, mp_dn _ _ (by omega)]
        exact g
      · have hv : sp_usualM i = 1 := by rw [hq]; rfl
        rw [hv] at g
        refine am_Rn.go (t := am_t106) rfl 3 rfl ⟨trivial, trivial, trivial, trivial⟩ ?_
        refine am_Rn.brF (by first | exact fun q => absurd ((am_le (by omega) (by omega)).mp q) (by omega) | exact fun q => absurd ((am_le (i := 9) (by omega) (by omega)).mp q) (by omega) | exact fun q => absurd ((am_le (i := 10) (by omega) (by omega)).mp q) (by omega) | exact fun q => absurd ((am_le (i := 80) (by omega) (by omega)).mp q) (by omega) | exact (am_lt (by omega) (by omega)).mpr hiP | exact fun q => absurd ((am_lt (by omega) (by omega)).mp q) (by omega)) ?_
        refine am_Rn.go (t := am_t106) rfl 7 rfl ⟨trivial, trivial, trivial, trivial, trivial, trivial, trivial, trivial⟩ ?_
        refine am_Rn.brF (by rw [hq]; decide) ?_
        refine am_Rn.go (t := am_t106) rfl 3 rfl ⟨trivial, trivial, trivial, trivial⟩ ?_
        refine am_Rn.brT (by rw [hq]; rfl) ?_
        refine am_Rn.go (t := am_t106) rfl 5 rfl ⟨trivial, trivial, (by exact iI), trivial, trivial, trivial⟩ ?_
        rw [eI, mp_dn _ _ (by omega)]
        exact g
      · have hv : sp_usualM i = 3 := by rw [hq]; rfl
        rw [hv] at g
        refine am_Rn.go (t := am_t106) rfl 3 rfl ⟨trivial, trivial, trivial, trivial⟩ ?_
        refine am_Rn.brF (by first | exact fun q => absurd ((am_le (by omega) (by omega)).mp q) (by omega) | exact fun q => absurd ((am_le (i := 9) (by omega) (by omega)).mp q) (by omega) | exact fun q => absurd ((am_le (i := 10) (by omega) (by omega)).mp q) (by omega) | exact fun q => absurd ((am_le (i := 80) (by omega) (by omega)).mp q) (by omega) | exact (am_lt (by omega) (by omega)).mpr hiP | exact fun q => absurd ((am_lt (by omega) (by omega)).mp q) (by omega)) ?_
        refine am_Rn.go (t := am_t106) rfl 7 rfl ⟨trivial, trivial, trivial, trivial, trivial, trivial, trivial, trivial⟩ ?_
        refine am_Rn.brF (by rw [hq]; decide) ?_
        refine am_Rn.go (t := am_t106) rfl 3 rfl ⟨trivial, trivial, trivial, trivial⟩ ?_
        refine am_Rn.brF (by rw [hq]; decide) ?_
        refine am_Rn.go (t := am_t106) rfl 3 rfl ⟨trivial, trivial, trivial, trivial⟩ ?_
        refine am_Rn.brT (by rw [hq]; rfl) ?_
        refine am_Rn.go (t := am_t106) rfl 5 rfl ⟨trivial, trivial, (by exact iI), trivial, trivial, trivial⟩ ?_
        rw [eI, mp_dn _ _ (by omega)]
        exact g
      · have hv : sp_usualM i = 0 := by rw [hq]; rfl
        rw [hv] at g
        refine am_Rn.go (t := am_t106) rfl 3 rfl ⟨trivial, trivial, trivial, trivial⟩ ?_
        refine am_Rn.brF (by first | exact fun q => absurd ((am_le (by omega) (by omega)).mp q) (by omega) | exact fun q => absurd ((am_le (i := 9) (by omega) (by omega)).mp q) (by omega) | exact fun q => absurd ((am_le (i := 10) (by omega) (by omega)).mp q) (by omega) | exact fun q => absurd ((am_le (i := 80) (by omega) (by omega)).mp q) (by omega) | exact (am_lt (by omega) (by omega)).mpr hiP | exact fun q => absurd ((am_lt (by omega) (by omega)).mp q) (by omega)) ?_
        refine am_Rn.go (t := am_t106) rfl 7 rfl ⟨trivial, trivial, trivial, trivial, trivial, trivial, trivial, trivial⟩ ?_
        refine am_Rn.brF (by rw [hq]; decide) ?_
        refine am_Rn.go (t := am_t106) rfl 3 rfl ⟨trivial, trivial, trivial, trivial⟩ ?_
        refine am_Rn.brF (by rw [hq]; decide) ?_
        refine am_Rn.go (t := am_t106) rfl 3 rfl ⟨trivial, trivial, trivial, trivial⟩ ?_
        refine am_Rn.brF (by rw [hq]; decide) ?_
        refine am_Rn.go (t := am_t106) rfl 3 rfl ⟨trivial, trivial, trivial, trivial⟩ ?_
        refine am_Rn.brF (by rw [hq]; decide) ?_
        refine am_Rn.go (t := am_t106) rfl 3 rfl ⟨trivial, trivial, trivial, trivial⟩ ?_
        refine am_Rn.brF (by rw [hq]; decide) ?_
        refine am_Rn.go (t := am_t106) rfl 4 rfl ⟨trivial, (by exact iI), trivial, trivial, trivial⟩ ?_
        rw [eI, mp_dn _ _ (by omega)]
        exact g
      · have hv : sp_usualM i = -9 := by rw [hq]; rfl
        rw [hv] at g
        refine am_Rn.go (t := am_t106) rfl 3 rfl ⟨trivial, trivial, trivial, trivial⟩ ?_
        refine am_Rn.brF (by first | exact fun q => absurd ((am_le (by omega) (by omega)).mp q) (by omega) | exact fun q => absurd ((am_le (i := 9) (by omega) (by omega)).mp q) (by omega) | exact fun q => absurd ((am_le (i := 10) (by omega) (by omega)).mp q) (by omega) | exact fun q => absurd ((am_le (i := 80) (by omega) (by omega)).mp q) (by omega) | exact (am_lt (by omega) (by omega)).mpr hiP | exact fun q => absurd ((am_lt (by omega) (by omega)).mp q) (by omega)) ?_
        refine am_Rn.go (t := am_t106) rfl 7 rfl ⟨trivial, trivial, trivial, trivial, trivial, trivial, trivial, trivial⟩ ?_
        refine am_Rn.brF (by rw [hq]; decide) ?_
        refine am_Rn.go (t := am_t106) rfl 3 rfl ⟨trivial, trivial, trivial, trivial⟩ ?_
        refine am_Rn.brF (by rw [hq]; decide) ?_
        refine am_Rn.go (t := am_t106) rfl 3 rfl ⟨trivial, trivial, trivial, trivial⟩ ?_
        refine am_Rn.brF (by rw [hq]; decide) ?_
        refine am_Rn.go (t := am_t106) rfl 3 rfl ⟨trivial, trivial, trivial, trivial⟩ ?_
        refine am_Rn.brT (by rw [hq]; rfl) ?_
        refine am_Rn.go (t := am_t106) rfl 5 rfl ⟨trivial, trivial, (by exact iI), trivial, trivial, trivial⟩ ?_
        rw [eI, mp_dn _ _ (by omega)]
        exact g
      · have hv : sp_usualM i = 0 := by rw [hq]; rfl
        rw [hv] at g
        refine am_Rn.go (t := am_t106) rfl 3 rfl ⟨trivial, trivial, trivial, trivial⟩ ?_
        refine am_Rn.brF (by first | exact fun q => absurd ((am_le (by omega) (by omega)).mp q) (by omega) | exact fun q => absurd ((am_le (i := 9) (by omega) (by omega)).mp q) (by omega) | exact fun q => absurd ((am_le (i := 10) (by omega) (by omega)).mp q) (by omega) | exact fun q => absurd ((am_le (i := 80) (by omega) (by omega)).mp q) (by omega) | exact (am_lt (by omega) (by omega)).mpr hiP | exact fun q => absurd ((am_lt (by omega) (by omega)).mp q) (by omega)) ?_
        refine am_Rn.go (t := am_t106) rfl 7 rfl ⟨trivial, trivial, trivial, trivial, trivial, trivial, trivial, trivial⟩ ?_
        refine am_Rn.brF (by rw [hq]; decide) ?_
        refine am_Rn.go (t := am_t106) rfl 3 rfl ⟨trivial, trivial, trivial, trivial⟩ ?_
        refine am_Rn.brF (by rw [hq]; decide) ?_
        refine am_Rn.go (t := am_t106) rfl 3 rfl ⟨trivial, trivial, trivial, trivial⟩ ?_
        refine am_Rn.brF (by rw [hq]; decide) ?_
        refine am_Rn.go (t := am_t106) rfl 3 rfl ⟨trivial, trivial, trivial, trivial⟩ ?_
        refine am_Rn.brF (by rw [hq]; decide) ?_
        refine am_Rn.go (t := am_t106) rfl 3 rfl ⟨trivial, trivial, trivial, trivial⟩ ?_
        refine am_Rn.brF (by rw [hq]; decide) ?_
        refine am_Rn.go (t := am_t106) rfl 4 rfl ⟨trivial, (by exact iI), trivial, trivial, trivial⟩ ?_
        rw [eI, mp_dn _ _ (by omega)]
        exact g
      · have hv : sp_usualM i = 0 := by rw [hq]; rfl
        rw [hv] at g
        refine am_Rn.go (t := am_t106) rfl 3 rfl ⟨trivial, trivial, trivial, trivial⟩ ?_
        refine am_Rn.brF (by first | exact fun q => absurd ((am_le (by omega) (by omega)).mp q) (by omega) | exact fun q => absurd ((am_le (i := 9) (by omega) (by omega)).mp q) (by omega) | exact fun q => absurd ((am_le (i := 10) (by omega) (by omega)).mp q) (by omega) | exact fun q => absurd ((am_le (i := 80) (by omega) (by omega)).mp q) (by omega) | exact (am_lt (by omega) (by omega)).mpr hiP | exact fun q => absurd ((am_lt (by omega) (by omega)).mp q) (by omega)) ?_
        refine am_Rn.go (t := am_t106) rfl 7 rfl ⟨trivial, trivial, trivial, trivial, trivial, trivial, trivial, trivial⟩ ?_
        refine am_Rn.brF (by rw [hq]; decide) ?_
        refine am_Rn.go (t := am_t106) rfl 3 rfl ⟨trivial, trivial, trivial, trivial⟩ ?_
        refine am_Rn.brF (by rw [hq]; decide) ?_
        refine am_Rn.go (t := am_t106) rfl 3 rfl ⟨trivial, trivial, trivial, trivial⟩ ?_
        refine am_Rn.brF (by rw [hq]; decide) ?_
        refine am_Rn.go (t := am_t106) rfl 3 rfl ⟨trivial, trivial, trivial, trivial⟩ ?_
        refine am_Rn.brF (by rw [hq]; decide) ?_
        refine am_Rn.go (t := am_t106) rfl 3 rfl ⟨trivial, trivial, trivial, trivial⟩ ?_
        refine am_Rn.brF (by rw [hq]; decide) ?_
        refine am_Rn.go (t := am_t106) rfl 4 rfl ⟨trivial, (by exact iI), trivial, trivial, trivial⟩ ?_
        rw [eI, mp_dn _ _ (by omega)]
        exact g
      · have hv : sp_usualM i = 0 := by rw [hq]; rfl
        rw [hv] at g
        refine am_Rn.go (t := am_t106) rfl 3 rfl ⟨trivial, trivial, trivial, trivial⟩ ?_
        refine am_Rn.brF (by first | exact fun q => absurd ((am_le (by omega) (by omega)).mp q) (by omega) | exact fun q => absurd ((am_le (i := 9) (by omega) (by omega)).mp q) (by omega) | exact fun q => absurd ((am_le (i := 10) (by omega) (by omega)).mp q) (by omega) | exact fun q => absurd ((am_le (i := 80) (by omega) (by omega)).mp q) (by omega) | exact (am_lt (by omega) (by omega)).mpr hiP | exact fun q => absurd ((am_lt (by omega) (by omega)).mp q) (by omega)) ?_
        refine am_Rn.go (t := am_t106) rfl 7 rfl ⟨trivial, trivial, trivial, trivial, trivial, trivial, trivial, trivial⟩ ?_
        refine am_Rn.brF (by rw [hq]; decide) ?_
        refine am_Rn.go (t := am_t106) rfl 3 rfl ⟨trivial, trivial, trivial, trivial⟩ ?_
        refine am_Rn.brF (by rw [hq]; decide) ?_
        refine am_Rn.go (t := am_t106) rfl 3 rfl ⟨trivial, trivial, trivial, trivial⟩ ?_
        refine am_Rn.brF (by rw [hq]; decide) ?_
        refine am_Rn.go (t := am_t106) rfl 3 rfl ⟨trivial, trivial, trivial, trivial⟩ ?_
        refine am_Rn.brF (by rw [hq]; decide) ?_
        refine am_Rn.go (t := am_t106) rfl 3 rfl ⟨trivial, trivial, trivial, trivial⟩ ?_
        refine am_Rn.brF (by rw [hq]; decide) ?_
        refine am_Rn.go (t := am_t106) rfl 4 rfl ⟨trivial, (by exact iI), trivial, trivial, trivial⟩ ?_
        rw [eI, mp_dn _ _ (by omega)]
        exact g
      · have hv : sp_usualM i = 0 := by rw [hq]; rfl
        rw [hv] at g
        refine am_Rn.go (t := am_t106) rfl 3 rfl ⟨trivial, trivial, trivial, trivial⟩ ?_
        refine am_Rn.brF (by first | exact fun q => absurd ((am_le (by omega) (by omega)).mp q) (by omega) | exact fun q => absurd ((am_le (i := 9) (by omega) (by omega)).mp q) (by omega) | exact fun q => absurd ((am_le (i := 10) (by omega) (by omega)).mp q) (by omega) | exact fun q => absurd ((am_le (i := 80) (by omega) (by omega)).mp q) (by omega) | exact (am_lt (by omega) (by omega)).mpr hiP | exact fun q => absurd ((am_lt (by omega) (by omega)).mp q) (by omega)) ?_
        refine am_Rn.go (t := am_t106) rfl 7 rfl ⟨trivial, trivial, trivial, trivial, trivial, trivial, trivial, trivial⟩ ?_
        refine am_Rn.brF (by rw [hq]; decide) ?_
        refine am_Rn.go (t := am_t106) rfl 3 rfl ⟨trivial, trivial, trivial, trivial⟩ ?_
        refine am_Rn.brF (by rw [hq]; decide) ?_
        refine am_Rn.go (t := am_t106) rfl 3 rfl ⟨trivial, trivial, trivial, trivial⟩ ?_
        refine am_Rn.brF (by rw [hq]; decide) ?_
        refine am_Rn.go (t := am_t106) rfl 3 rfl ⟨trivial, trivial, trivial, trivial⟩ ?_
        refine am_Rn.brF (by rw [hq]; decide) ?_
        refine am_Rn.go (t := am_t106) rfl 3 rfl ⟨trivial, trivial, trivial, trivial⟩ ?_
        refine am_Rn.brF (by rw [hq]; decide) ?_
        refine am_Rn.go (t := am_t106) rfl 4 rfl ⟨trivial, (by exact iI), trivial, trivial, trivial⟩ ?_
        rw [eI, mp_dn _ _ (by omega)]
        exact g
      · have hv : sp_usualM i = 5 := by rw [hq]; rfl
        rw [hv] at g
        refine am_Rn.go (t := am_t106) rfl 3 rfl ⟨trivial, trivial, trivial, trivial⟩ ?_
        refine am_Rn.brF (by first | exact fun q => absurd ((am_le (by omega) (by omega)).mp q) (by omega) | exact fun q => absurd ((am_le (i := 9) (by omega) (by omega)).mp q) (by omega) | exact fun q => absurd ((am_le (i := 10) (by omega) (by omega)).mp q) (by omega) | exact fun q => absurd ((am_le (i := 80) (by omega) (by omega)).mp q) (by omega) | exact (am_lt (by omega) (by omega)).mpr hiP | exact fun q => absurd ((am_lt (by omega) (by omega)).mp q) (by omega)) ?_
        refine am_Rn.go (t := am_t106) rfl 7 rfl ⟨trivial, trivial, trivial, trivial, trivial, trivial, trivial, trivial⟩ ?_
        refine am_Rn.brF (by rw [hq]; decide) ?_
        refine am_Rn.go (t := am_t106) rfl 3 rfl ⟨trivial, trivial, trivial, trivial⟩ ?_
        refine am_Rn.brF (by rw [hq]; decide) ?_
        refine am_Rn.go (t := am_t106) rfl 3 rfl ⟨trivial, trivial, trivial, trivial⟩ ?_
        refine am_Rn.brF (by rw [hq]; decide) ?_
        refine am_Rn.go (t := am_t106) rfl 3 rfl ⟨trivial, trivial, trivial, trivial⟩ ?_
        refine am_Rn.brF (by rw [hq]; decide) ?_
        refine am_Rn.go (t := am_t106) rfl 3 rfl ⟨trivial, trivial, trivial, trivial⟩ ?_
        refine am_Rn.brT (by rw [hq]; rfl) ?_
        refine am_Rn.go (t := am_t106) rfl 5 rfl ⟨trivial, trivial, (by exact iI), trivial, trivial, trivial⟩ ?_
        rw [eI, mp_dn _ _ (by omega)]
        exact g
  refine am_Rn.go (t := am_t106) rfl 2 rfl ⟨trivial, trivial, trivial⟩ ?_
  exact L 10 0 (by omega)
theorem sp_t_pl (c : Nat → Int32) (n i : Nat) (hi : i ≤ n) : (sp_t c n i).1 ≤ n := by
  unfold sp_t sp_tok sp_tokAt
  have h1 := sp_run_le sp_sp c (n - i) i
  generalize sp_run sp_sp c (n - i) i = s at h1 ⊢
  split
  · dsimp only; omega
  · split
    · dsimp only; omega
    · split
      · dsimp only; omega
      · split <;> dsimp only <;> omega
set_option maxHeartbeats 1000000 in
theorem mm_readsRule (sc : am_Sc) (n : Nat) (hn : n ≤ 400) (tx : Nat → Int32) (hf : ∀ q, q < n → 0 ≤ tx q) (i : Nat) (hi : i ≤ n) (w : Nat) (hw : w < 9) (nx tk pl va : Int32) (hat : sp_at tx n i nx tk pl va) (tr : Int64) (dp cm : Int32) (nu dn la me tc ts ps : Nat → Int32) (P : Nat) (rd pr pv sa pd lo : Int32) (bo co sh se si er of_ sp ke ik bi bt so nr ou ho cl : Nat → Int32) (B0 B1 B2 B3 B4 B5 B6 B7 B8 B9 B10 B11 B12 : List am_E) (Bs : am_M) : am_Rn sc 109 (0, am_entry 109 [.ref 416, .int (Int32.ofNat w)], [], B0 :: B1 :: B2 :: B3 :: B4 :: B5 :: B6 :: B7 :: B8 :: B9 :: B10 :: B11 :: B12 :: bkModel tr (Int32.ofNat n) nx tk pl va (-1) (Int32.ofNat P) dp cm tx (mp_ru nu dn) (mp_ps (mp_q la me tc ts) ps) (mp_s rd pr pv sa pd lo bo co sh se si er of_) sp ke ik bi bt so nr ou ho cl :: Bs) (fun r M' => r = none ∧ match sp_nums tx n (sp_rMany w) (sp_rFirst w) i dn with | .inr X => ∃ nx2 tk2 pl2 va2, M' = B0 :: B1 :: B2 :: B3 :: B4 :: B5 :: B6 :: B7 :: B8 :: B9 :: B10 :: B11 :: B12 :: bkModel tr (Int32.ofNat n) nx2 tk2 pl2 va2 (-1) (Int32.ofNat P) dp cm tx (mp_ru nu X.1) (mp_ps (mp_q la me tc ts) ps) (mp_s rd pr pv sa pd lo bo co sh se si er of_) sp ke ik bi bt so nr ou ho cl :: Bs ∧ sp_at tx n X.2 nx2 tk2 pl2 va2 | .inl p => ∃ nx2 tk2 pl2 va2 dn2, M' = B0 :: B1 :: B2 :: B3 :: B4 :: B5 :: B6 :: B7 :: B8 :: B9 :: B10 :: B11 :: B12 :: bkModel tr (Int32.ofNat n) nx2 tk2 pl2 va2 (Int32.ofNat p) (Int32.ofNat P) dp cm tx (mp_ru nu dn2) (mp_ps (mp_q la me tc ts) ps) (mp_s rd pr pv sa pd lo bo co sh se si er of_) sp ke ik bi bt so nr ou ho cl :: Bs) := by
  show am_Rn sc 109 (0, [some (.ref 416), some (.int (Int32.ofNat w)), none], [], _) _
  have hle := sp_t_le tx n i hi
  rcases (show w = 0 ∨ w = 1 ∨ w = 2 ∨ w = 3 ∨ w = 4 ∨ w = 5 ∨ w = 6 ∨ w = 7 ∨ w = 8 by omega) with rfl | rfl | rfl | rfl | rfl | rfl | rfl | rfl | rfl
  · skip
    rcases Classical.em (sp_okN (sp_t tx n i) (sp_least 0) (sp_most 0) = true) with h1 | h1
    · skip
      have hN : sp_nums tx n (sp_rMany 0) (sp_rFirst 0) i dn = .inr (upd dn 0 (sp_t tx n i).2.2.1, (sp_t tx n i).2.2.2) := if_pos h1
      rw [hN]
      refine am_Rn.go (t := am_t109) rfl 4 rfl ⟨trivial, trivial, trivial, trivial, trivial⟩ ?_
      refine am_Rn.brF (by decide) ?_
      refine am_Rn.go (t := am_t109) rfl 9 rfl ⟨trivial, trivial, trivial, trivial, trivial, trivial, trivial, trivial, trivial, trivial⟩ ?_
      refine am_Rn.call (t := am_t109) rfl rfl (mm_leastOf sc 0 (by omega) _) ?_
      rintro _ _ ⟨rfl, rfl⟩
      refine am_Rn.go (t := am_t109) rfl 1 rfl ⟨trivial, trivial⟩ ?_
      refine am_Rn.call (t := am_t109) rfl rfl (mm_mostOf sc 0 (by omega) _) ?_
      rintro _ _ ⟨rfl, rfl⟩
      refine am_Rn.call (t := am_t109) rfl rfl (mm_number_T (hn := hn) (hf := hf) (hi := hi) (lw := _) (hi0 := _) (hat := hat) (hok := h1) ..) ?_
      rintro _ _ ⟨nx3, tk3, pl3, va3, rfl, rfl, b3⟩
      refine am_Rn.go (t := am_t109) rfl 1 rfl ⟨(by first | exact am_inb_lit rfl | exact am_inb_of (by omega) (by omega)), trivial⟩ ?_
      show am_Rn sc 109 (21, _, _, B0 :: B1 :: B2 :: B3 :: B4 :: B5 :: B6 :: B7 :: B8 :: B9 :: B10 :: B11 :: B12 :: bkModel tr (Int32.ofNat n) nx3 tk3 pl3 va3 (-1) (Int32.ofNat P) dp cm tx (upd (mp_ru nu dn) (10 + 0) (sp_t tx n i).2.2.1) (mp_ps (mp_q la me tc ts) ps) (mp_s rd pr pv sa pd lo bo co sh se si er of_) sp ke ik bi bt so nr ou ho cl :: Bs) _
      rw [mp_dn nu dn (by omega)]
      refine am_Rn.go (t := am_t109) rfl 3 rfl ⟨trivial, trivial, trivial, trivial⟩ ?_
      refine am_Rn.brF (by decide) ?_
      refine am_Rn.ret (t := am_t109) rfl rfl trivial ?_
      exact ⟨rfl, nx3, tk3, pl3, va3, rfl, b3⟩
    · skip
      have hN : sp_nums tx n (sp_rMany 0) (sp_rFirst 0) i dn = .inl (sp_t tx n i).1 := if_neg h1
      rw [hN]
      refine am_Rn.go (t := am_t109) rfl 4 rfl ⟨trivial, trivial, trivial, trivial, trivial⟩ ?_
      refine am_Rn.brF (by decide) ?_
      refine am_Rn.go (t := am_t109) rfl 9 rfl ⟨trivial, trivial, trivial, trivial, trivial, trivial, trivial, trivial, trivial, trivial⟩ ?_
      refine am_Rn.call (t := am_t109) rfl rfl (mm_leastOf sc 0 (by omega) _) ?_
      rintro _ _ ⟨rfl, rfl⟩
      refine am_Rn.go (t := am_t109) rfl 1 rfl ⟨trivial, trivial⟩ ?_
      refine am_Rn.call (t := am_t109) rfl rfl (mm_mostOf sc 0 (by omega) _) ?_
      rintro _ _ ⟨rfl, rfl⟩
      refine am_Rn.call (t := am_t109) rfl rfl (mm_number_F (hn := hn) (hf := hf) (hi := hi) (lw := _) (hi0 := _) (hat := hat) (hok := h1) ..) ?_
      rintro _ _ ⟨rfl, rfl⟩
      refine am_Rn.go (t := am_t109) rfl 1 rfl ⟨(by first | exact am_inb_lit rfl | exact am_inb_of (by omega) (by omega)), trivial⟩ ?_
      show am_Rn sc 109 (21, _, _, B0 :: B1 :: B2 :: B3 :: B4 :: B5 :: B6 :: B7 :: B8 :: B9 :: B10 :: B11 :: B12 :: bkModel tr (Int32.ofNat n) nx tk pl va (Int32.ofNat (sp_t tx n i).1) (Int32.ofNat P) dp cm tx (upd (mp_ru nu dn) (10 + 0) 0) (mp_ps (mp_q la me tc ts) ps) (mp_s rd pr pv sa pd lo bo co sh se si er of_) sp ke ik bi bt so nr ou ho cl :: Bs) _
      rw [mp_dn nu dn (by omega)]
      refine am_Rn.go (t := am_t109) rfl 3 rfl ⟨trivial, trivial, trivial, trivial⟩ ?_
      refine am_Rn.brF (by decide) ?_
      refine am_Rn.ret (t := am_t109) rfl rfl trivial ?_
      exact ⟨rfl, _, _, _, _, _, rfl⟩
  · skip
    rcases Classical.em (sp_okN (sp_t tx n i) (sp_least 1) (sp_most 1) = true) with h1 | h1
    · skip
      rcases Classical.em (sp_okN (sp_t tx n (sp_t tx n i).2.2.2) (sp_least 2) (sp_most 2) = true) with h2 | h2
      · skip
        have hN : sp_nums tx n (sp_rMany 1) (sp_rFirst 1) i dn = .inr (upd (upd dn 1 (sp_t tx n i).2.2.1) 2 (sp_t tx n (sp_t tx n i).2.2.2).2.2.1, (sp_t tx n (sp_t tx n i).2.2.2).2.2.2) := (if_pos h1).trans (if_pos h2)
        rw [hN]
        refine am_Rn.go (t := am_t109) rfl 4 rfl ⟨trivial, trivial, trivial, trivial, trivial⟩ ?_
        refine am_Rn.brF (by decide) ?_
        refine am_Rn.go (t := am_t109) rfl 9 rfl ⟨trivial, trivial, trivial, trivial, trivial, trivial, trivial, trivial, trivial, trivial⟩ ?_
        refine am_Rn.call (t := am_t109) rfl rfl (mm_leastOf sc 1 (by omega) _) ?_
        rintro _ _ ⟨rfl, rfl⟩
        refine am_Rn.go (t := am_t109) rfl 1 rfl ⟨trivial, trivial⟩ ?_
        refine am_Rn.call (t := am_t109) rfl rfl (mm_mostOf sc 1 (by omega) _) ?_
        rintro _ _ ⟨rfl, rfl⟩
        refine am_Rn.call (t := am_t109) rfl rfl (mm_number_T (hn := hn) (hf := hf) (hi := hi) (lw := _) (hi0 := _) (hat := hat) (hok := h1) ..) ?_
        rintro _ _ ⟨nx3, tk3, pl3, va3, rfl, rfl, b3⟩
        refine am_Rn.go (t := am_t109) rfl 1 rfl ⟨(by first | exact am_inb_lit rfl | exact am_inb_of (by omega) (by omega)), trivial⟩ ?_
        show am_Rn sc 109 (21, _, _, B0 :: B1 :: B2 :: B3 :: B4 :: B5 :: B6 :: B7 :: B8 :: B9 :: B10 :: B11 :: B12 :: bkModel tr (Int32.ofNat n) nx3 tk3 pl3 va3 (-1) (Int32.ofNat P) dp cm tx (upd (mp_ru nu dn) (10 + 1) (sp_t tx n i).2.2.1) (mp_ps (mp_q la me tc ts) ps) (mp_s rd pr pv sa pd lo bo co sh se si er of_) sp ke ik bi bt so nr ou ho cl :: Bs) _
        rw [mp_dn nu dn (by omega)]
        refine am_Rn.go (t := am_t109) rfl 3 rfl ⟨trivial, trivial, trivial, trivial⟩ ?_
        refine am_Rn.brT (by decide) ?_
        refine am_Rn.go (t := am_t109) rfl 8 rfl ⟨trivial, trivial, trivial, trivial, trivial, trivial, trivial, trivial, trivial⟩ ?_
        refine am_Rn.call (t := am_t109) rfl rfl (mm_number_T (hn := hn) (hf := hf) (hi := hle) (lw := _) (hi0 := _) (hat := b3) (hok := h2) ..) ?_
        rintro _ _ ⟨nx4, tk4, pl4, va4, rfl, rfl, b4⟩
        refine am_Rn.go (t := am_t109) rfl 1 rfl ⟨(by first | exact am_inb_lit rfl | exact am_inb_of (by omega) (by omega)), trivial⟩ ?_
        show am_Rn sc 109 (34, _, _, B0 :: B1 :: B2 :: B3 :: B4 :: B5 :: B6 :: B7 :: B8 :: B9 :: B10 :: B11 :: B12 :: bkModel tr (Int32.ofNat n) nx4 tk4 pl4 va4 (-1) (Int32.ofNat P) dp cm tx (upd (mp_ru nu (upd dn 1 (sp_t tx n i).2.2.1)) (10 + 2) (sp_t tx n (sp_t tx n i).2.2.2).2.2.1) (mp_ps (mp_q la me tc ts) ps) (mp_s rd pr pv sa pd lo bo co sh se si er of_) sp ke ik bi bt so nr ou ho cl :: Bs) _
        rw [mp_dn nu _ (by omega)]
        refine am_Rn.ret (t := am_t109) rfl rfl trivial ?_
        exact ⟨rfl, nx4, tk4, pl4, va4, rfl, b4⟩
      · skip
        have hN : sp_nums tx n (sp_rMany 1) (sp_rFirst 1) i dn = .inl (sp_t tx n (sp_t tx n i).2.2.2).1 := (if_pos h1).trans (if_neg h2)
        rw [hN]
        refine am_Rn.go (t := am_t109) rfl 4 rfl ⟨trivial, trivial, trivial, trivial, trivial⟩ ?_
        refine am_Rn.brF (by decide) ?_
        refine am_Rn.go (t := am_t109) rfl 9 rfl ⟨trivial, trivial, trivial, trivial, trivial, trivial, trivial, trivial, trivial, trivial⟩ ?_
        refine am_Rn.call (t := am_t109) rfl rfl (mm_leastOf sc 1 (by omega) _) ?_
        rintro _ _ ⟨rfl, rfl⟩
        refine am_Rn.go (t := am_t109) rfl 1 rfl ⟨trivial, trivial⟩ ?_
        refine am_Rn.call (t := am_t109) rfl rfl (mm_mostOf sc 1 (by omega) _) ?_
        rintro _ _ ⟨rfl, rfl⟩
        refine am_Rn.call (t := am_t109) rfl rfl (mm_number_T (hn := hn) (hf := hf) (hi := hi) (lw := _) (hi0 := _) (hat := hat) (hok := h1) ..) ?_
        rintro _ _ ⟨nx3, tk3, pl3, va3, rfl, rfl, b3⟩
        refine am_Rn.go (t := am_t109) rfl 1 rfl ⟨(by first | exact am_inb_lit rfl | exact am_inb_of (by omega) (by omega)), trivial⟩ ?_
        show am_Rn sc 109 (21, _, _, B0 :: B1 :: B2 :: B3 :: B4 :: B5 :: B6 :: B7 :: B8 :: B9 :: B10 :: B11 :: B12 :: bkModel tr (Int32.ofNat n) nx3 tk3 pl3 va3 (-1) (Int32.ofNat P) dp cm tx (upd (mp_ru nu dn) (10 + 1) (sp_t tx n i).2.2.1) (mp_ps (mp_q la me tc ts) ps) (mp_s rd pr pv sa pd lo bo co sh se si er of_) sp ke ik bi bt so nr ou ho cl :: Bs) _
        rw [mp_dn nu dn (by omega)]
        refine am_Rn.go (t := am_t109) rfl 3 rfl ⟨trivial, trivial, trivial, trivial⟩ ?_
        refine am_Rn.brT (by decide) ?_
        refine am_Rn.go (t := am_t109) rfl 8 rfl ⟨trivial, trivial, trivial, trivial, trivial, trivial, trivial, trivial, trivial⟩ ?_
        refine am_Rn.call (t := am_t109) rfl rfl (mm_number_F (hn := hn) (hf := hf) (hi := hle) (lw := _) (hi0 := _) (hat := b3) (hok := h2) ..) ?_
        rintro _ _ ⟨rfl, rfl⟩
        refine am_Rn.go (t := am_t109) rfl 1 rfl ⟨(by first | exact am_inb_lit rfl | exact am_inb_of (by omega) (by omega)), trivial⟩ ?_
        show am_Rn sc 109 (34, _, _, B0 :: B1 :: B2 :: B3 :: B4 :: B5 :: B6 :: B7 :: B8 :: B9 :: B10 :: B11 :: B12 :: bkModel tr (Int32.ofNat n) nx3 tk3 pl3 va3 (Int32.ofNat (sp_t tx n (sp_t tx n i).2.2.2).1) (Int32.ofNat P) dp cm tx (upd (mp_ru nu (upd dn 1 (sp_t tx n i).2.2.1)) (10 + 2) 0) (mp_ps (mp_q la me tc ts) ps) (mp_s rd pr pv sa pd lo bo co sh se si er of_) sp ke ik bi bt so nr ou ho cl :: Bs) _
        rw [mp_dn nu _ (by omega)]
        refine am_Rn.ret (t := am_t109) rfl rfl trivial ?_
        exact ⟨rfl, _, _, _, _, _, rfl⟩
    · skip
      have hN : sp_nums tx n (sp_rMany 1) (sp_rFirst 1) i dn = .inl (sp_t tx n i).1 := if_neg h1
      rw [hN]
      have hp0 : (0 : Int32) ≤ Int32.ofNat (sp_t tx n i).1 := (am_le (i := 0) (by omega) (by have := sp_t_pl tx n i hi; omega)).mpr (by omega)
      refine am_Rn.go (t := am_t109) rfl 4 rfl ⟨trivial, trivial, trivial, trivial, trivial⟩ ?_
      refine am_Rn.brF (by decide) ?_
      refine am_Rn.go (t := am_t109) rfl 9 rfl ⟨trivial, trivial, trivial, trivial, trivial, trivial, trivial, trivial, trivial, trivial⟩ ?_
      refine am_Rn.call (t := am_t109) rfl rfl (mm_leastOf sc 1 (by omega) _) ?_
      rintro _ _ ⟨rfl, rfl⟩
      refine am_Rn.go (t := am_t109) rfl 1 rfl ⟨trivial, trivial⟩ ?_
      refine am_Rn.call (t := am_t109) rfl rfl (mm_mostOf sc 1 (by omega) _) ?_
      rintro _ _ ⟨rfl, rfl⟩
      refine am_Rn.call (t := am_t109) rfl rfl (mm_number_F (hn := hn) (hf := hf) (hi := hi) (lw := _) (hi0 := _) (hat := hat) (hok := h1) ..) ?_
      rintro _ _ ⟨rfl, rfl⟩
      refine am_Rn.go (t := am_t109) rfl 1 rfl ⟨(by first | exact am_inb_lit rfl | exact am_inb_of (by omega) (by omega)), trivial⟩ ?_
      show am_Rn sc 109 (21, _, _, B0 :: B1 :: B2 :: B3 :: B4 :: B5 :: B6 :: B7 :: B8 :: B9 :: B10 :: B11 :: B12 :: bkModel tr (Int32.ofNat n) nx tk pl va (Int32.ofNat (sp_t tx n i).1) (Int32.ofNat P) dp cm tx (upd (mp_ru nu dn) (10 + 1) 0) (mp_ps (mp_q la me tc ts) ps) (mp_s rd pr pv sa pd lo bo co sh se si er of_) sp ke ik bi bt so nr ou ho cl :: Bs) _
      rw [mp_dn nu dn (by omega)]
      refine am_Rn.go (t := am_t109) rfl 3 rfl ⟨trivial, trivial, trivial, trivial⟩ ?_
      refine am_Rn.brT (by decide) ?_
      refine am_Rn.go (t := am_t109) rfl 8 rfl ⟨trivial, trivial, trivial, trivial, trivial, trivial, trivial, trivial, trivial⟩ ?_
      refine am_Rn.call (t := am_t109) rfl rfl (mm_number_N (hfa := hp0) ..) ?_
      rintro _ _ ⟨rfl, rfl⟩
      refine am_Rn.go (t := am_t109) rfl 1 rfl ⟨(by first | exact am_inb_lit rfl | exact am_inb_of (by omega) (by omega)), trivial⟩ ?_
      show am_Rn sc 109 (34, _, _, B0 :: B1 :: B2 :: B3 :: B4 :: B5 :: B6 :: B7 :: B8 :: B9 :: B10 :: B11 :: B12 :: bkModel tr (Int32.ofNat n) nx tk pl va (Int32.ofNat (sp_t tx n i).1) (Int32.ofNat P) dp cm tx (upd (mp_ru nu (upd dn 1 0)) (10 + 2) 0) (mp_ps (mp_q la me tc ts) ps) (mp_s rd pr pv sa pd lo bo co sh se si er of_) sp ke ik bi bt so nr ou ho cl :: Bs) _
      rw [mp_dn nu _ (by omega)]
      refine am_Rn.ret (t := am_t109) rfl rfl trivial ?_
      exact ⟨rfl, _, _, _, _, _, rfl⟩
  · skip
    rcases Classical.em (sp_okN (sp_t tx n i) (sp_least 3) (sp_most 3) = true) with h1 | h1
    · skip
      have hN : sp_nums tx n (sp_rMany 2) (sp_rFirst 2) i dn = .inr (upd dn 3 (sp_t tx n i).2.2.1, (sp_t tx n i).2.2.2) := if_pos h1
      rw [hN]
      refine am_Rn.go (t := am_t109) rfl 4 rfl ⟨trivial, trivial, trivial, trivial, trivial⟩ ?_
      refine am_Rn.brT (by decide) ?_
      refine am_Rn.go (t := am_t109) rfl 10 rfl ⟨trivial, trivial, trivial, trivial, trivial, trivial, trivial, trivial, trivial, trivial, trivial⟩ ?_
      refine am_Rn.call (t := am_t109) rfl rfl (mm_leastOf sc 2 (by omega) _) ?_
      rintro _ _ ⟨rfl, rfl⟩
      refine am_Rn.go (t := am_t109) rfl 1 rfl ⟨trivial, trivial⟩ ?_
      refine am_Rn.call (t := am_t109) rfl rfl (mm_mostOf sc 2 (by omega) _) ?_
      rintro _ _ ⟨rfl, rfl⟩
      refine am_Rn.call (t := am_t109) rfl rfl (mm_number_T (hn := hn) (hf := hf) (hi := hi) (lw := _) (hi0 := _) (hat := hat) (hok := h1) ..) ?_
      rintro _ _ ⟨nx3, tk3, pl3, va3, rfl, rfl, b3⟩
      refine am_Rn.go (t := am_t109) rfl 1 rfl ⟨(by first | exact am_inb_lit rfl | exact am_inb_of (by omega) (by omega)), trivial⟩ ?_
      show am_Rn sc 109 (21, _, _, B0 :: B1 :: B2 :: B3 :: B4 :: B5 :: B6 :: B7 :: B8 :: B9 :: B10 :: B11 :: B12 :: bkModel tr (Int32.ofNat n) nx3 tk3 pl3 va3 (-1) (Int32.ofNat P) dp cm tx (upd (mp_ru nu dn) (10 + 3) (sp_t tx n i).2.2.1) (mp_ps (mp_q la me tc ts) ps) (mp_s rd pr pv sa pd lo bo co sh se si er of_) sp ke ik bi bt so nr ou ho cl :: Bs) _
      rw [mp_dn nu dn (by omega)]
      refine am_Rn.go (t := am_t109) rfl 3 rfl ⟨trivial, trivial, trivial, trivial⟩ ?_
      refine am_Rn.brF (by decide) ?_
      refine am_Rn.ret (t := am_t109) rfl rfl trivial ?_
      exact ⟨rfl, nx3, tk3, pl3, va3, rfl, b3⟩
    · skip
      have hN : sp_nums tx n (sp_rMany 2) (sp_rFirst 2) i dn = .inl (sp_t tx n i).1 := if_neg h1
      rw [hN]
      refine am_Rn.go (t := am_t109) rfl 4 rfl ⟨trivial, trivial, trivial, trivial, trivial⟩ ?_
      refine am_Rn.brT (by decide) ?_
      refine am_Rn.go (t := am_t109) rfl 10 rfl ⟨trivial, trivial, trivial, trivial, trivial, trivial, trivial, trivial, trivial, trivial, trivial⟩ ?_
      refine am_Rn.call (t := am_t109) rfl rfl (mm_leastOf sc 2 (by omega) _) ?_
      rintro _ _ ⟨rfl, rfl⟩
      refine am_Rn.go (t := am_t109) rfl 1 rfl ⟨trivial, trivial⟩ ?_
      refine am_Rn.call (t := am_t109) rfl rfl (mm_mostOf sc 2 (by omega) _) ?_
      rintro _ _ ⟨rfl, rfl⟩
      refine am_Rn.call (t := am_t109) rfl rfl (mm_number_F (hn := hn) (hf := hf) (hi := hi) (lw := _) (hi0 := _) (hat := hat) (hok := h1) ..) ?_
      rintro _ _ ⟨rfl, rfl⟩
      refine am_Rn.go (t := am_t109) rfl 1 rfl ⟨(by first | exact am_inb_lit rfl | exact am_inb_of (by omega) (by omega)), trivial⟩ ?_
      show am_Rn sc 109 (21, _, _, B0 :: B1 :: B2 :: B3 :: B4 :: B5 :: B6 :: B7 :: B8 :: B9 :: B10 :: B11 :: B12 :: bkModel tr (Int32.ofNat n) nx tk pl va (Int32.ofNat (sp_t tx n i).1) (Int32.ofNat P) dp cm tx (upd (mp_ru nu dn) (10 + 3) 0) (mp_ps (mp_q la me tc ts) ps) (mp_s rd pr pv sa pd lo bo co sh se si er of_) sp ke ik bi bt so nr ou ho cl :: Bs) _
      rw [mp_dn nu dn (by omega)]
      refine am_Rn.go (t := am_t109) rfl 3 rfl ⟨trivial, trivial, trivial, trivial⟩ ?_
      refine am_Rn.brF (by decide) ?_
      refine am_Rn.ret (t := am_t109) rfl rfl trivial ?_
      exact ⟨rfl, _, _, _, _, _, rfl⟩
  · skip
    rcases Classical.em (sp_okN (sp_t tx n i) (sp_least 4) (sp_most 4) = true) with h1 | h1
    · skip
      have hN : sp_nums tx n (sp_rMany 3) (sp_rFirst 3) i dn = .inr (upd dn 4 (sp_t tx n i).2.2.1, (sp_t tx n i).2.2.2) := if_pos h1
      rw [hN]
      refine am_Rn.go (t := am_t109) rfl 4 rfl ⟨trivial, trivial, trivial, trivial, trivial⟩ ?_
      refine am_Rn.brT (by decide) ?_
      refine am_Rn.go (t := am_t109) rfl 10 rfl ⟨trivial, trivial, trivial, trivial, trivial, trivial, trivial, trivial, trivial, trivial, trivial⟩ ?_
      refine am_Rn.call (t := am_t109) rfl rfl (mm_leastOf sc 3 (by omega) _) ?_
      rintro _ _ ⟨rfl, rfl⟩
      refine am_Rn.go (t := am_t109) rfl 1 rfl ⟨trivial, trivial⟩ ?_
      refine am_Rn.call (t := am_t109) rfl rfl (mm_mostOf sc 3 (by omega) _) ?_
      rintro _ _ ⟨rfl, rfl⟩
      refine am_Rn.call (t := am_t109) rfl rfl (mm_number_T (hn := hn) (hf := hf) (hi := hi) (lw := _) (hi0 := _) (hat := hat) (hok := h1) ..) ?_
      rintro _ _ ⟨nx3, tk3, pl3, va3, rfl, rfl, b3⟩
      refine am_Rn.go (t := am_t109) rfl 1 rfl ⟨(by first | exact am_inb_lit rfl | exact am_inb_of (by omega) (by omega)), trivial⟩ ?_
      show am_Rn sc 109 (21, _, _, B0 :: B1 :: B2 :: B3 :: B4 :: B5 :: B6 :: B7 :: B8 :: B9 :: B10 :: B11 :: B12 :: bkModel tr (Int32.ofNat n) nx3 tk3 pl3 va3 (-1) (Int32.ofNat P) dp cm tx (upd (mp_ru nu dn) (10 + 4) (sp_t tx n i).2.2.1) (mp_ps (mp_q la me tc ts) ps) (mp_s rd pr pv sa pd lo bo co sh se si er of_) sp ke ik bi bt so nr ou ho cl :: Bs) _
      rw [mp_dn nu dn (by omega)]
      refine am_Rn.go (t := am_t109) rfl 3 rfl ⟨trivial, trivial, trivial, trivial⟩ ?_
      refine am_Rn.brF (by decide) ?_
      refine am_Rn.ret (t := am_t109) rfl rfl trivial ?_
      exact ⟨rfl, nx3, tk3, pl3, va3, rfl, b3⟩
    · skip
      have hN : sp_nums tx n (sp_rMany 3) (sp_rFirst 3) i dn = .inl (sp_t tx n i).1 := if_neg h1
      rw [hN]
      refine am_Rn.go (t := am_t109) rfl 4 rfl ⟨trivial, trivial, trivial, trivial, trivial⟩ ?_
      refine am_Rn.brT (by decide) ?_
      refine am_Rn.go (t := am_t109) rfl 10 rfl ⟨trivial, trivial, trivial, trivial, trivial, trivial, trivial, trivial, trivial, trivial, trivial⟩ ?_
      refine am_Rn.call (t := am_t109) rfl rfl (mm_leastOf sc 3 (by omega) _) ?_
      rintro _ _ ⟨rfl, rfl⟩
      refine am_Rn.go (t := am_t109) rfl 1 rfl ⟨trivial, trivial⟩ ?_
      refine am_Rn.call (t := am_t109) rfl rfl (mm_mostOf sc 3 (by omega) _) ?_
      rintro _ _ ⟨rfl, rfl⟩
      refine am_Rn.call (t := am_t109) rfl rfl (mm_number_F (hn := hn) (hf := hf) (hi := hi) (lw := _) (hi0 := _) (hat := hat) (hok := h1) ..) ?_
      rintro _ _ ⟨rfl, rfl⟩
      refine am_Rn.go (t := am_t109) rfl 1 rfl ⟨(by first | exact am_inb_lit rfl | exact am_inb_of (by omega) (by omega)), trivial⟩ ?_
      show am_Rn sc 109 (21, _, _, B0 :: B1 :: B2 :: B3 :: B4 :: B5 :: B6 :: B7 :: B8 :: B9 :: B10 :: B11 :: B12 :: bkModel tr (Int32.ofNat n) nx tk pl va (Int32.ofNat (sp_t tx n i).1) (Int32.ofNat P) dp cm tx (upd (mp_ru nu dn) (10 + 4) 0) (mp_ps (mp_q la me tc ts) ps) (mp_s rd pr pv sa pd lo bo co sh se si er of_) sp ke ik bi bt so nr ou ho cl :: Bs) _
      rw [mp_dn nu dn (by omega)]
      refine am_Rn.go (t := am_t109) rfl 3 rfl ⟨trivial, trivial, trivial, trivial⟩ ?_
      refine am_Rn.brF (by decide) ?_
      refine am_Rn.ret (t := am_t109) rfl rfl trivial ?_
      exact ⟨rfl, _, _, _, _, _, rfl⟩
  · skip
    rcases Classical.em (sp_okN (sp_t tx n i) (sp_least 5) (sp_most 5) = true) with h1 | h1
    · skip
      have hN : sp_nums tx n (sp_rMany 4) (sp_rFirst 4) i dn = .inr (upd dn 5 (sp_t tx n i).2.2.1, (sp_t tx n i).2.2.2) := if_pos h1
      rw [hN]
      refine am_Rn.go (t := am_t109) rfl 4 rfl ⟨trivial, trivial, trivial, trivial, trivial⟩ ?_
      refine am_Rn.brT (by decide) ?_
      refine am_Rn.go (t := am_t109) rfl 10 rfl ⟨trivial, trivial, trivial, trivial, trivial, trivial, trivial, trivial, trivial, trivial, trivial⟩ ?_
      refine am_Rn.call (t := am_t109) rfl rfl (mm_leastOf sc 4 (by omega) _) ?_
      rintro _ _ ⟨rfl, rfl⟩
      refine am_Rn.go (t := am_t109) rfl 1 rfl ⟨trivial, trivial⟩ ?_
      refine am_Rn.call (t := am_t109) rfl rfl (mm_mostOf sc 4 (by omega) _) ?_
      rintro _ _ ⟨rfl, rfl⟩
      refine am_Rn.call (t := am_t109) rfl rfl (mm_number_T (hn := hn) (hf := hf) (hi := hi) (lw := _) (hi0 := _) (hat := hat) (hok := h1) ..) ?_
      rintro _ _ ⟨nx3, tk3, pl3, va3, rfl, rfl, b3⟩
      refine am_Rn.go (t := am_t109) rfl 1 rfl ⟨(by first | exact am_inb_lit rfl | exact am_inb_of (by omega) (by omega)), trivial⟩ ?_
      show am_Rn sc 109 (21, _, _, B0 :: B1 :: B2 :: B3 :: B4 :: B5 :: B6 :: B7 :: B8 :: B9 :: B10 :: B11 :: B12 :: bkModel tr (Int32.ofNat n) nx3 tk3 pl3 va3 (-1) (Int32.ofNat P) dp cm tx (upd (mp_ru nu dn) (10 + 5) (sp_t tx n i).2.2.1) (mp_ps (mp_q la me tc ts) ps) (mp_s rd pr pv sa pd lo bo co sh se si er of_) sp ke ik bi bt so nr ou ho cl :: Bs) _
      rw [mp_dn nu dn (by omega)]
      refine am_Rn.go (t := am_t109) rfl 3 rfl ⟨trivial, trivial, trivial, trivial⟩ ?_
      refine am_Rn.brF (by decide) ?_
      refine am_Rn.ret (t := am_t109) rfl rfl trivial ?_
      exact ⟨rfl, nx3, tk3, pl3, va3, rfl, b3⟩
    · skip
      have hN : sp_nums tx n (sp_rMany 4) (sp_rFirst 4) i dn = .inl (sp_t tx n i).1 := if_neg h1
      rw [hN]
      refine am_Rn.go (t := am_t109) rfl 4 rfl ⟨trivial, trivial, trivial, trivial, trivial⟩ ?_
      refine am_Rn.brT (by decide) ?_
      refine am_Rn.go (t := am_t109) rfl 10 rfl ⟨trivial, trivial, trivial, trivial, trivial, trivial, trivial, trivial, trivial, trivial, trivial⟩ ?_
      refine am_Rn.call (t := am_t109) rfl rfl (mm_leastOf sc 4 (by omega) _) ?_
      rintro _ _ ⟨rfl, rfl⟩
      refine am_Rn.go (t := am_t109) rfl 1 rfl ⟨trivial, trivial⟩ ?_
      refine am_Rn.call (t := am_t109) rfl rfl (mm_mostOf sc 4 (by omega) _) ?_
      rintro _ _ ⟨rfl, rfl⟩
      refine am_Rn.call (t := am_t109) rfl rfl (mm_number_F (hn := hn) (hf := hf) (hi := hi) (lw := _) (hi0 := _) (hat := hat) (hok := h1) ..) ?_
      rintro _ _ ⟨rfl, rfl⟩
      refine am_Rn.go (t := am_t109) rfl 1 rfl ⟨(by first | exact am_inb_lit rfl | exact am_inb_of (by omega) (by omega)), trivial⟩ ?_
      show am_Rn sc 109 (21, _, _, B0 :: B1 :: B2 :: B3 :: B4 :: B5 :: B6 :: B7 :: B8 :: B9 :: B10 :: B11 :: B12 :: bkModel tr (Int32.ofNat n) nx tk pl va (Int32.ofNat (sp_t tx n i).1) (Int32.ofNat P) dp cm tx (upd (mp_ru nu dn) (10 + 5) 0) (mp_ps (mp_q la me tc ts) ps) (mp_s rd pr pv sa pd lo bo co sh se si er of_) sp ke ik bi bt so nr ou ho cl :: Bs) _
      rw [mp_dn nu dn (by omega)]
      refine am_Rn.go (t := am_t109) rfl 3 rfl ⟨trivial, trivial, trivial, trivial⟩ ?_
      refine am_Rn.brF (by decide) ?_
      refine am_Rn.ret (t := am_t109) rfl rfl trivial ?_
      exact ⟨rfl, _, _, _, _, _, rfl⟩
  · skip
    rcases Classical.em (sp_okN (sp_t tx n i) (sp_least 6) (sp_most 6) = true) with h1 | h1
    · skip
      have hN : sp_nums tx n (sp_rMany 5) (sp_rFirst 5) i dn = .inr (upd dn 6 (sp_t tx n i).2.2.1, (sp_t tx n i).2.2.2) := if_pos h1
      rw [hN]
      refine am_Rn.go (t := am_t109) rfl 4 rfl ⟨trivial, trivial, trivial, trivial, trivial⟩ ?_
      refine am_Rn.brT (by decide) ?_
      refine am_Rn.go (t := am_t109) rfl 10 rfl ⟨trivial, trivial, trivial, trivial, trivial, trivial, trivial, trivial, trivial, trivial, trivial⟩ ?_
      refine am_Rn.call (t := am_t109) rfl rfl (mm_leastOf sc 5 (by omega) _) ?_
      rintro _ _ ⟨rfl, rfl⟩
      refine am_Rn.go (t := am_t109) rfl 1 rfl ⟨trivial, trivial⟩ ?_
      refine am_Rn.call (t := am_t109) rfl rfl (mm_mostOf sc 5 (by omega) _) ?_
      rintro _ _ ⟨rfl, rfl⟩
      refine am_Rn.call (t := am_t109) rfl rfl (mm_number_T (hn := hn) (hf := hf) (hi := hi) (lw := _) (hi0 := _) (hat := hat) (hok := h1) ..) ?_
      rintro _ _ ⟨nx3, tk3, pl3, va3, rfl, rfl, b3⟩
      refine am_Rn.go (t := am_t109) rfl 1 rfl ⟨(by first | exact am_inb_lit rfl | exact am_inb_of (by omega) (by omega)), trivial⟩ ?_
      show am_Rn sc 109 (21, _, _, B0 :: B1 :: B2 :: B3 :: B4 :: B5 :: B6 :: B7 :: B8 :: B9 :: B10 :: B11 :: B12 :: bkModel tr (Int32.ofNat n) nx3 tk3 pl3 va3 (-1) (Int32.ofNat P) dp cm tx (upd (mp_ru nu dn) (10 + 6) (sp_t tx n i).2.2.1) (mp_ps (mp_q la me tc ts) ps) (mp_s rd pr pv sa pd lo bo co sh se si er of_) sp ke ik bi bt so nr ou ho cl :: Bs) _
      rw [mp_dn nu dn (by omega)]
      refine am_Rn.go (t := am_t109) rfl 3 rfl ⟨trivial, trivial, trivial, trivial⟩ ?_
      refine am_Rn.brF (by decide) ?_
      refine am_Rn.ret (t := am_t109) rfl rfl trivial ?_
      exact ⟨rfl, nx3, tk3, pl3, va3, rfl, b3⟩
    · skip
      have hN : sp_nums tx n (sp_rMany 5) (sp_rFirst 5) i dn = .inl (sp_t tx n i).1 := if_neg h1
      rw [hN]
      refine am_Rn.go (t := am_t109) rfl 4 rfl ⟨trivial, trivial, trivial, trivial, trivial⟩ ?_
      refine am_Rn.brT (by decide) ?_
      refine am_Rn.go (t := am_t109) rfl 10 rfl ⟨trivial, trivial, trivial, trivial, trivial, trivial, trivial, trivial, trivial, trivial, trivial⟩ ?_
      refine am_Rn.call (t := am_t109) rfl rfl (mm_leastOf sc 5 (by omega) _) ?_
      rintro _ _ ⟨rfl, rfl⟩
      refine am_Rn.go (t := am_t109) rfl 1 rfl ⟨trivial, trivial⟩ ?_
      refine am_Rn.call (t := am_t109) rfl rfl (mm_mostOf sc 5 (by omega) _) ?_
      rintro _ _ ⟨rfl, rfl⟩
      refine am_Rn.call (t := am_t109) rfl rfl (mm_number_F (hn := hn) (hf := hf) (hi := hi) (lw := _) (hi0 := _) (hat := hat) (hok := h1) ..) ?_
      rintro _ _ ⟨rfl, rfl⟩
      refine am_Rn.go (t := am_t109) rfl 1 rfl ⟨(by first | exact am_inb_lit rfl | exact am_inb_of (by omega) (by omega)), trivial⟩ ?_
      show am_Rn sc 109 (21, _, _, B0 :: B1 :: B2 :: B3 :: B4 :: B5 :: B6 :: B7 :: B8 :: B9 :: B10 :: B11 :: B12 :: bkModel tr (Int32.ofNat n) nx tk pl va (Int32.ofNat (sp_t tx n i).1) (Int32.ofNat P) dp cm tx (upd (mp_ru nu dn) (10 + 6) 0) (mp_ps (mp_q la me tc ts) ps) (mp_s rd pr pv sa pd lo bo co sh se si er of_) sp ke ik bi bt so nr ou ho cl :: Bs) _
      rw [mp_dn nu dn (by omega)]
      refine am_Rn.go (t := am_t109) rfl 3 rfl ⟨trivial, trivial, trivial, trivial⟩ ?_
      refine am_Rn.brF (by decide) ?_
      refine am_Rn.ret (t := am_t109) rfl rfl trivial ?_
      exact ⟨rfl, _, _, _, _, _, rfl⟩
  · skip
    rcases Classical.em (sp_okN (sp_t tx n i) (sp_least 7) (sp_most 7) = true) with h1 | h1
    · skip
      have hN : sp_nums tx n (sp_rMany 6) (sp_rFirst 6) i dn = .inr (upd dn 7 (sp_t tx n i).2.2.1, (sp_t tx n i).2.2.2) := if_pos h1
      rw [hN]
      refine am_Rn.go (t := am_t109) rfl 4 rfl ⟨trivial, trivial, trivial, trivial, trivial⟩ ?_
      refine am_Rn.brT (by decide) ?_
      refine am_Rn.go (t := am_t109) rfl 10 rfl ⟨trivial, trivial, trivial, trivial, trivial, trivial, trivial, trivial, trivial, trivial, trivial⟩ ?_
      refine am_Rn.call (t := am_t109) rfl rfl (mm_leastOf sc 6 (by omega) _) ?_
      rintro _ _ ⟨rfl, rfl⟩
      refine am_Rn.go (t := am_t109) rfl 1 rfl ⟨trivial, trivial⟩ ?_
      refine am_Rn.call (t := am_t109) rfl rfl (mm_mostOf sc 6 (by omega) _) ?_
      rintro _ _ ⟨rfl, rfl⟩
      refine am_Rn.call (t := am_t109) rfl rfl (mm_number_T (hn := hn) (hf := hf) (hi := hi) (lw := _) (hi0 := _) (hat := hat) (hok := h1) ..) ?_
      rintro _ _ ⟨nx3, tk3, pl3, va3, rfl, rfl, b3⟩
      refine am_Rn.go (t := am_t109) rfl 1 rfl ⟨(by first | exact am_inb_lit rfl | exact am_inb_of (by omega) (by omega)), trivial⟩ ?_
      show am_Rn sc 109 (21, _, _, B0 :: B1 :: B2 :: B3 :: B4 :: B5 :: B6 :: B7 :: B8 :: B9 :: B10 :: B11 :: B12 :: bkModel tr (Int32.ofNat n) nx3 tk3 pl3 va3 (-1) (Int32.ofNat P) dp cm tx (upd (mp_ru nu dn) (10 + 7) (sp_t tx n i).2.2.1) (mp_ps (mp_q la me tc ts) ps) (mp_s rd pr pv sa pd lo bo co sh se si er of_) sp ke ik bi bt so nr ou ho cl :: Bs) _
      rw [mp_dn nu dn (by omega)]
      refine am_Rn.go (t := am_t109) rfl 3 rfl ⟨trivial, trivial, trivial, trivial⟩ ?_
      refine am_Rn.brF (by decide) ?_
      refine am_Rn.ret (t := am_t109) rfl rfl trivial ?_
      exact ⟨rfl, nx3, tk3, pl3, va3, rfl, b3⟩
    · skip
      have hN : sp_nums tx n (sp_rMany 6) (sp_rFirst 6) i dn = .inl (sp_t tx n i).1 := if_neg h1
      rw [hN]
      refine am_Rn.go (t := am_t109) rfl 4 rfl ⟨trivial, trivial, trivial, trivial, trivial⟩ ?_
      refine am_Rn.brT (by decide) ?_
      refine am_Rn.go (t := am_t109) rfl 10 rfl ⟨trivial, trivial, trivial, trivial, trivial, trivial, trivial, trivial, trivial, trivial, trivial⟩ ?_
      refine am_Rn.call (t := am_t109) rfl rfl (mm_leastOf sc 6 (by omega) _) ?_
      rintro _ _ ⟨rfl, rfl⟩
      refine am_Rn.go (t := am_t109) rfl 1 rfl ⟨trivial, trivial⟩ ?_
      refine am_Rn.call (t := am_t109) rfl rfl (mm_mostOf sc 6 (by omega) _) ?_
      rintro _ _ ⟨rfl, rfl⟩
      refine am_Rn.call (t := am_t109) rfl rfl (mm_number_F (hn := hn) (hf := hf) (hi := hi) (lw := _) (hi0 := _) (hat := hat) (hok := h1) ..) ?_
      rintro _ _ ⟨rfl, rfl⟩
      refine am_Rn.go (t := am_t109) rfl 1 rfl ⟨(by first | exact am_inb_lit rfl | exact am_inb_of (by omega) (by omega)), trivial⟩ ?_
      show am_Rn sc 109 (21, _, _, B0 :: B1 :: B2 :: B3 :: B4 :: B5 :: B6 :: B7 :: B8 :: B9 :: B10 :: B11 :: B12 :: bkModel tr (Int32.ofNat n) nx tk pl va (Int32.ofNat (sp_t tx n i).1) (Int32.ofNat P) dp cm tx (upd (mp_ru nu dn) (10 + 7) 0) (mp_ps (mp_q la me tc ts) ps) (mp_s rd pr pv sa pd lo bo co sh se si er of_) sp ke ik bi bt so nr ou ho cl :: Bs) _
      rw [mp_dn nu dn (by omega)]
      refine am_Rn.go (t := am_t109) rfl 3 rfl ⟨trivial, trivial, trivial, trivial⟩ ?_
      refine am_Rn.brF (by decide) ?_
      refine am_Rn.ret (t := am_t109) rfl rfl trivial ?_
      exact ⟨rfl, _, _, _, _, _, rfl⟩
  · skip
    rcases Classical.em (sp_okN (sp_t tx n i) (sp_least 8) (sp_most 8) = true) with h1 | h1
    · skip
      have hN : sp_nums tx n (sp_rMany 7) (sp_rFirst 7) i dn = .inr (upd dn 8 (sp_t tx n i).2.2.1, (sp_t tx n i).2.2.2) := if_pos h1
      rw [hN]
      refine am_Rn.go (t := am_t109) rfl 4 rfl ⟨trivial, trivial, trivial, trivial, trivial⟩ ?_
      refine am_Rn.brT (by decide) ?_
      refine am_Rn.go (t := am_t109) rfl 10 rfl ⟨trivial, trivial, trivial, trivial, trivial, trivial, trivial, trivial, trivial, trivial, trivial⟩ ?_
      refine am_Rn.call (t := am_t109) rfl rfl (mm_leastOf sc 7 (by omega) _) ?_
      rintro _ _ ⟨rfl, rfl⟩
      refine am_Rn.go (t := am_t109) rfl 1 rfl ⟨trivial, trivial⟩ ?_
      refine am_Rn.call (t := am_t109) rfl rfl (mm_mostOf sc 7 (by omega) _) ?_
      rintro _ _ ⟨rfl, rfl⟩
      refine am_Rn.call (t := am_t109) rfl rfl (mm_number_T (hn := hn) (hf := hf) (hi := hi) (lw := _) (hi0 := _) (hat := hat) (hok := h1) ..) ?_
      rintro _ _ ⟨nx3, tk3, pl3, va3, rfl, rfl, b3⟩
      refine am_Rn.go (t := am_t109) rfl 1 rfl ⟨(by first | exact am_inb_lit rfl | exact am_inb_of (by omega) (by omega)), trivial⟩ ?_
      show am_Rn sc 109 (21, _, _, B0 :: B1 :: B2 :: B3 :: B4 :: B5 :: B6 :: B7 :: B8 :: B9 :: B10 :: B11 :: B12 :: bkModel tr (Int32.ofNat n) nx3 tk3 pl3 va3 (-1) (Int32.ofNat P) dp cm tx (upd (mp_ru nu dn) (10 + 8) (sp_t tx n i).2.2.1) (mp_ps (mp_q la me tc ts) ps) (mp_s rd pr pv sa pd lo bo co sh se si er of_) sp ke ik bi bt so nr ou ho cl :: Bs) _
      rw [mp_dn nu dn (by omega)]
      refine am_Rn.go (t := am_t109) rfl 3 rfl ⟨trivial, trivial, trivial, trivial⟩ ?_
      refine am_Rn.brF (by decide) ?_
      refine am_Rn.ret (t := am_t109) rfl rfl trivial ?_
      exact ⟨rfl, nx3, tk3, pl3, va3, rfl, b3⟩
    · skip
      have hN : sp_nums tx n (sp_rMany 7) (sp_rFirst 7) i dn = .inl (sp_t tx n i).1 := if_neg h1
      rw [hN]
      refine am_Rn.go (t := am_t109) rfl 4 rfl ⟨trivial, trivial, trivial, trivial, trivial⟩ ?_
      refine am_Rn.brT (by decide) ?_
      refine am_Rn.go (t := am_t109) rfl 10 rfl ⟨trivial, trivial, trivial, trivial, trivial, trivial, trivial, trivial, trivial, trivial, trivial⟩ ?_
      refine am_Rn.call (t := am_t109) rfl rfl (mm_leastOf sc 7 (by omega) _) ?_
      rintro _ _ ⟨rfl, rfl⟩
      refine am_Rn.go (t := am_t109) rfl 1 rfl ⟨trivial, trivial⟩ ?_
      refine am_Rn.call (t := am_t109) rfl rfl (mm_mostOf sc 7 (by omega) _) ?_
      rintro _ _ ⟨rfl, rfl⟩
      refine am_Rn.call (t := am_t109) rfl rfl (mm_number_F (hn := hn) (hf := hf) (hi := hi) (lw := _) (hi0 := _) (hat := hat) (hok := h1) ..) ?_
      rintro _ _ ⟨rfl, rfl⟩
      refine am_Rn.go (t := am_t109) rfl 1 rfl ⟨(by first | exact am_inb_lit rfl | exact am_inb_of (by omega) (by omega)), trivial⟩ ?_
      show am_Rn sc 109 (21, _, _, B0 :: B1 :: B2 :: B3 :: B4 :: B5 :: B6 :: B7 :: B8 :: B9 :: B10 :: B11 :: B12 :: bkModel tr (Int32.ofNat n) nx tk pl va (Int32.ofNat (sp_t tx n i).1) (Int32.ofNat P) dp cm tx (upd (mp_ru nu dn) (10 + 8) 0) (mp_ps (mp_q la me tc ts) ps) (mp_s rd pr pv sa pd lo bo co sh se si er of_) sp ke ik bi bt so nr ou ho cl :: Bs) _
      rw [mp_dn nu dn (by omega)]
      refine am_Rn.go (t := am_t109) rfl 3 rfl ⟨trivial, trivial, trivial, trivial⟩ ?_
      refine am_Rn.brF (by decide) ?_
      refine am_Rn.ret (t := am_t109) rfl rfl trivial ?_
      exact ⟨rfl, _, _, _, _, _, rfl⟩
  · skip
    rcases Classical.em (sp_okN (sp_t tx n i) (sp_least 9) (sp_most 9) = true) with h1 | h1
    · skip
      have hN : sp_nums tx n (sp_rMany 8) (sp_rFirst 8) i dn = .inr (upd dn 9 (sp_t tx n i).2.2.1, (sp_t tx n i).2.2.2) := if_pos h1
      rw [hN]
      refine am_Rn.go (t := am_t109) rfl 4 rfl ⟨trivial, trivial, trivial, trivial, trivial⟩ ?_
      refine am_Rn.brT (by decide) ?_
      refine am_Rn.go (t := am_t109) rfl 10 rfl ⟨trivial, trivial, trivial, trivial, trivial, trivial, trivial, trivial, trivial, trivial, trivial⟩ ?_
      refine am_Rn.call (t := am_t109) rfl rfl (mm_leastOf sc 8 (by omega) _) ?_
      rintro _ _ ⟨rfl, rfl⟩
      refine am_Rn.go (t := am_t109) rfl 1 rfl ⟨trivial, trivial⟩ ?_
      refine am_Rn.call (t := am_t109) rfl rfl (mm_mostOf sc 8 (by omega) _) ?_
      rintro _ _ ⟨rfl, rfl⟩
      refine am_Rn.call (t := am_t109) rfl rfl (mm_number_T (hn := hn) (hf := hf) (hi := hi) (lw := _) (hi0 := _) (hat := hat) (hok := h1) ..) ?_
      rintro _ _ ⟨nx3, tk3, pl3, va3, rfl, rfl, b3⟩
      refine am_Rn.go (t := am_t109) rfl 1 rfl ⟨(by first | exact am_inb_lit rfl | exact am_inb_of (by omega) (by omega)), trivial⟩ ?_
      show am_Rn sc 109 (21, _, _, B0 :: B1 :: B2 :: B3 :: B4 :: B5 :: B6 :: B7 :: B8 :: B9 :: B10 :: B11 :: B12 :: bkModel tr (Int32.ofNat n) nx3 tk3 pl3 va3 (-1) (Int32.ofNat P) dp cm tx (upd (mp_ru nu dn) (10 + 9) (sp_t tx n i).2.2.1) (mp_ps (mp_q la me tc ts) ps) (mp_s rd pr pv sa pd lo bo co sh se si er of_) sp ke ik bi bt so nr ou ho cl :: Bs) _
      rw [mp_dn nu dn (by omega)]
      refine am_Rn.go (t := am_t109) rfl 3 rfl ⟨trivial, trivial, trivial, trivial⟩ ?_
      refine am_Rn.brF (by decide) ?_
      refine am_Rn.ret (t := am_t109) rfl rfl trivial ?_
      exact ⟨rfl, nx3, tk3, pl3, va3, rfl, b3⟩
    · skip
      have hN : sp_nums tx n (sp_rMany 8) (sp_rFirst 8) i dn = .inl (sp_t tx n i).1 := if_neg h1
      rw [hN]
      refine am_Rn.go (t := am_t109) rfl 4 rfl ⟨trivial, trivial, trivial, trivial, trivial⟩ ?_
      refine am_Rn.brT (by decide) ?_
      refine am_Rn.go (t := am_t109) rfl 10 rfl ⟨trivial, trivial, trivial, trivial, trivial, trivial, trivial, trivial, trivial, trivial, trivial⟩ ?_
      refine am_Rn.call (t := am_t109) rfl rfl (mm_leastOf sc 8 (by omega) _) ?_
      rintro _ _ ⟨rfl, rfl⟩
      refine am_Rn.go (t := am_t109) rfl 1 rfl ⟨trivial, trivial⟩ ?_
      refine am_Rn.call (t := am_t109) rfl rfl (mm_mostOf sc 8 (by omega) _) ?_
      rintro _ _ ⟨rfl, rfl⟩
      refine am_Rn.call (t := am_t109) rfl rfl (mm_number_F (hn := hn) (hf := hf) (hi := hi) (lw := _) (hi0 := _) (hat := hat) (hok := h1) ..) ?_
      rintro _ _ ⟨rfl, rfl⟩
      refine am_Rn.go (t := am_t109) rfl 1 rfl ⟨(by first | exact am_inb_lit rfl | exact am_inb_of (by omega) (by omega)), trivial⟩ ?_
      show am_Rn sc 109 (21, _, _, B0 :: B1 :: B2 :: B3 :: B4 :: B5 :: B6 :: B7 :: B8 :: B9 :: B10 :: B11 :: B12 :: bkModel tr (Int32.ofNat n) nx tk pl va (Int32.ofNat (sp_t tx n i).1) (Int32.ofNat P) dp cm tx (upd (mp_ru nu dn) (10 + 9) 0) (mp_ps (mp_q la me tc ts) ps) (mp_s rd pr pv sa pd lo bo co sh se si er of_) sp ke ik bi bt so nr ou ho cl :: Bs) _
      rw [mp_dn nu dn (by omega)]
      refine am_Rn.go (t := am_t109) rfl 3 rfl ⟨trivial, trivial, trivial, trivial⟩ ?_
      refine am_Rn.brF (by decide) ?_
      refine am_Rn.ret (t := am_t109) rfl rfl trivial ?_
      exact ⟨rfl, _, _, _, _, _, rfl⟩

