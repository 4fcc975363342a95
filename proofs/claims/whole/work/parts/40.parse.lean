theorem sx_readNumber (sc : am_Sc) (i : Nat) (lo up : Int32) (tx : Nat → Int32) (n : Nat) (hn : n ≤ 400) (it fa pl ki va tw : Int32) (hi : i ≤ n) (B0 B1 : List am_E) (Bs : am_M) : am_Rn sc 10 (0, am_entry 10 [.ref 64, .int lo, .int up], [], B0 :: B1 :: bkReader tx (Int32.ofNat n) it fa (Int32.ofNat i) pl ki va tw :: Bs) (fun r M' => ∃ ki2 va2, r = some (.int (am_b ((sp_okN (sp_t tx n i) lo up) = true))) ∧ M' = B0 :: B1 :: bkReader tx (Int32.ofNat n) it fa (Int32.ofNat (sp_t tx n i).2.2.2) (Int32.ofNat (sp_t tx n i).1) ki2 va2 tw :: Bs ∧ ((sp_okN (sp_t tx n i) lo up) = true → va2 = (sp_t tx n i).2.2.1)) := by
  show am_Rn sc 10 (0, [some (.ref 64), some (.int lo), some (.int up)], [], _) _
  refine am_Rn.go (t := am_t10) rfl 1 rfl ⟨trivial, trivial⟩ ?_
  refine am_Rn.call (t := am_t10) rfl rfl (sx_readToken sc i tx n hn it fa pl ki va tw hi ..) ?_
  rintro _ _ ⟨rfl, rfl⟩
  obtain ⟨t1, t2, t3, t4⟩ := sp_tok_va tx n i va
  rw [t1, t3]
  generalize (sp_tok tx n i va).2.1 = ki2 at t2 ⊢
  generalize (sp_tok tx n i va).2.2.1 = va2 at t4 ⊢
  refine am_Rn.go (t := am_t10) rfl 4 rfl ⟨trivial, trivial, trivial, trivial, trivial⟩ ?_
  refine am_Rn.br (fun h1 => ?_) (fun h1 => ?_)
  · skip
    have k3 := t2.symm.trans h1
    have hv := t4 (Or.inl k3)
    refine am_Rn.go (t := am_t10) rfl 4 rfl ⟨trivial, trivial, trivial, trivial, trivial⟩ ?_
    refine am_Rn.br (fun h2 => ?_) (fun h2 => ?_)
    · skip
      have k4 : ¬ lo ≤ (sp_t tx n i).2.2.1 := by rw [← hv]; exact Int32.not_le.mpr h2
      refine am_Rn.go (t := am_t10) rfl 1 rfl ⟨trivial, trivial⟩ ?_
      refine am_Rn.ret (t := am_t10) rfl rfl (by first | exact Or.inl rfl | exact Or.inr rfl | exact am_b01 _) ?_
      refine ⟨ki2, va2, congrArg (fun z => some (Value.int z)) ?_, rfl, fun h => t4 (Or.inl (of_decide_eq_true h).1)⟩
      first
        | exact (am_bT (decide_eq_true ⟨k3, k4, k5⟩)).symm
        | exact (am_bF (fun z => k3 (of_decide_eq_true z).1)).symm
        | exact (am_bF (fun z => k4 (of_decide_eq_true z).2.1)).symm
        | exact (am_bF (fun z => k5 (of_decide_eq_true z).2.2)).symm
    · skip
      have k4 : lo ≤ (sp_t tx n i).2.2.1 := by rw [← hv]; exact Int32.not_lt.mp h2
      refine am_Rn.go (t := am_t10) rfl 4 rfl ⟨trivial, trivial, trivial, trivial, trivial⟩ ?_
      refine am_Rn.br (fun h3 => ?_) (fun h3 => ?_)
      · skip
        have k5 : ¬ (sp_t tx n i).2.2.1 ≤ up := by rw [← hv]; exact Int32.not_le.mpr h3
        refine am_Rn.go (t := am_t10) rfl 1 rfl ⟨trivial, trivial⟩ ?_
        refine am_Rn.ret (t := am_t10) rfl rfl (by first | exact Or.inl rfl | exact Or.inr rfl | exact am_b01 _) ?_
        refine ⟨ki2, va2, congrArg (fun z => some (Value.int z)) ?_, rfl, fun h => t4 (Or.inl (of_decide_eq_true h).1)⟩
        first
          | exact (am_bT (decide_eq_true ⟨k3, k4, k5⟩)).symm
          | exact (am_bF (fun z => k3 (of_decide_eq_true z).1)).symm
          | exact (am_bF (fun z => k4 (of_decide_eq_true z).2.1)).symm
          | exact (am_bF (fun z => k5 (of_decide_eq_true z).2.2)).symm
      · skip
        have k5 : (sp_t tx n i).2.2.1 ≤ up := by rw [← hv]; exact Int32.not_lt.mp h3
        refine am_Rn.go (t := am_t10) rfl 2 rfl ⟨trivial, trivial, trivial⟩ ?_
        refine am_Rn.ret (t := am_t10) rfl rfl (by first | exact Or.inl rfl | exact Or.inr rfl | exact am_b01 _) ?_
        refine ⟨ki2, va2, congrArg (fun z => some (Value.int z)) ?_, rfl, fun h => t4 (Or.inl (of_decide_eq_true h).1)⟩
        first
          | exact (am_bT (decide_eq_true ⟨k3, k4, k5⟩)).symm
          | exact (am_bF (fun z => k3 (of_decide_eq_true z).1)).symm
          | exact (am_bF (fun z => k4 (of_decide_eq_true z).2.1)).symm
          | exact (am_bF (fun z => k5 (of_decide_eq_true z).2.2)).symm
  · skip
    have k3 : ¬ (sp_t tx n i).2.1 = 3 := fun z => h1 (t2.trans z)
    refine am_Rn.go (t := am_t10) rfl 1 rfl ⟨trivial, trivial⟩ ?_
    refine am_Rn.ret (t := am_t10) rfl rfl (by first | exact Or.inl rfl | exact Or.inr rfl | exact am_b01 _) ?_
    refine ⟨ki2, va2, congrArg (fun z => some (Value.int z)) ?_, rfl, fun h => t4 (Or.inl (of_decide_eq_true h).1)⟩
    first
      | exact (am_bT (decide_eq_true ⟨k3, k4, k5⟩)).symm
      | exact (am_bF (fun z => k3 (of_decide_eq_true z).1)).symm
      | exact (am_bF (fun z => k4 (of_decide_eq_true z).2.1)).symm
      | exact (am_bF (fun z => k5 (of_decide_eq_true z).2.2)).symm
theorem sx_readStop (sc : am_Sc) (i : Nat) (tx : Nat → Int32) (n : Nat) (hn : n ≤ 400) (it fa pl ki va tw : Int32) (hi : i ≤ n) (B0 B1 : List am_E) (Bs : am_M) : am_Rn sc 11 (0, am_entry 11 [.ref 64], [], B0 :: B1 :: bkReader tx (Int32.ofNat n) it fa (Int32.ofNat i) pl ki va tw :: Bs) (fun r M' => ∃ ki2 va2, r = some (.int (am_b ((sp_t tx n i).2.1 = 2))) ∧ M' = B0 :: B1 :: bkReader tx (Int32.ofNat n) it fa (Int32.ofNat (sp_t tx n i).2.2.2) (Int32.ofNat (sp_t tx n i).1) ki2 va2 tw :: Bs) := by
  show am_Rn sc 11 (0, [some (.ref 64)], [], _) _
  refine am_Rn.go (t := am_t11) rfl 1 rfl ⟨trivial, trivial⟩ ?_
  refine am_Rn.call (t := am_t11) rfl rfl (sx_readToken sc i tx n hn it fa pl ki va tw hi ..) ?_
  rintro _ _ ⟨rfl, rfl⟩
  obtain ⟨t1, t2, t3, t4⟩ := sp_tok_va tx n i va
  rw [t1, t3]
  generalize (sp_tok tx n i va).2.1 = ki2 at t2 ⊢
  generalize (sp_tok tx n i va).2.2.1 = va2 at t4 ⊢
  refine am_Rn.go (t := am_t11) rfl 4 rfl ⟨trivial, trivial, trivial, trivial, trivial⟩ ?_
  refine am_Rn.br (fun h1 => ?_) (fun h1 => ?_)
  · skip
    refine am_Rn.go (t := am_t11) rfl 2 rfl ⟨trivial, trivial, trivial⟩ ?_
    refine am_Rn.ret (t := am_t11) rfl rfl (by first | exact Or.inl rfl | exact Or.inr rfl | exact am_b01 _) ?_
    refine ⟨ki2, va2, congrArg (fun z => some (Value.int z)) ?_, rfl⟩
    first
      | exact (am_bT (t2.symm.trans (by assumption))).symm
      | exact (am_bF (fun z => (by assumption : ¬ ki2 = 2) (t2.trans z))).symm
  · skip
    refine am_Rn.go (t := am_t11) rfl 1 rfl ⟨trivial, trivial⟩ ?_
    refine am_Rn.ret (t := am_t11) rfl rfl (by first | exact Or.inl rfl | exact Or.inr rfl | exact am_b01 _) ?_
    refine ⟨ki2, va2, congrArg (fun z => some (Value.int z)) ?_, rfl⟩
    first
      | exact (am_bT (t2.symm.trans (by assumption))).symm
      | exact (am_bF (fun z => (by assumption : ¬ ki2 = 2) (t2.trans z))).symm
