theorem sx_readNumber (sc : am_Sc) (i : Nat) (lo up : Int32) (tx : Nat → Int32) (n : Nat) (hn : n ≤ 400) (it fa pl ki va tw : Int32) (hi : i ≤ n) (B0 B1 : List am_E) (Bs : am_M) : am_Rn sc 10 (0, am_entry 10 [.ref 64, .int lo, .int up], [], B0 :: B1 :: bkReader tx (Int32.ofNat n) it fa (Int32.ofNat i) pl ki va tw :: Bs) (fun r M' => ∃ ki2 va2, r = some (.int (am_b ((sp_okN (sp_t tx n i) lo up) = true))) ∧ M' = B0 :: B1 :: bkReader tx (Int32.ofNat n) it fa (Int32.ofNat (sp_t tx n i).2.2.2) (Int32.ofNat (sp_t tx n i).1) ki2 va2 tw :: Bs ∧ ((sp_okN (sp_t tx n i) lo up) = true → va2 = (sp_t tx n i).2.2.1)) := by
  show am_Rn sc 10 (0, [some (.ref 64), some (.int lo), some (.int up)], [], _) _
  refine am_Rn.go (t := am_t10) rfl 1 rfl ⟨trivial, trivial⟩ ?_
  refine am_Rn.call (t := am_t10) rfl rfl (sx_readToken sc i tx n hn it fa pl ki va tw hi ..) ?_
  rintro _ _ ⟨rfl, rfl⟩
  obtain ⟨t1, t2, t3, t4⟩ := sp_tok_va tx n i va
  rw [t1, t3]
  generalize (sp_tok tx n i va).2.1 = ki2 at t2 ⊢
  generalize (sp_tok tx n i va).2.2.1 = va2 at t4 ⊢
  refine am_Rn.go (t := am_t10) rfl 4 rfl ⟨trivial, trivial, trivial, trivial, trivial⟩ ?_
  refine am_Rn.br (fun h1 => ?_) (fun h1 => ?_)
  · skip
    have k3 := t2.symm.trans h1
    have hv := t4 (Or.inl k3)
    refine am_Rn.go (t := am_t10) rfl 4 rfl ⟨trivial, trivial, trivial, trivial, trivial⟩ ?_
    refine am_Rn.br (fun h2 => ?_) (fun h2 => ?_)
    · skip
      have k4 : ¬ lo ≤ (sp_t tx n i).2.2.1 := by rw [← hv]; exact Int32.not_le.mpr h2
      refine am_Rn.go (t := am_t10) rfl 1 rfl ⟨trivial, trivial⟩ ?_
      refine am_Rn.ret (t := am_t10) rfl rfl (by first | exact Or.inl rfl | exact Or.inr rfl | exact am_b01 _) ?_
      refine ⟨ki2, va2, congrArg (fun z => some (Value.int z)) ?_, rfl, fun h => t4 (Or.inl (of_decide_eq_true h).1)⟩
      first
        | exact (am_bT (decide_eq_true ⟨k3, k4, k5⟩)).symm
        | exact (am_bF (fun z => k3 (of_decide_eq_true z).1)).symm
        | exact (am_bF (fun z => k4 (of_decide_eq_true z).2.1)).symm
        | exact (am_bF (fun z => k5 (of_decide_eq_true z).2.2)).symm
    · skip
      have k4 : lo ≤ (sp_t tx n i).2.2.1 := by rw [← hv]; exact Int32.not_lt.mp h2
      refine am_Rn.go (t := am_t10) rfl 4 rfl ⟨trivial, trivial, trivial, trivial, trivial⟩ ?_
      refine am_Rn.br (fun h3 => ?_) (fun h3 => ?_)
      · skip
        have k5 : ¬ (sp_t tx n i).2.2.1 ≤ up := by rw [← hv]; exact Int32.not_le.mpr h3
        refine am_Rn.go (t := am_t10) rfl 1 rfl ⟨trivial, trivial⟩ ?_
        refine am_Rn.ret (t := am_t10) rfl rfl (by first | exact Or.inl rfl | exact Or.inr rfl | exact am_b01 _) ?_
        refine ⟨ki2, va2, congrArg (fun z => some (Value.int z)) ?_, rfl, fun h => t4 (Or.inl (of_decide_eq_true h).1)⟩
        first
          | exact (am_bT (decide_eq_true ⟨k3, k4, k5⟩)).symm
          | exact (am_bF (fun z => k3 (of_decide_eq_true z).1)).symm
          | exact (am_bF (fun z => k4 (of_decide_eq_true z).2.1)).symm
          | exact (am_bF (fun z => k5 (of_decide_eq_true z).2.2)).symm
      · skip
        have k5 : (sp_t tx n i).2.2.1 ≤ up := by rw [← hv]; exact Int32.not_lt.mp h3
        refine am_Rn.go (t := am_t10) rfl 2 rfl ⟨trivial, trivial, trivial⟩ ?_
        refine am_Rn.ret (t := am_t10) rfl rfl (by first | exact Or.inl rfl | exact Or.inr rfl | exact am_b01 _) ?_
        refine ⟨ki2, va2, congrArg (fun z => some (Value.int z)) ?_, rfl, fun h => t4 (Or.inl (of_decide_eq_true h).1)⟩
        first
          | exact (am_bT (decide_eq_true ⟨k3, k4, k5⟩)).symm
          | exact (am_bF (fun z => k3 (of_decide_eq_true z).1)).symm
          | exact (am_bF (fun z => k4 (of_decide_eq_true z).2.1)).symm
          | exact (am_bF (fun z => k5 (of_decide_eq_true z).2.2)).symm
  · skip
    have k3 : ¬ (sp_t tx n i).2.1 = 3 := fun z => h1 (t2.trans z)
    refine am_Rn.go (t := am_t10) rfl 1 rfl ⟨trivial, trivial⟩ ?_
    refine am_Rn.ret (t := am_t10) rfl rfl (by first | exact Or.inl rfl | exact Or.inr rfl | exact am_b01 _) ?_
    refine ⟨ki2, va2, congrArg (fun z => some (Value.int z)) ?_, rfl, fun h => t4 (Or.inl (of_decide_eq_true h).1)⟩
    first
      | exact (am_bT (decide_eq_true ⟨k3, k4, k5⟩)).symm
      | exact (am_bF (fun z => k3 (of_decide_eq_true z).1)).symm
      | exact (am_bF (fun z => k4 (of_decide_eq_true z).2.1)).symm
      | exact (am_bF (fun z => k5 (of_decide_eq_true z).2.2)).symm
theorem sx_readStop (sc : am_Sc) (i : Nat) (tx : Nat → Int32) (n : Nat) (hn : n ≤ 400) (it fa pl ki va tw : Int32) (hi : i ≤ n) (B0 B1 : List am_E) (Bs : am_M) : am_Rn sc 11 (0, am_entry 11 [.ref 64], [], B0 :: B1 :: bkReader tx (Int32.ofNat n) it fa (Int32.ofNat i) pl ki va tw :: Bs) (fun r M' => ∃ ki2 va2, r = some (.int (am_b ((sp_t tx n i).2.1 = 2))) ∧ M' = B0 :: B1 :: bkReader tx (Int32.ofNat n) it fa (Int32.ofNat (sp_t tx n i).2.2.2) (Int32.ofNat (sp_t tx n i).1) ki2 va2 tw :: Bs) := by
  show am_Rn sc 11 (0, [some (.ref 64)], [], _) _
  refine am_Rn.go (t := am_t11) rfl 1 rfl ⟨trivial, trivial⟩ ?_
  refine am_Rn.call (t := am_t11) rfl rfl (sx_readToken sc i tx n hn it fa pl ki va tw hi ..) ?_
  rintro _ _ ⟨rfl, rfl⟩
  obtain ⟨t1, t2, t3, t4⟩ := sp_tok_va tx n i va
  rw [t1, t3]
  generalize (sp_tok tx n i va).2.1 = ki2 at t2 ⊢
  generalize (sp_tok tx n i va).2.2.1 = va2 at t4 ⊢
  refine am_Rn.go (t := am_t11) rfl 4 rfl ⟨trivial, trivial, trivial, trivial, trivial⟩ ?_
  refine am_Rn.br (fun h1 => ?_) (fun h1 => ?_)
  · skip
    refine am_Rn.go (t := am_t11) rfl 2 rfl ⟨trivial, trivial, trivial⟩ ?_
    refine am_Rn.ret (t := am_t11) rfl rfl (by first | exact Or.inl rfl | exact Or.inr rfl | exact am_b01 _) ?_
    refine ⟨ki2, va2, congrArg (fun z => some (Value.int z)) ?_, rfl⟩
    first
      | exact (am_bT (t2.symm.trans (by assumption))).symm
      | exact (am_bF (fun z => (by assumption : ¬ ki2 = 2) (t2.trans z))).symm
  · skip
    refine am_Rn.go (t := am_t11) rfl 1 rfl ⟨trivial, trivial⟩ ?_
    refine am_Rn.ret (t := am_t11) rfl rfl (by first | exact Or.inl rfl | exact Or.inr rfl | exact am_b01 _) ?_
    refine ⟨ki2, va2, congrArg (fun z => some (Value.int z)) ?_, rfl⟩
    first
      | exact (am_bT (t2.symm.trans (by assumption))).symm
      | exact (am_bF (fun z => (by assumption : ¬ ki2 = 2) (t2.trans z))).symm
theorem sx_readRule (sc : am_Sc) (tx : Nat → Int32) (n : Nat) (hn : n ≤ 400) (it fa ki va tw : Int32) (w i p0 : Nat) (hw : w < 15) (hi : i ≤ n) (nu la me tc ts : Nat → Int32) (pe : Int32) (B0 B1 : List am_E) (Bs : am_M) : am_Rn sc 8 (0, am_entry 8 [.ref 64, .int (Int32.ofNat w)], [], B0 :: B1 :: bkReader tx (Int32.ofNat n) it fa (Int32.ofNat i) (Int32.ofNat p0) ki va tw :: bkRules 96 nu la me tc ts pe :: Bs) (fun r M' => match sp_rule tx n w i p0 tw nu with | .inr X => ∃ pl2 ki2 va2, r = some (.int 1) ∧ M' = B0 :: B1 :: bkReader tx (Int32.ofNat n) it fa (Int32.ofNat X.2) pl2 ki2 va2 (tw ||| (1 <<< (Int32.ofNat w &&& 31))) :: bkRules 96 X.1 la me tc ts pe :: Bs | .inl p => ∃ nu2 nx2 ki2 va2 tw2, r = some (.int 0) ∧ M' = B0 :: B1 :: bkReader tx (Int32.ofNat n) it fa nx2 (Int32.ofNat p) ki2 va2 tw2 :: bkRules 96 nu2 la me tc ts pe :: Bs) := by
  show am_Rn sc 8 (0, [some (.ref 64), some (.int (Int32.ofNat w)), none, none, none], [], _) _
  have L : ∀ (l : Nat), l < 10 → ∀ (d q i : Nat) (nu : Nat → Int32) (pl ki va tw : Int32) (w0 : Int32) (x2 : Option Value), q + d = l + 1 → i ≤ n → am_Rn sc 8 (40, [some (.ref 64), some (.int w0), x2, some (.int (Int32.ofNat l)), some (.int (Int32.ofNat q))], [], B0 :: B1 :: bkReader tx (Int32.ofNat n) it fa (Int32.ofNat i) pl ki va tw :: bkRules 96 nu la me tc ts pe :: Bs) (fun r M' => match sp_nums tx n d q i nu with | .inr X => ∃ pl2 ki2 va2, r = some (.int 1) ∧ M' = B0 :: B1 :: bkReader tx (Int32.ofNat n) it fa (Int32.ofNat X.2) pl2 ki2 va2 tw :: bkRules 96 X.1 la me tc ts pe :: Bs | .inl p => ∃ nu2 nx2 ki2 va2 tw2, r = some (.int 0) ∧ M' = B0 :: B1 :: bkReader tx (Int32.ofNat n) it fa nx2 (Int32.ofNat p) ki2 va2 tw2 :: bkRules 96 nu2 la me tc ts pe :: Bs) := by
    intro l hl d
    induction d with
    | zero =>
      intro q i nu pl ki va tw w0 x2 hq hi
      obtain rfl : q = l + 1 := by omega
      refine am_Rn.go (t := am_t8) rfl 3 rfl ⟨trivial, trivial, trivial, trivial⟩ ?_
      refine am_Rn.brT ((am_lt (by omega) (by omega)).mpr (by omega)) ?_
      refine am_Rn.go (t := am_t8) rfl 1 rfl ⟨trivial, trivial⟩ ?_
      refine am_Rn.ret (t := am_t8) rfl rfl (by first | exact Or.inl rfl | exact Or.inr rfl | exact am_b01 _) ?_
      exact ⟨pl, ki, va, rfl, rfl⟩
    | succ d ih =>
      intro q i nu pl ki va tw w0 x2 hq hi
      have hq10 : q < 10 := by omega
      have e1 : (Int32.ofNat q).toNatClampNeg = q := am_tn q (by omega)
      have hle := sp_t_le tx n i hi
      unfold sp_nums
      refine am_Rn.go (t := am_t8) rfl 3 rfl ⟨trivial, trivial, trivial, trivial⟩ ?_
      refine am_Rn.brF (fun q => absurd ((am_lt (by omega) (by omega)).mp q) (by omega)) ?_
      refine am_Rn.go (t := am_t8) rfl 3 rfl ⟨trivial, trivial, trivial, trivial⟩ ?_
      refine am_Rn.brF (fun q => absurd ((am_le (i := 10) (by omega) (by omega)).mp q) (by omega)) ?_
      refine am_Rn.go (t := am_t8) rfl 7 rfl ⟨trivial, trivial, trivial, (by first | exact am_inb_lit rfl | exact am_inb_of (by omega) (by omega)), trivial, trivial, (by first | exact am_inb_lit rfl | exact am_inb_of (by omega) (by omega)), trivial⟩ ?_
      rw [e1]
      refine am_cfg (C' := (53, _, [Value.int (sp_most q), Value.int (sp_least q), Value.ref 64], _)) rfl ?_
      refine am_Rn.call (t := am_t8) rfl rfl (sx_readNumber sc i (sp_least q) (sp_most q) tx n hn it fa pl ki va tw hi ..) ?_
      rintro _ _ ⟨ki2, va2, rfl, rfl, hv⟩
      refine am_Rn.go (t := am_t8) rfl 1 rfl ⟨trivial, trivial⟩ ?_
      refine am_Rn.brB (fun h3 => ?_) (fun h3 => ?_)
      · skip
        rw [if_neg (show ¬ sp_okN (sp_t tx n i) (sp_least q) (sp_most q) = true from h3)]
        refine am_Rn.go (t := am_t8) rfl 1 rfl ⟨trivial, trivial⟩ ?_
        refine am_Rn.ret (t := am_t8) rfl rfl (by first | exact Or.inl rfl | exact Or.inr rfl | exact am_b01 _) ?_
        exact ⟨_, _, _, _, _, rfl, rfl⟩
      · skip
        rw [if_pos (show sp_okN (sp_t tx n i) (sp_least q) (sp_most q) = true from h3), ← hv h3]
        refine am_Rn.go (t := am_t8) rfl 9 rfl ⟨trivial, trivial, trivial, trivial, trivial, trivial, (by first | exact am_inb_lit rfl | exact am_inb_of (by omega) (by omega)), trivial, trivial, trivial⟩ ?_
        have g := ih (q + 1) (sp_t tx n i).2.2.2 (upd nu q va2) (Int32.ofNat (sp_t tx n i).1) ki2 va2 tw w0 x2 (by omega) hle
        rw [← am_inc] at g
        rw [e1]
        exact g
  refine am_Rn.go (t := am_t8) rfl 3 rfl ⟨trivial, trivial, trivial, trivial⟩ ?_
  refine am_Rn.br (fun h1 => ?_) (fun h1 => ?_)
  · skip
    have h9 : 9 ≤ w := (am_le (i := 9) (by omega) (by omega)).mp h1
    refine am_Rn.go (t := am_t8) rfl 1 rfl ⟨trivial, trivial⟩ ?_
    refine am_Rn.ret (t := am_t8) rfl rfl (by first | exact Or.inl rfl | exact Or.inr rfl | exact am_b01 _) ?_
    rw [show sp_rule tx n w i p0 tw nu = .inl p0 from if_pos (by first | exact Or.inl h9 | exact Or.inr hb)]
    exact ⟨_, _, _, _, _, rfl, rfl⟩
  · skip
    have h9 : ¬ 9 ≤ w := fun q => h1 ((am_le (i := 9) (by omega) (by omega)).mpr q)
    refine am_Rn.go (t := am_t8) rfl 7 rfl ⟨trivial, trivial, trivial, trivial, trivial, trivial, trivial, trivial⟩ ?_
    refine am_Rn.br (fun h2 => ?_) (fun h2 => ?_)
    · skip
      have hb : ¬ ¬ (tw >>> (Int32.ofNat w &&& 31)) &&& 1 = 0 := fun q => q h2
      refine am_Rn.go (t := am_t8) rfl 8 rfl ⟨trivial, trivial, trivial, trivial, trivial, trivial, trivial, trivial, trivial⟩ ?_
      have hz : sp_rule tx n w i p0 tw nu = sp_nums tx n (sp_rMany w) (sp_rFirst w) i nu := if_neg (fun q => q.elim h9 hb)
      rw [hz]
      obtain rfl | rfl | rfl | rfl | rfl | rfl | rfl | rfl | rfl : w = 0 ∨ w = 1 ∨ w = 2 ∨ w = 3 ∨ w = 4 ∨ w = 5 ∨ w = 6 ∨ w = 7 ∨ w = 8 := by omega
      · skip
        refine am_Rn.go (t := am_t8) rfl 3 rfl ⟨trivial, trivial, trivial, trivial⟩ ?_
        refine am_Rn.brT (by decide) ?_
        refine am_Rn.go (t := am_t8) rfl 5 rfl ⟨trivial, trivial, trivial, trivial, trivial, trivial⟩ ?_
        refine am_Rn.brF (by decide) ?_
        refine am_Rn.go (t := am_t8) rfl 4 rfl ⟨trivial, trivial, trivial, trivial, trivial⟩ ?_
        exact L 0 (by omega) 1 0 i nu (Int32.ofNat p0) ki va _ _ _ (by omega) hi
      · skip
        refine am_Rn.go (t := am_t8) rfl 3 rfl ⟨trivial, trivial, trivial, trivial⟩ ?_
        refine am_Rn.brT (by decide) ?_
        refine am_Rn.go (t := am_t8) rfl 5 rfl ⟨trivial, trivial, trivial, trivial, trivial, trivial⟩ ?_
        refine am_Rn.brT (by decide) ?_
        refine am_Rn.go (t := am_t8) rfl 7 rfl ⟨trivial, trivial, trivial, trivial, trivial, trivial, trivial, trivial⟩ ?_
        exact L 2 (by omega) 2 1 i nu (Int32.ofNat p0) ki va _ _ _ (by omega) hi
      · skip
        refine am_Rn.go (t := am_t8) rfl 3 rfl ⟨trivial, trivial, trivial, trivial⟩ ?_
        refine am_Rn.brF (by decide) ?_
        refine am_Rn.go (t := am_t8) rfl 8 rfl ⟨trivial, trivial, trivial, trivial, trivial, trivial, trivial, trivial, trivial⟩ ?_
        refine am_Rn.brF (by decide) ?_
        refine am_Rn.go (t := am_t8) rfl 4 rfl ⟨trivial, trivial, trivial, trivial, trivial⟩ ?_
        exact L 3 (by omega) 1 3 i nu (Int32.ofNat p0) ki va _ _ _ (by omega) hi
      · skip
        refine am_Rn.go (t := am_t8) rfl 3 rfl ⟨trivial, trivial, trivial, trivial⟩ ?_
        refine am_Rn.brF (by decide) ?_
        refine am_Rn.go (t := am_t8) rfl 8 rfl ⟨trivial, trivial, trivial, trivial, trivial, trivial, trivial, trivial, trivial⟩ ?_
        refine am_Rn.brF (by decide) ?_
        refine am_Rn.go (t := am_t8) rfl 4 rfl ⟨trivial, trivial, trivial, trivial, trivial⟩ ?_
        exact L 4 (by omega) 1 4 i nu (Int32.ofNat p0) ki va _ _ _ (by omega) hi
      · skip
        refine am_Rn.go (t := am_t8) rfl 3 rfl ⟨trivial, trivial, trivial, trivial⟩ ?_
        refine am_Rn.brF (by decide) ?_
        refine am_Rn.go (t := am_t8) rfl 8 rfl ⟨trivial, trivial, trivial, trivial, trivial, trivial, trivial, trivial, trivial⟩ ?_
        refine am_Rn.brF (by decide) ?_
        refine am_Rn.go (t := am_t8) rfl 4 rfl ⟨trivial, trivial, trivial, trivial, trivial⟩ ?_
        exact L 5 (by omega) 1 5 i nu (Int32.ofNat p0) ki va _ _ _ (by omega) hi
      · skip
        refine am_Rn.go (t := am_t8) rfl 3 rfl ⟨trivial, trivial, trivial, trivial⟩ ?_
        refine am_Rn.brF (by decide) ?_
        refine am_Rn.go (t := am_t8) rfl 8 rfl ⟨trivial, trivial, trivial, trivial, trivial, trivial, trivial, trivial, trivial⟩ ?_
        refine am_Rn.brF (by decide) ?_
        refine am_Rn.go (t := am_t8) rfl 4 rfl ⟨trivial, trivial, trivial, trivial, trivial⟩ ?_
        exact L 6 (by omega) 1 6 i nu (Int32.ofNat p0) ki va _ _ _ (by omega) hi
      · skip
        refine am_Rn.go (t := am_t8) rfl 3 rfl ⟨trivial, trivial, trivial, trivial⟩ ?_
        refine am_Rn.brF (by decide) ?_
        refine am_Rn.go (t := am_t8) rfl 8 rfl ⟨trivial, trivial, trivial, trivial, trivial, trivial, trivial, trivial, trivial⟩ ?_
        refine am_Rn.brF (by decide) ?_
        refine am_Rn.go (t := am_t8) rfl 4 rfl ⟨trivial, trivial, trivial, trivial, trivial⟩ ?_
        exact L 7 (by omega) 1 7 i nu (Int32.ofNat p0) ki va _ _ _ (by omega) hi
      · skip
        refine am_Rn.go (t := am_t8) rfl 3 rfl ⟨trivial, trivial, trivial, trivial⟩ ?_
        refine am_Rn.brF (by decide) ?_
        refine am_Rn.go (t := am_t8) rfl 8 rfl ⟨trivial, trivial, trivial, trivial, trivial, trivial, trivial, trivial, trivial⟩ ?_
        refine am_Rn.brF (by decide) ?_
        refine am_Rn.go (t := am_t8) rfl 4 rfl ⟨trivial, trivial, trivial, trivial, trivial⟩ ?_
        exact L 8 (by omega) 1 8 i nu (Int32.ofNat p0) ki va _ _ _ (by omega) hi
      · skip
        refine am_Rn.go (t := am_t8) rfl 3 rfl ⟨trivial, trivial, trivial, trivial⟩ ?_
        refine am_Rn.brF (by decide) ?_
        refine am_Rn.go (t := am_t8) rfl 8 rfl ⟨trivial, trivial, trivial, trivial, trivial, trivial, trivial, trivial, trivial⟩ ?_
        refine am_Rn.brF (by decide) ?_
        refine am_Rn.go (t := am_t8) rfl 4 rfl ⟨trivial, trivial, trivial, trivial, trivial⟩ ?_
        exact L 9 (by omega) 1 9 i nu (Int32.ofNat p0) ki va _ _ _ (by omega) hi
    · skip
      have hb : ¬ (tw >>> (Int32.ofNat w &&& 31)) &&& 1 = 0 := h2
      refine am_Rn.go (t := am_t8) rfl 1 rfl ⟨trivial, trivial⟩ ?_
      refine am_Rn.ret (t := am_t8) rfl rfl (by first | exact Or.inl rfl | exact Or.inr rfl | exact am_b01 _) ?_
      rw [show sp_rule tx n w i p0 tw nu = .inl p0 from if_pos (by first | exact Or.inl h9 | exact Or.inr hb)]
      exact ⟨_, _, _, _, _, rfl, rfl⟩
