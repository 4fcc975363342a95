theorem sx_begin_A (sc : am_Sc) (nu la me tc ts : Nat → Int32) (pe : Int32) (rd pr pv sa pd lo : Int32) (bo co sh se si er of_ bi bt so : Nat → Int32) (B0 B2 B3 : List am_E) (Bs : am_M) : am_Rn sc 28 (0, am_entry 28 [.ref 128], [], B0 :: bkRules 32 nu la me tc ts pe :: B2 :: B3 :: bkRoom 128 32 rd pr pv sa pd lo bo co sh se si er of_ bi bt so :: Bs) (fun r M' => r = none ∧ M' = B0 :: bkRules 32 nu la me tc ts pe :: B2 :: B3 :: bkRoom 128 32 0 (nu 4) (nu 4) 0 0 lo bo (am_fold 9 (sp_begOne tc ts) (co, sh, si)).1 (am_fold 9 (sp_begOne tc ts) (co, sh, si)).2.1 se (am_fold 9 (sp_begOne tc ts) (co, sh, si)).2.2 er of_ bi bt so :: Bs) := by
  show am_Rn sc 28 (0, [some (.ref 128), none], [], _) _
  have L : ∀ (d i : Nat), i + d = 9 → am_Rn sc 28 (22, [some (.ref 128), some (.int (Int32.ofNat i))], [], B0 :: bkRules 32 nu la me tc ts pe :: B2 :: B3 :: bkRoom 128 32 0 (nu 4) (nu 4) 0 0 lo bo (am_fold i (sp_begOne tc ts) (co, sh, si)).1 (am_fold i (sp_begOne tc ts) (co, sh, si)).2.1 se (am_fold i (sp_begOne tc ts) (co, sh, si)).2.2 er of_ bi bt so :: Bs) (fun r M' => r = none ∧ M' = B0 :: bkRules 32 nu la me tc ts pe :: B2 :: B3 :: bkRoom 128 32 0 (nu 4) (nu 4) 0 0 lo bo (am_fold 9 (sp_begOne tc ts) (co, sh, si)).1 (am_fold 9 (sp_begOne tc ts) (co, sh, si)).2.1 se (am_fold 9 (sp_begOne tc ts) (co, sh, si)).2.2 er of_ bi bt so :: Bs) := by
    intro d
    induction d with
    | zero =>
      intro i  hi
      obtain rfl : i = 9 := by omega
      refine am_Rn.go (t := am_t28) rfl 3 rfl ⟨trivial, trivial, trivial, trivial⟩ ?_
      refine am_Rn.brT (by first | exact (am_le (by omega) (by omega)).mpr (Nat.le_refl _) | exact fun q => absurd ((am_lt (by omega) (by omega)).mp q) (Nat.lt_irrefl _) | decide) ?_
      refine am_Rn.ret (t := am_t28) rfl rfl trivial ?_
      exact ⟨rfl, rfl⟩
    | succ d ih =>
      intro i  hi
      have hiP : i < 9 := by omega
      have e1 : (Int32.ofNat i).toNatClampNeg = i := am_tn i (by omega)
      refine am_Rn.go (t := am_t28) rfl 3 rfl ⟨trivial, trivial, trivial, trivial⟩ ?_
      refine am_Rn.brF (by first | exact fun q => absurd ((am_le (by omega) (by omega)).mp q) (by omega) | exact fun q => absurd ((am_le (i := 9) (by omega) (by omega)).mp q) (by omega) | exact fun q => absurd ((am_le (i := 10) (by omega) (by omega)).mp q) (by omega) | exact (am_lt (by omega) (by omega)).mpr hiP) ?_
      refine am_Rn.go (t := am_t28) rfl 25 rfl ⟨trivial, trivial, trivial, trivial, trivial, trivial, trivial, (by first | exact am_inb_lit rfl | exact am_inb_of (by omega) (by omega)), (by first | exact am_inb_lit rfl | exact am_inb_of (by omega) (by omega)), trivial, trivial, trivial, trivial, trivial, trivial, trivial, (by first | exact am_inb_lit rfl | exact am_inb_of (by omega) (by omega)), (by first | exact am_inb_lit rfl | exact am_inb_of (by omega) (by omega)), trivial, trivial, trivial, trivial, (by first | exact am_inb_lit rfl | exact am_inb_of (by omega) (by omega)), trivial, trivial, trivial⟩ ?_
      have g := ih (i + 1) (by omega)
      rw [am_fold_succ, ← am_inc] at g
      generalize hX : (am_fold i (sp_begOne tc ts) (co, sh, si)) = X at *
      simp only [e1] at *
      exact g
  refine am_Rn.go (t := am_t28) rfl 22 rfl ⟨trivial, trivial, trivial, trivial, trivial, trivial, trivial, trivial, (by first | exact am_inb_lit rfl | exact am_inb_of (by omega) (by omega)), trivial, trivial, trivial, trivial, trivial, trivial, trivial, trivial, trivial, trivial, trivial, trivial, trivial, trivial⟩ ?_
  exact L 9 0 (by omega)
theorem sx_begin_B (sc : am_Sc) (nu la me tc ts : Nat → Int32) (pe : Int32) (rd pr pv sa pd lo : Int32) (bo co sh se si er of_ bi bt so : Nat → Int32) (B0 B1 B2 B3 B4 : List am_E) (Bs : am_M) : am_Rn sc 28 (0, am_entry 28 [.ref 192], [], B0 :: B1 :: B2 :: B3 :: B4 :: bkRules 160 nu la me tc ts pe :: bkRoom 192 160 rd pr pv sa pd lo bo co sh se si er of_ bi bt so :: Bs) (fun r M' => r = none ∧ M' = B0 :: B1 :: B2 :: B3 :: B4 :: bkRules 160 nu la me tc ts pe :: bkRoom 192 160 0 (nu 4) (nu 4) 0 0 lo bo (am_fold 9 (sp_begOne tc ts) (co, sh, si)).1 (am_fold 9 (sp_begOne tc ts) (co, sh, si)).2.1 se (am_fold 9 (sp_begOne tc ts) (co, sh, si)).2.2 er of_ bi bt so :: Bs) := by
  show am_Rn sc 28 (0, [some (.ref 192), none], [], _) _
  have L : ∀ (d i : Nat), i + d = 9 → am_Rn sc 28 (22, [some (.ref 192), some (.int (Int32.ofNat i))], [], B0 :: B1 :: B2 :: B3 :: B4 :: bkRules 160 nu la me tc ts pe :: bkRoom 192 160 0 (nu 4) (nu 4) 0 0 lo bo (am_fold i (sp_begOne tc ts) (co, sh, si)).1 (am_fold i (sp_begOne tc ts) (co, sh, si)).2.1 se (am_fold i (sp_begOne tc ts) (co, sh, si)).2.2 er of_ bi bt so :: Bs) (fun r M' => r = none ∧ M' = B0 :: B1 :: B2 :: B3 :: B4 :: bkRules 160 nu la me tc ts pe :: bkRoom 192 160 0 (nu 4) (nu 4) 0 0 lo bo (am_fold 9 (sp_begOne tc ts) (co, sh, si)).1 (am_fold 9 (sp_begOne tc ts) (co, sh, si)).2.1 se (am_fold 9 (sp_begOne tc ts) (co, sh, si)).2.2 er of_ bi bt so :: Bs) := by
    intro d
    induction d with
    | zero =>
      intro i  hi
      obtain rfl : i = 9 := by omega
      refine am_Rn.go (t := am_t28) rfl 3 rfl ⟨trivial, trivial, trivial, trivial⟩ ?_
      refine am_Rn.brT (by first | exact (am_le (by omega) (by omega)).mpr (Nat.le_refl _) | exact fun q => absurd ((am_lt (by omega) (by omega)).mp q) (Nat.lt_irrefl _) | decide) ?_
      refine am_Rn.ret (t := am_t28) rfl rfl trivial ?_
      exact ⟨rfl, rfl⟩
    | succ d ih =>
      intro i  hi
      have hiP : i < 9 := by omega
      have e1 : (Int32.ofNat i).toNatClampNeg = i := am_tn i (by omega)
      refine am_Rn.go (t := am_t28) rfl 3 rfl ⟨trivial, trivial, trivial, trivial⟩ ?_
      refine am_Rn.brF (by first | exact fun q => absurd ((am_le (by omega) (by omega)).mp q) (by omega) | exact fun q => absurd ((am_le (i := 9) (by omega) (by omega)).mp q) (by omega) | exact fun q => absurd ((am_le (i := 10) (by omega) (by omega)).mp q) (by omega) | exact (am_lt (by omega) (by omega)).mpr hiP) ?_
      refine am_Rn.go (t := am_t28) rfl 25 rfl ⟨trivial, trivial, trivial, trivial, trivial, trivial, trivial, (by first | exact am_inb_lit rfl | exact am_inb_of (by omega) (by omega)), (by first | exact am_inb_lit rfl | exact am_inb_of (by omega) (by omega)), trivial, trivial, trivial, trivial, trivial, trivial, trivial, (by first | exact am_inb_lit rfl | exact am_inb_of (by omega) (by omega)), (by first | exact am_inb_lit rfl | exact am_inb_of (by omega) (by omega)), trivial, trivial, trivial, trivial, (by first | exact am_inb_lit rfl | exact am_inb_of (by omega) (by omega)), trivial, trivial, trivial⟩ ?_
      have g := ih (i + 1) (by omega)
      rw [am_fold_succ, ← am_inc] at g
      generalize hX : (am_fold i (sp_begOne tc ts) (co, sh, si)) = X at *
      simp only [e1] at *
      exact g
  refine am_Rn.go (t := am_t28) rfl 22 rfl ⟨trivial, trivial, trivial, trivial, trivial, trivial, trivial, trivial, (by first | exact am_inb_lit rfl | exact am_inb_of (by omega) (by omega)), trivial, trivial, trivial, trivial, trivial, trivial, trivial, trivial, trivial, trivial, trivial, trivial, trivial, trivial⟩ ?_
  exact L 9 0 (by omega)
theorem sx_begin_C (sc : am_Sc) (nu la me tc ts : Nat → Int32) (pe : Int32) (rd pr pv sa pd lo : Int32) (bo co sh se si er of_ bi bt so : Nat → Int32) (B0 B2 B3 B4 B5 B6 B7 : List am_E) (Bs : am_M) : am_Rn sc 28 (0, am_entry 28 [.ref 256], [], B0 :: bkRules 32 nu la me tc ts pe :: B2 :: B3 :: B4 :: B5 :: B6 :: B7 :: bkRoom 256 32 rd pr pv sa pd lo bo co sh se si er of_ bi bt so :: Bs) (fun r M' => r = none ∧ M' = B0 :: bkRules 32 nu la me tc ts pe :: B2 :: B3 :: B4 :: B5 :: B6 :: B7 :: bkRoom 256 32 0 (nu 4) (nu 4) 0 0 lo bo (am_fold 9 (sp_begOne tc ts) (co, sh, si)).1 (am_fold 9 (sp_begOne tc ts) (co, sh, si)).2.1 se (am_fold 9 (sp_begOne tc ts) (co, sh, si)).2.2 er of_ bi bt so :: Bs) := by
  show am_Rn sc 28 (0, [some (.ref 256), none], [], _) _
  have L : ∀ (d i : Nat), i + d = 9 → am_Rn sc 28 (22, [some (.ref 256), some (.int (Int32.ofNat i))], [], B0 :: bkRules 32 nu la me tc ts pe :: B2 :: B3 :: B4 :: B5 :: B6 :: B7 :: bkRoom 256 32 0 (nu 4) (nu 4) 0 0 lo bo (am_fold i (sp_begOne tc ts) (co, sh, si)).1 (am_fold i (sp_begOne tc ts) (co, sh, si)).2.1 se (am_fold i (sp_begOne tc ts) (co, sh, si)).2.2 er of_ bi bt so :: Bs) (fun r M' => r = none ∧ M' = B0 :: bkRules 32 nu la me tc ts pe :: B2 :: B3 :: B4 :: B5 :: B6 :: B7 :: bkRoom 256 32 0 (nu 4) (nu 4) 0 0 lo bo (am_fold 9 (sp_begOne tc ts) (co, sh, si)).1 (am_fold 9 (sp_begOne tc ts) (co, sh, si)).2.1 se (am_fold 9 (sp_begOne tc ts) (co, sh, si)).2.2 er of_ bi bt so :: Bs) := by
    intro d
    induction d with
    | zero =>
      intro i  hi
      obtain rfl : i = 9 := by omega
      refine am_Rn.go (t := am_t28) rfl 3 rfl ⟨trivial, trivial, trivial, trivial⟩ ?_
      refine am_Rn.brT (by first | exact (am_le (by omega) (by omega)).mpr (Nat.le_refl _) | exact fun q => absurd ((am_lt (by omega) (by omega)).mp q) (Nat.lt_irrefl _) | decide) ?_
      refine am_Rn.ret (t := am_t28) rfl rfl trivial ?_
      exact ⟨rfl, rfl⟩
    | succ d ih =>
      intro i  hi
      have hiP : i < 9 := by omega
      have e1 : (Int32.ofNat i).toNatClampNeg = i := am_tn i (by omega)
      refine am_Rn.go (t := am_t28) rfl 3 rfl ⟨trivial, trivial, trivial, trivial⟩ ?_
      refine am_Rn.brF (by first | exact fun q => absurd ((am_le (by omega) (by omega)).mp q) (by omega) | exact fun q => absurd ((am_le (i := 9) (by omega) (by omega)).mp q) (by omega) | exact fun q => absurd ((am_le (i := 10) (by omega) (by omega)).mp q) (by omega) | exact (am_lt (by omega) (by omega)).mpr hiP) ?_
      refine am_Rn.go (t := am_t28) rfl 25 rfl ⟨trivial, trivial, trivial, trivial, trivial, trivial, trivial, (by first | exact am_inb_lit rfl | exact am_inb_of (by omega) (by omega)), (by first | exact am_inb_lit rfl | exact am_inb_of (by omega) (by omega)), trivial, trivial, trivial, trivial, trivial, trivial, trivial, (by first | exact am_inb_lit rfl | exact am_inb_of (by omega) (by omega)), (by first | exact am_inb_lit rfl | exact am_inb_of (by omega) (by omega)), trivial, trivial, trivial, trivial, (by first | exact am_inb_lit rfl | exact am_inb_of (by omega) (by omega)), trivial, trivial, trivial⟩ ?_
      have g := ih (i + 1) (by omega)
      rw [am_fold_succ, ← am_inc] at g
      generalize hX : (am_fold i (sp_begOne tc ts) (co, sh, si)) = X at *
      simp only [e1] at *
      exact g
  refine am_Rn.go (t := am_t28) rfl 22 rfl ⟨trivial, trivial, trivial, trivial, trivial, trivial, trivial, trivial, (by first | exact am_inb_lit rfl | exact am_inb_of (by omega) (by omega)), trivial, trivial, trivial, trivial, trivial, trivial, trivial, trivial, trivial, trivial, trivial, trivial, trivial, trivial⟩ ?_
  exact L 9 0 (by omega)
theorem sx_begin_D (sc : am_Sc) (nu la me tc ts : Nat → Int32) (pe : Int32) (rd pr pv sa pd lo : Int32) (bo co sh se si er of_ bi bt so : Nat → Int32) (B0 B2 B3 B4 B5 B6 B7 B8 B9 : List am_E) (Bs : am_M) : am_Rn sc 28 (0, am_entry 28 [.ref 320], [], B0 :: bkRules 32 nu la me tc ts pe :: B2 :: B3 :: B4 :: B5 :: B6 :: B7 :: B8 :: B9 :: bkRoom 320 32 rd pr pv sa pd lo bo co sh se si er of_ bi bt so :: Bs) (fun r M' => r = none ∧ M' = B0 :: bkRules 32 nu la me tc ts pe :: B2 :: B3 :: B4 :: B5 :: B6 :: B7 :: B8 :: B9 :: bkRoom 320 32 0 (nu 4) (nu 4) 0 0 lo bo (am_fold 9 (sp_begOne tc ts) (co, sh, si)).1 (am_fold 9 (sp_begOne tc ts) (co, sh, si)).2.1 se (am_fold 9 (sp_begOne tc ts) (co, sh, si)).2.2 er of_ bi bt so :: Bs) := by
  show am_Rn sc 28 (0, [some (.ref 320), none], [], _) _
  have L : ∀ (d i : Nat), i + d = 9 → am_Rn sc 28 (22, [some (.ref 320), some (.int (Int32.ofNat i))], [], B0 :: bkRules 32 nu la me tc ts pe :: B2 :: B3 :: B4 :: B5 :: B6 :: B7 :: B8 :: B9 :: bkRoom 320 32 0 (nu 4) (nu 4) 0 0 lo bo (am_fold i (sp_begOne tc ts) (co, sh, si)).1 (am_fold i (sp_begOne tc ts) (co, sh, si)).2.1 se (am_fold i (sp_begOne tc ts) (co, sh, si)).2.2 er of_ bi bt so :: Bs) (fun r M' => r = none ∧ M' = B0 :: bkRules 32 nu la me tc ts pe :: B2 :: B3 :: B4 :: B5 :: B6 :: B7 :: B8 :: B9 :: bkRoom 320 32 0 (nu 4) (nu 4) 0 0 lo bo (am_fold 9 (sp_begOne tc ts) (co, sh, si)).1 (am_fold 9 (sp_begOne tc ts) (co, sh, si)).2.1 se (am_fold 9 (sp_begOne tc ts) (co, sh, si)).2.2 er of_ bi bt so :: Bs) := by
    intro d
    induction d with
    | zero =>
      intro i  hi
      obtain rfl : i = 9 := by omega
      refine am_Rn.go (t := am_t28) rfl 3 rfl ⟨trivial, trivial, trivial, trivial⟩ ?_
      refine am_Rn.brT (by first | exact (am_le (by omega) (by omega)).mpr (Nat.le_refl _) | exact fun q => absurd ((am_lt (by omega) (by omega)).mp q) (Nat.lt_irrefl _) | decide) ?_
      refine am_Rn.ret (t := am_t28) rfl rfl trivial ?_
      exact ⟨rfl, rfl⟩
    | succ d ih =>
      intro i  hi
      have hiP : i < 9 := by omega
      have e1 : (Int32.ofNat i).toNatClampNeg = i := am_tn i (by omega)
      refine am_Rn.go (t := am_t28) rfl 3 rfl ⟨trivial, trivial, trivial, trivial⟩ ?_
      refine am_Rn.brF (by first | exact fun q => absurd ((am_le (by omega) (by omega)).mp q) (by omega) | exact fun q => absurd ((am_le (i := 9) (by omega) (by omega)).mp q) (by omega) | exact fun q => absurd ((am_le (i := 10) (by omega) (by omega)).mp q) (by omega) | exact (am_lt (by omega) (by omega)).mpr hiP) ?_
      refine am_Rn.go (t := am_t28) rfl 25 rfl ⟨trivial, trivial, trivial, trivial, trivial, trivial, trivial, (by first | exact am_inb_lit rfl | exact am_inb_of (by omega) (by omega)), (by first | exact am_inb_lit rfl | exact am_inb_of (by omega) (by omega)), trivial, trivial, trivial, trivial, trivial, trivial, trivial, (by first | exact am_inb_lit rfl | exact am_inb_of (by omega) (by omega)), (by first | exact am_inb_lit rfl | exact am_inb_of (by omega) (by omega)), trivial, trivial, trivial, trivial, (by first | exact am_inb_lit rfl | exact am_inb_of (by omega) (by omega)), trivial, trivial, trivial⟩ ?_
      have g := ih (i + 1) (by omega)
      rw [am_fold_succ, ← am_inc] at g
      generalize hX : (am_fold i (sp_begOne tc ts) (co, sh, si)) = X at *
      simp only [e1] at *
      exact g
  refine am_Rn.go (t := am_t28) rfl 22 rfl ⟨trivial, trivial, trivial, trivial, trivial, trivial, trivial, trivial, (by first | exact am_inb_lit rfl | exact am_inb_of (by omega) (by omega)), trivial, trivial, trivial, trivial, trivial, trivial, trivial, trivial, trivial, trivial, trivial, trivial, trivial, trivial⟩ ?_
  exact L 9 0 (by omega)
theorem sx_forget_A (sc : am_Sc) (nu la me tc ts : Nat → Int32) (pe : Int32) (rd pr pv sa pd lo : Int32) (bo co sh se si er of_ bi bt so : Nat → Int32) (B0 B2 B3 : List am_E) (Bs : am_M) : am_Rn sc 29 (0, am_entry 29 [.ref 128], [], B0 :: bkRules 32 nu la me tc ts pe :: B2 :: B3 :: bkRoom 128 32 rd pr pv sa pd lo bo co sh se si er of_ bi bt so :: Bs) (fun r M' => r = none ∧ M' = B0 :: bkRules 32 nu la me tc ts pe :: B2 :: B3 :: bkRoom 128 32 rd pr pv sa pd lo bo co sh (am_fold 9 sp_forOne (se, er, of_)).1 si (am_fold 9 sp_forOne (se, er, of_)).2.1 (am_fold 9 sp_forOne (se, er, of_)).2.2 bi bt so :: Bs) := by
  show am_Rn sc 29 (0, [some (.ref 128), none], [], _) _
  have L : ∀ (d i : Nat), i + d = 9 → am_Rn sc 29 (2, [some (.ref 128), some (.int (Int32.ofNat i))], [], B0 :: bkRules 32 nu la me tc ts pe :: B2 :: B3 :: bkRoom 128 32 rd pr pv sa pd lo bo co sh (am_fold i sp_forOne (se, er, of_)).1 si (am_fold i sp_forOne (se, er, of_)).2.1 (am_fold i sp_forOne (se, er, of_)).2.2 bi bt so :: Bs) (fun r M' => r = none ∧ M' = B0 :: bkRules 32 nu la me tc ts pe :: B2 :: B3 :: bkRoom 128 32 rd pr pv sa pd lo bo co sh (am_fold 9 sp_forOne (se, er, of_)).1 si (am_fold 9 sp_forOne (se, er, of_)).2.1 (am_fold 9 sp_forOne (se, er, of_)).2.2 bi bt so :: Bs) := by
    intro d
    induction d with
    | zero =>
      intro i  hi
      obtain rfl : i = 9 := by omega
      refine am_Rn.go (t := am_t29) rfl 3 rfl ⟨trivial, trivial, trivial, trivial⟩ ?_
      refine am_Rn.brT (by first | exact (am_le (by omega) (by omega)).mpr (Nat.le_refl _) | exact fun q => absurd ((am_lt (by omega) (by omega)).mp q) (Nat.lt_irrefl _) | decide) ?_
      refine am_Rn.ret (t := am_t29) rfl rfl trivial ?_
      exact ⟨rfl, rfl⟩
    | succ d ih =>
      intro i  hi
      have hiP : i < 9 := by omega
      have e1 : (Int32.ofNat i).toNatClampNeg = i := am_tn i (by omega)
      refine am_Rn.go (t := am_t29) rfl 3 rfl ⟨trivial, trivial, trivial, trivial⟩ ?_
      refine am_Rn.brF (by first | exact fun q => absurd ((am_le (by omega) (by omega)).mp q) (by omega) | exact fun q => absurd ((am_le (i := 9) (by omega) (by omega)).mp q) (by omega) | exact fun q => absurd ((am_le (i := 10) (by omega) (by omega)).mp q) (by omega) | exact (am_lt (by omega) (by omega)).mpr hiP) ?_
      refine am_Rn.go (t := am_t29) rfl 17 rfl ⟨trivial, trivial, trivial, trivial, (by first | exact am_inb_lit rfl | exact am_inb_of (by omega) (by omega)), trivial, trivial, trivial, trivial, (by first | exact am_inb_lit rfl | exact am_inb_of (by omega) (by omega)), trivial, trivial, trivial, trivial, (by first | exact am_inb_lit rfl | exact am_inb_of (by omega) (by omega)), trivial, trivial, trivial⟩ ?_
      have g := ih (i + 1) (by omega)
      rw [am_fold_succ, ← am_inc] at g
      generalize hX : (am_fold i sp_forOne (se, er, of_)) = X at *
      simp only [e1] at *
      exact g
  refine am_Rn.go (t := am_t29) rfl 2 rfl ⟨trivial, trivial, trivial⟩ ?_
  exact L 9 0 (by omega)
theorem sx_boardAtN_A (sc : am_Sc) (nu la me tc ts : Nat → Int32) (pe : Int32) (rd pr pv sa pd lo : Int32) (bo co sh se si er of_ bi bt so : Nat → Int32) (B0 B2 B3 : List am_E) (Bs : am_M) : am_Rn sc 41 (0, am_entry 41 [.ref 128, .int (-1)], [], B0 :: bkRules 32 nu la me tc ts pe :: B2 :: B3 :: bkRoom 128 32 rd pr pv sa pd lo bo co sh se si er of_ bi bt so :: Bs) (fun r M' => r = some (.int (nu 4)) ∧ M' = B0 :: bkRules 32 nu la me tc ts pe :: B2 :: B3 :: bkRoom 128 32 rd pr pv sa pd lo bo co sh se si er of_ bi bt so :: Bs) := by
  show am_Rn sc 41 (0, [some (.ref 128), some (.int (-1))], [], _) _
  refine am_Rn.go (t := am_t41) rfl 2 rfl ⟨trivial, trivial, trivial⟩ ?_
  refine am_Rn.brT (by decide) ?_
  refine am_Rn.go (t := am_t41) rfl 5 rfl ⟨trivial, trivial, trivial, trivial, (by first | exact am_inb_lit rfl | exact am_inb_of (by omega) (by omega)), trivial⟩ ?_
  refine am_Rn.ret (t := am_t41) rfl rfl trivial ?_
  exact ⟨rfl, rfl⟩
theorem sx_peakRound_A (sc : am_Sc) (rn : Nat) (hr : rn ≤ 20) (nu la me tc ts : Nat → Int32) (pe : Int32) (pr pv sa pd lo : Int32) (bo co sh se si er of_ bi bt so : Nat → Int32) (B0 B2 B3 : List am_E) (Bs : am_M) : am_Rn sc 42 (0, am_entry 42 [.ref 128], [], B0 :: bkRules 32 nu la me tc ts pe :: B2 :: B3 :: bkRoom 128 32 (Int32.ofNat rn) pr pv sa pd lo bo co sh se si er of_ bi bt so :: Bs) (fun r M' => r = some (.int (am_on (-9) (sp_pk bo rn))) ∧ M' = B0 :: bkRules 32 nu la me tc ts pe :: B2 :: B3 :: bkRoom 128 32 (Int32.ofNat rn) pr pv sa pd lo bo co sh se si er of_ bi bt so :: Bs) := by
  show am_Rn sc 42 (0, [some (.ref 128), none, none], [], _) _
  have L : ∀ (d i : Nat), i + d = rn → am_Rn sc 42 (4, [some (.ref 128), some (.int (am_on (-9) (am_fold i (sp_bestB (fun _ => true) bo) none))), some (.int (Int32.ofNat i))], [], B0 :: bkRules 32 nu la me tc ts pe :: B2 :: B3 :: bkRoom 128 32 (Int32.ofNat rn) pr pv sa pd lo bo co sh se si er of_ bi bt so :: Bs) (fun r M' => r = some (.int (am_on (-9) (sp_pk bo rn))) ∧ M' = B0 :: bkRules 32 nu la me tc ts pe :: B2 :: B3 :: bkRoom 128 32 (Int32.ofNat rn) pr pv sa pd lo bo co sh se si er of_ bi bt so :: Bs) := by
    intro d
    induction d with
    | zero =>
      intro i  hi
      obtain rfl : i = rn := by omega
      refine am_Rn.go (t := am_t42) rfl 4 rfl ⟨trivial, trivial, trivial, trivial, trivial⟩ ?_
      refine am_Rn.brT (by first | exact (am_le (by omega) (by omega)).mpr (Nat.le_refl _) | exact fun q => absurd ((am_lt (by omega) (by omega)).mp q) (Nat.lt_irrefl _) | decide) ?_
      refine am_Rn.go (t := am_t42) rfl 1 rfl ⟨trivial, trivial⟩ ?_
      refine am_Rn.ret (t := am_t42) rfl rfl trivial ?_
      exact ⟨rfl, rfl⟩
    | succ d ih =>
      intro i  hi
      have hiP : i < rn := by omega
      have e1 : (Int32.ofNat i).toNatClampNeg = i := am_tn i (by omega)
      have hq := sp_bestB_lt (fun _ => true) bo i
      generalize hF : (am_fold i (sp_bestB (fun _ => true) bo) none) = o at hq ⊢
      cases o with
      | none =>
        have e2 := e1
        refine am_Rn.go (t := am_t42) rfl 4 rfl ⟨trivial, trivial, trivial, trivial, trivial⟩ ?_
        refine am_Rn.brF (by first | exact fun q => absurd ((am_le (by omega) (by omega)).mp q) (by omega) | exact fun q => absurd ((am_le (i := 9) (by omega) (by omega)).mp q) (by omega) | exact fun q => absurd ((am_le (i := 10) (by omega) (by omega)).mp q) (by omega) | exact (am_lt (by omega) (by omega)).mpr hiP) ?_
        refine am_Rn.go (t := am_t42) rfl 3 rfl ⟨trivial, trivial, trivial, trivial⟩ ?_
        refine am_Rn.brT rfl ?_
        refine am_Rn.go (t := am_t42) rfl 4 rfl ⟨trivial, trivial, trivial, trivial, trivial⟩ ?_
        have g := ih (i + 1) (by omega)
        rw [am_fold_succ, hF, ← am_inc] at g
        (try simp only [e1, e2, am_on] at *)
        first
          | (rw [sp_bestB_T (by first | rfl | (simp only [sp_over, Bool.true_and, decide_eq_true_eq]; (simp only [Int32.lt_iff_toInt_lt, Int32.le_iff_toInt_le, ← Int32.toInt_inj, Int32.reduceToInt, Int32.not_lt, Int32.not_le] at *; omega)))] at g; exact g)
          | (rw [sp_bestB_F (by first | rfl | (simp only [sp_over, Bool.true_and, decide_eq_true_eq]; (simp only [Int32.lt_iff_toInt_lt, Int32.le_iff_toInt_le, ← Int32.toInt_inj, Int32.reduceToInt, Int32.not_lt, Int32.not_le] at *; omega)))] at g; exact g)
      | some q =>
        have hq1 := hq q rfl
        have e2 : (Int32.ofNat q).toNatClampNeg = q := am_tn q (by omega)
        refine am_Rn.go (t := am_t42) rfl 4 rfl ⟨trivial, trivial, trivial, trivial, trivial⟩ ?_
        refine am_Rn.brF (by first | exact fun q => absurd ((am_le (by omega) (by omega)).mp q) (by omega) | exact fun q => absurd ((am_le (i := 9) (by omega) (by omega)).mp q) (by omega) | exact fun q => absurd ((am_le (i := 10) (by omega) (by omega)).mp q) (by omega) | exact (am_lt (by omega) (by omega)).mpr hiP) ?_
        refine am_Rn.go (t := am_t42) rfl 3 rfl ⟨trivial, trivial, trivial, trivial⟩ ?_
        refine am_Rn.brF (fun z : Int32.ofNat q = -9 => by have := congrArg Int32.toInt z; rw [am_ofN q (by omega)] at this; rw [show (-9 : Int32).toInt = -9 from rfl] at this; omega) ?_
        refine am_Rn.go (t := am_t42) rfl 2 rfl ⟨trivial, trivial, trivial⟩ ?_
        refine am_Rn.call (t := am_t42) rfl rfl (sx_boardAt_A sc _ (by first | exact (am_le (i := 0) (by omega) (by omega)).mpr (by omega) | exact (am_le (i := 0) (j := q) (by omega) (by omega)).mpr (by omega)) (by first | exact (am_lt (j := 20) (by omega) (by omega)).mpr (by omega) | exact (am_lt (i := q) (j := 20) (by omega) (by omega)).mpr (by omega)) ..) ?_
        rintro _ _ ⟨rfl, rfl⟩
        refine am_Rn.go (t := am_t42) rfl 2 rfl ⟨trivial, trivial, trivial⟩ ?_
        refine am_Rn.call (t := am_t42) rfl rfl (sx_boardAt_A sc _ (by first | exact (am_le (i := 0) (by omega) (by omega)).mpr (by omega) | exact (am_le (i := 0) (j := q) (by omega) (by omega)).mpr (by omega)) (by first | exact (am_lt (j := 20) (by omega) (by omega)).mpr (by omega) | exact (am_lt (i := q) (j := 20) (by omega) (by omega)).mpr (by omega)) ..) ?_
        rintro _ _ ⟨rfl, rfl⟩
        refine am_Rn.go (t := am_t42) rfl 1 rfl ⟨trivial, trivial⟩ ?_
        refine am_Rn.br (fun h3 => ?_) (fun h3 => ?_)
        · skip
          refine am_Rn.go (t := am_t42) rfl 2 rfl ⟨trivial, trivial, trivial⟩ ?_
          have g := ih (i + 1) (by omega)
          rw [am_fold_succ, hF, ← am_inc] at g
          (try simp only [e1, e2, am_on] at *)
          first
            | (rw [sp_bestB_T (by first | rfl | (simp only [sp_over, Bool.true_and, decide_eq_true_eq]; (simp only [Int32.lt_iff_toInt_lt, Int32.le_iff_toInt_le, ← Int32.toInt_inj, Int32.reduceToInt, Int32.not_lt, Int32.not_le] at *; omega)))] at g; exact g)
            | (rw [sp_bestB_F (by first | rfl | (simp only [sp_over, Bool.true_and, decide_eq_true_eq]; (simp only [Int32.lt_iff_toInt_lt, Int32.le_iff_toInt_le, ← Int32.toInt_inj, Int32.reduceToInt, Int32.not_lt, Int32.not_le] at *; omega)))] at g; exact g)
        · skip
          refine am_Rn.go (t := am_t42) rfl 4 rfl ⟨trivial, trivial, trivial, trivial, trivial⟩ ?_
          have g := ih (i + 1) (by omega)
          rw [am_fold_succ, hF, ← am_inc] at g
          (try simp only [e1, e2, am_on] at *)
          first
            | (rw [sp_bestB_T (by first | rfl | (simp only [sp_over, Bool.true_and, decide_eq_true_eq]; (simp only [Int32.lt_iff_toInt_lt, Int32.le_iff_toInt_le, ← Int32.toInt_inj, Int32.reduceToInt, Int32.not_lt, Int32.not_le] at *; omega)))] at g; exact g)
            | (rw [sp_bestB_F (by first | rfl | (simp only [sp_over, Bool.true_and, decide_eq_true_eq]; (simp only [Int32.lt_iff_toInt_lt, Int32.le_iff_toInt_le, ← Int32.toInt_inj, Int32.reduceToInt, Int32.not_lt, Int32.not_le] at *; omega)))] at g; exact g)
  refine am_Rn.go (t := am_t42) rfl 4 rfl ⟨trivial, trivial, trivial, trivial, trivial⟩ ?_
  exact L rn 0 (by omega)
theorem sx_peak_A (sc : am_Sc) (rn : Nat) (hr : rn ≤ 20) (nu la me tc ts : Nat → Int32) (pe : Int32) (pr pv sa pd lo : Int32) (bo co sh se si er of_ bi bt so : Nat → Int32) (B0 B2 B3 : List am_E) (Bs : am_M) : am_Rn sc 43 (0, am_entry 43 [.ref 128], [], B0 :: bkRules 32 nu la me tc ts pe :: B2 :: B3 :: bkRoom 128 32 (Int32.ofNat rn) pr pv sa pd lo bo co sh se si er of_ bi bt so :: Bs) (fun r M' => r = some (.int (sp_peak bo rn)) ∧ M' = B0 :: bkRules 32 nu la me tc ts pe :: B2 :: B3 :: bkRoom 128 32 (Int32.ofNat rn) pr pv sa pd lo bo co sh se si er of_ bi bt so :: Bs) := by
  show am_Rn sc 43 (0, [some (.ref 128), none], [], _) _
  rcases hp : sp_pk bo rn with _ | q
  · skip
    refine am_Rn.go (t := am_t43) rfl 1 rfl ⟨trivial, trivial⟩ ?_
    refine am_Rn.call (t := am_t43) rfl rfl (sx_peakRound_A sc rn hr ..) ?_
    rintro _ _ ⟨rfl, rfl⟩
    rw [hp]
    refine am_Rn.go (t := am_t43) rfl 4 rfl ⟨trivial, trivial, trivial, trivial, trivial⟩ ?_
    refine am_Rn.brT rfl ?_
    refine am_Rn.go (t := am_t43) rfl 2 rfl ⟨trivial, trivial, trivial⟩ ?_
    refine am_Rn.ret (t := am_t43) rfl rfl trivial ?_
    refine ⟨?_, rfl⟩
    unfold sp_peak
    rw [hp]
  · have hq1 : q < rn := sp_bestB_lt _ _ _ _ hp
    have e2 : (Int32.ofNat q).toNatClampNeg = q := am_tn q (by omega)
    refine am_Rn.go (t := am_t43) rfl 1 rfl ⟨trivial, trivial⟩ ?_
    refine am_Rn.call (t := am_t43) rfl rfl (sx_peakRound_A sc rn hr ..) ?_
    rintro _ _ ⟨rfl, rfl⟩
    rw [hp]
    refine am_Rn.go (t := am_t43) rfl 4 rfl ⟨trivial, trivial, trivial, trivial, trivial⟩ ?_
    refine am_Rn.brF (fun z : Int32.ofNat q = -9 => by have := congrArg Int32.toInt z; rw [am_ofN q (by omega)] at this; rw [show (-9 : Int32).toInt = -9 from rfl] at this; omega) ?_
    refine am_Rn.go (t := am_t43) rfl 2 rfl ⟨trivial, trivial, trivial⟩ ?_
    refine am_Rn.call (t := am_t43) rfl rfl (sx_boardAt_A sc _ ((am_le (i := 0) (j := q) (by omega) (by omega)).mpr (by omega)) ((am_lt (i := q) (j := 20) (by omega) (by omega)).mpr (by omega)) ..) ?_
    rintro _ _ ⟨rfl, rfl⟩
    refine am_Rn.ret (t := am_t43) rfl rfl trivial ?_
    refine ⟨?_, rfl⟩
    unfold sp_peak
    rw [hp, e2]
theorem sx_bubble_A (sc : am_Sc) (rn : Nat) (hr : rn ≤ 20) (nu la me tc ts : Nat → Int32) (pe : Int32) (pr pv sa pd lo : Int32) (bo co sh se si er of_ bi bt so : Nat → Int32) (B0 B2 B3 : List am_E) (Bs : am_M) : am_Rn sc 45 (0, am_entry 45 [.ref 128], [], B0 :: bkRules 32 nu la me tc ts pe :: B2 :: B3 :: bkRoom 128 32 (Int32.ofNat rn) pr pv sa pd lo bo co sh se si er of_ bi bt so :: Bs) (fun r M' => r = some (.int (am_fold rn (sp_bubOne nu bo) 0)) ∧ M' = B0 :: bkRules 32 nu la me tc ts pe :: B2 :: B3 :: bkRoom 128 32 (Int32.ofNat rn) pr pv sa pd lo bo co sh se si er of_ bi bt so :: Bs) := by
  show am_Rn sc 45 (0, [some (.ref 128), none, none], [], _) _
  have L : ∀ (d i : Nat), i + d = rn → am_Rn sc 45 (4, [some (.ref 128), some (.int (am_fold i (sp_bubOne nu bo) 0)), some (.int (Int32.ofNat i))], [], B0 :: bkRules 32 nu la me tc ts pe :: B2 :: B3 :: bkRoom 128 32 (Int32.ofNat rn) pr pv sa pd lo bo co sh se si er of_ bi bt so :: Bs) (fun r M' => r = some (.int (am_fold rn (sp_bubOne nu bo) 0)) ∧ M' = B0 :: bkRules 32 nu la me tc ts pe :: B2 :: B3 :: bkRoom 128 32 (Int32.ofNat rn) pr pv sa pd lo bo co sh se si er of_ bi bt so :: Bs) := by
    intro d
    induction d with
    | zero =>
      intro i  hi
      obtain rfl : i = rn := by omega
      refine am_Rn.go (t := am_t45) rfl 4 rfl ⟨trivial, trivial, trivial, trivial, trivial⟩ ?_
      refine am_Rn.brT (by first | exact (am_le (by omega) (by omega)).mpr (Nat.le_refl _) | exact fun q => absurd ((am_lt (by omega) (by omega)).mp q) (Nat.lt_irrefl _) | decide) ?_
      refine am_Rn.go (t := am_t45) rfl 1 rfl ⟨trivial, trivial⟩ ?_
      refine am_Rn.ret (t := am_t45) rfl rfl trivial ?_
      exact ⟨rfl, rfl⟩
    | succ d ih =>
      intro i  hi
      have hiP : i < rn := by omega
      have e1 : (Int32.ofNat i).toNatClampNeg = i := am_tn i (by omega)
      refine am_Rn.go (t := am_t45) rfl 4 rfl ⟨trivial, trivial, trivial, trivial, trivial⟩ ?_
      refine am_Rn.brF (by first | exact fun q => absurd ((am_le (by omega) (by omega)).mp q) (by omega) | exact fun q => absurd ((am_le (i := 9) (by omega) (by omega)).mp q) (by omega) | exact fun q => absurd ((am_le (i := 10) (by omega) (by omega)).mp q) (by omega) | exact (am_lt (by omega) (by omega)).mpr hiP) ?_
      refine am_Rn.go (t := am_t45) rfl 5 rfl ⟨trivial, trivial, trivial, trivial, trivial, trivial⟩ ?_
      refine am_Rn.call (t := am_t45) rfl rfl (sx_boardAt_A sc _ ((am_le (i := 0) (by omega) (by omega)).mpr (by omega)) ((am_lt (j := 20) (by omega) (by omega)).mpr (by omega)) ..) ?_
      rintro _ _ ⟨rfl, rfl⟩
      refine am_Rn.go (t := am_t45) rfl 4 rfl ⟨trivial, trivial, trivial, trivial, trivial⟩ ?_
      refine am_Rn.call (t := am_t45) rfl rfl (sx_halvesIn_t ..) ?_
      rintro _ _ ⟨rfl, rfl⟩
      refine am_Rn.go (t := am_t45) rfl 6 rfl ⟨trivial, trivial, trivial, trivial, trivial, trivial, trivial⟩ ?_
      have g := ih (i + 1) (by omega)
      rw [am_fold_succ, ← am_inc] at g
      generalize hX : (am_fold i (sp_bubOne nu bo) 0) = X at *
      simp only [e1] at *
      exact g
  refine am_Rn.go (t := am_t45) rfl 4 rfl ⟨trivial, trivial, trivial, trivial, trivial⟩ ?_
  exact L rn 0 (by omega)
theorem sx_fallRound_A (sc : am_Sc) (rn : Nat) (hr : rn ≤ 20) (nu la me tc ts : Nat → Int32) (pe : Int32) (pr pv sa pd lo : Int32) (bo co sh se si er of_ bi bt so : Nat → Int32) (B0 B2 B3 : List am_E) (Bs : am_M) : am_Rn sc 44 (0, am_entry 44 [.ref 128], [], B0 :: bkRules 32 nu la me tc ts pe :: B2 :: B3 :: bkRoom 128 32 (Int32.ofNat rn) pr pv sa pd lo bo co sh se si er of_ bi bt so :: Bs) (fun r M' => r = some (.int (am_on (-9) (am_fold rn (sp_fallOne nu bo) (none, 0)).1)) ∧ M' = B0 :: bkRules 32 nu la me tc ts pe :: B2 :: B3 :: bkRoom 128 32 (Int32.ofNat rn) pr pv sa pd lo bo co sh se si er of_ bi bt so :: Bs) := by
  show am_Rn sc 44 (0, [some (.ref 128), none, none, none, none], [], _) _
  have L : ∀ (d i : Nat) (x4 : Option Value), i + d = rn → am_Rn sc 44 (6, [some (.ref 128), some (.int (am_on (-9) (am_fold i (sp_fallOne nu bo) (none, 0)).1)), some (.int (am_fold i (sp_fallOne nu bo) (none, 0)).2), some (.int (Int32.ofNat i)), x4], [], B0 :: bkRules 32 nu la me tc ts pe :: B2 :: B3 :: bkRoom 128 32 (Int32.ofNat rn) pr pv sa pd lo bo co sh se si er of_ bi bt so :: Bs) (fun r M' => r = some (.int (am_on (-9) (am_fold rn (sp_fallOne nu bo) (none, 0)).1)) ∧ M' = B0 :: bkRules 32 nu la me tc ts pe :: B2 :: B3 :: bkRoom 128 32 (Int32.ofNat rn) pr pv sa pd lo bo co sh se si er of_ bi bt so :: Bs) := by
    intro d
    induction d with
    | zero =>
      intro i x4 hi
      obtain rfl : i = rn := by omega
      refine am_Rn.go (t := am_t44) rfl 4 rfl ⟨trivial, trivial, trivial, trivial, trivial⟩ ?_
      refine am_Rn.brT (by first | exact (am_le (by omega) (by omega)).mpr (Nat.le_refl _) | exact fun q => absurd ((am_lt (by omega) (by omega)).mp q) (Nat.lt_irrefl _) | decide) ?_
      refine am_Rn.go (t := am_t44) rfl 1 rfl ⟨trivial, trivial⟩ ?_
      refine am_Rn.ret (t := am_t44) rfl rfl trivial ?_
      exact ⟨rfl, rfl⟩
    | succ d ih =>
      intro i x4 hi
      have hiP : i < rn := by omega
      have e1 : (Int32.ofNat i).toNatClampNeg = i := am_tn i (by omega)
      rcases i with _ | i0
      · skip
        have e4 := e1
        refine am_Rn.go (t := am_t44) rfl 4 rfl ⟨trivial, trivial, trivial, trivial, trivial⟩ ?_
        refine am_Rn.brF (by first | exact fun q => absurd ((am_le (by omega) (by omega)).mp q) (by omega) | exact fun q => absurd ((am_le (i := 9) (by omega) (by omega)).mp q) (by omega) | exact fun q => absurd ((am_le (i := 10) (by omega) (by omega)).mp q) (by omega) | exact (am_lt (by omega) (by omega)).mpr hiP) ?_
        refine am_Rn.go (t := am_t44) rfl 4 rfl ⟨trivial, trivial, trivial, trivial, trivial⟩ ?_
        refine am_Rn.call (t := am_t44) rfl rfl (sx_boardAtN_A ..) ?_
        rintro _ _ ⟨rfl, rfl⟩
        refine am_Rn.go (t := am_t44) rfl 2 rfl ⟨trivial, trivial, trivial⟩ ?_
        refine am_Rn.call (t := am_t44) rfl rfl (sx_boardAt_A sc _ ((am_le (i := 0) (by omega) (by omega)).mpr (by omega)) ((am_lt (j := 20) (by omega) (by omega)).mpr (by omega)) ..) ?_
        rintro _ _ ⟨rfl, rfl⟩
        refine am_Rn.go (t := am_t44) rfl 5 rfl ⟨trivial, trivial, trivial, trivial, trivial, trivial⟩ ?_
        refine am_Rn.br (fun h2 => ?_) (fun h2 => ?_)
        · skip
          refine am_Rn.go (t := am_t44) rfl 2 rfl ⟨trivial, trivial, trivial⟩ ?_
          have g := ih (0 + 1) (some (.int (sp_fall nu bo 0))) (by omega)
          rw [am_fold_succ, ← am_inc] at g
          generalize hX : (am_fold 0 (sp_fallOne nu bo) (none, 0)) = X at *
          (try simp only [e1, e4] at *)
          first
            | (rw [show sp_fallOne nu bo 0 X = X from if_pos (by assumption)] at g; exact g)
            | (rw [show sp_fallOne nu bo 0 X = (some 0, sp_fall nu bo 0) from if_neg (by assumption)] at g; exact g)
        · skip
          refine am_Rn.go (t := am_t44) rfl 6 rfl ⟨trivial, trivial, trivial, trivial, trivial, trivial, trivial⟩ ?_
          have g := ih (0 + 1) (some (.int (sp_fall nu bo 0))) (by omega)
          rw [am_fold_succ, ← am_inc] at g
          generalize hX : (am_fold 0 (sp_fallOne nu bo) (none, 0)) = X at *
          (try simp only [e1, e4] at *)
          first
            | (rw [show sp_fallOne nu bo 0 X = X from if_pos (by assumption)] at g; exact g)
            | (rw [show sp_fallOne nu bo 0 X = (some 0, sp_fall nu bo 0) from if_neg (by assumption)] at g; exact g)
      · skip
        have e4 : (Int32.ofNat i0).toNatClampNeg = i0 := am_tn i0 (by omega)
        have e5 : Int32.ofNat (i0 + 1) - 1 = Int32.ofNat i0 := dec_ofNat i0
        refine am_Rn.go (t := am_t44) rfl 4 rfl ⟨trivial, trivial, trivial, trivial, trivial⟩ ?_
        refine am_Rn.brF (by first | exact fun q => absurd ((am_le (by omega) (by omega)).mp q) (by omega) | exact fun q => absurd ((am_le (i := 9) (by omega) (by omega)).mp q) (by omega) | exact fun q => absurd ((am_le (i := 10) (by omega) (by omega)).mp q) (by omega) | exact (am_lt (by omega) (by omega)).mpr hiP) ?_
        refine am_Rn.go (t := am_t44) rfl 4 rfl ⟨trivial, trivial, trivial, trivial, trivial⟩ ?_
        simp only [e5]
        refine am_Rn.call (t := am_t44) rfl rfl (sx_boardAt_A sc _ ((am_le (i := 0) (by omega) (by omega)).mpr (by omega)) ((am_lt (j := 20) (by omega) (by omega)).mpr (by omega)) ..) ?_
        rintro _ _ ⟨rfl, rfl⟩
        refine am_Rn.go (t := am_t44) rfl 2 rfl ⟨trivial, trivial, trivial⟩ ?_
        refine am_Rn.call (t := am_t44) rfl rfl (sx_boardAt_A sc _ ((am_le (i := 0) (by omega) (by omega)).mpr (by omega)) ((am_lt (j := 20) (by omega) (by omega)).mpr (by omega)) ..) ?_
        rintro _ _ ⟨rfl, rfl⟩
        refine am_Rn.go (t := am_t44) rfl 5 rfl ⟨trivial, trivial, trivial, trivial, trivial, trivial⟩ ?_
        refine am_Rn.br (fun h2 => ?_) (fun h2 => ?_)
        · skip
          refine am_Rn.go (t := am_t44) rfl 2 rfl ⟨trivial, trivial, trivial⟩ ?_
          have g := ih (i0 + 1 + 1) (some (.int (sp_fall nu bo (i0 + 1)))) (by omega)
          rw [am_fold_succ, ← am_inc] at g
          generalize hX : (am_fold (i0 + 1) (sp_fallOne nu bo) (none, 0)) = X at *
          (try simp only [e1, e4] at *)
          first
            | (rw [show sp_fallOne nu bo (i0 + 1) X = X from if_pos (by assumption)] at g; exact g)
            | (rw [show sp_fallOne nu bo (i0 + 1) X = (some (i0 + 1), sp_fall nu bo (i0 + 1)) from if_neg (by assumption)] at g; exact g)
        · skip
          refine am_Rn.go (t := am_t44) rfl 6 rfl ⟨trivial, trivial, trivial, trivial, trivial, trivial, trivial⟩ ?_
          have g := ih (i0 + 1 + 1) (some (.int (sp_fall nu bo (i0 + 1)))) (by omega)
          rw [am_fold_succ, ← am_inc] at g
          generalize hX : (am_fold (i0 + 1) (sp_fallOne nu bo) (none, 0)) = X at *
          (try simp only [e1, e4] at *)
          first
            | (rw [show sp_fallOne nu bo (i0 + 1) X = X from if_pos (by assumption)] at g; exact g)
            | (rw [show sp_fallOne nu bo (i0 + 1) X = (some (i0 + 1), sp_fall nu bo (i0 + 1)) from if_neg (by assumption)] at g; exact g)
  refine am_Rn.go (t := am_t44) rfl 6 rfl ⟨trivial, trivial, trivial, trivial, trivial, trivial, trivial⟩ ?_
  exact L rn 0 _ (by omega)
theorem sx_play_A (sc : am_Sc) (G : Nat) (hG : G ≤ 20) (nu la me tc ts : Nat → Int32) (P : Nat) (hP : P ≤ 9) (N S rn : Nat) (hN : N ≤ 20) (h0 : nu 0 = Int32.ofNat N) (hS : S ≤ 9) (h9 : nu 9 = Int32.ofNat S) (pr pv sa pd lo : Int32) (bo co sh se si er of_ bi bt so : Nat → Int32) (B0 B2 B3 : List am_E) (Bs : am_M) (hrN : rn ≤ N) : am_Rn sc 34 (0, am_entry 34 [.ref 128, .int (Int32.ofNat G)], [], B0 :: bkRules 32 nu la me tc ts (Int32.ofNat P) :: B2 :: B3 :: bkRoom 128 32 (Int32.ofNat rn) pr pv sa pd lo bo co sh se si er of_ bi bt so :: Bs) (fun r M' => r = some (.int (Int32.ofNat (sp_play nu la me P N S G rn (Int32.ofNat rn, pr, pv, sa, pd, lo, bo, co, sh, se, si, er, of_, bi, bt, so)).1)) ∧ M' = B0 :: bkRules 32 nu la me tc ts (Int32.ofNat P) :: B2 :: B3 :: bkRoomT 128 32 ((sp_play nu la me P N S G rn (Int32.ofNat rn, pr, pv, sa, pd, lo, bo, co, sh, se, si, er, of_, bi, bt, so)).2) :: Bs) := by
  show am_Rn sc 34 (0, [some (.ref 128), some (.int (Int32.ofNat G)), none], [], _) _
  have L : ∀ (k w rn : Nat) (pr pv sa pd lo : Int32) (bo co sh se si er of_ bi bt so : Nat → Int32), w + k = G → rn ≤ N → am_Rn sc 34 (2, [some (.ref 128), some (.int (Int32.ofNat G)), some (.int (Int32.ofNat w))], [], B0 :: bkRules 32 nu la me tc ts (Int32.ofNat P) :: B2 :: B3 :: bkRoom 128 32 (Int32.ofNat rn) pr pv sa pd lo bo co sh se si er of_ bi bt so :: Bs) (fun r M' => r = some (.int (Int32.ofNat (w + (sp_play nu la me P N S k rn (Int32.ofNat rn, pr, pv, sa, pd, lo, bo, co, sh, se, si, er, of_, bi, bt, so)).1))) ∧ M' = B0 :: bkRules 32 nu la me tc ts (Int32.ofNat P) :: B2 :: B3 :: bkRoomT 128 32 ((sp_play nu la me P N S k rn (Int32.ofNat rn, pr, pv, sa, pd, lo, bo, co, sh, se, si, er, of_, bi, bt, so)).2) :: Bs) := by
    intro k
    induction k with
    | zero =>
      intro w rn pr pv sa pd lo bo co sh se si er of_ bi bt so hw hrN
      obtain rfl : w = G := by omega
      refine am_Rn.go (t := am_t34) rfl 3 rfl ⟨trivial, trivial, trivial, trivial⟩ ?_
      refine am_Rn.brT ((am_le (by omega) (by omega)).mpr (Nat.le_refl _)) ?_
      refine am_Rn.go (t := am_t34) rfl 1 rfl ⟨trivial, trivial⟩ ?_
      refine am_Rn.ret (t := am_t34) rfl rfl trivial ?_
      exact ⟨rfl, rfl⟩
    | succ k ih =>
      intro w rn pr pv sa pd lo bo co sh se si er of_ bi bt so hw hrN
      have hw2 : ¬ Int32.ofNat G ≤ Int32.ofNat w := fun q => absurd ((am_le (by omega) (by omega)).mp q) (by omega)
      by_cases hov : N ≤ rn
      · have hZ : sp_play nu la me P N S (k + 1) rn (Int32.ofNat rn, pr, pv, sa, pd, lo, bo, co, sh, se, si, er, of_, bi, bt, so) = (0, (Int32.ofNat rn, pr, pv, sa, pd, lo, bo, co, sh, se, si, er, of_, bi, bt, so)) := if_pos hov
        rw [hZ]
        refine am_Rn.go (t := am_t34) rfl 3 rfl ⟨trivial, trivial, trivial, trivial⟩ ?_
        refine am_Rn.brF hw2 ?_
        refine am_Rn.go (t := am_t34) rfl 1 rfl ⟨trivial, trivial⟩ ?_
        refine am_Rn.call (t := am_t34) rfl rfl (sx_isOver_A ..) ?_
        rintro _ _ ⟨rfl, rfl⟩
        refine am_Rn.go (t := am_t34) rfl 1 rfl ⟨trivial, trivial⟩ ?_
        refine am_Rn.brF (fun q => absurd (am_b0.mp q) (fun z => z (Or.inl (by rw [h0]; exact (am_le (by omega) (by omega)).mpr hov)))) ?_
        refine am_Rn.go (t := am_t34) rfl 1 rfl ⟨trivial, trivial⟩ ?_
        refine am_Rn.ret (t := am_t34) rfl rfl trivial ?_
        exact ⟨rfl, rfl⟩
      · have hZ : sp_play nu la me P N S (k + 1) rn (Int32.ofNat rn, pr, pv, sa, pd, lo, bo, co, sh, se, si, er, of_, bi, bt, so) = ((sp_play nu la me P N S k (rn + 1) (sp_round nu la me P N S rn (Int32.ofNat rn, pr, pv, sa, pd, lo, bo, co, sh, se, si, er, of_, bi, bt, so))).1 + 1, (sp_play nu la me P N S k (rn + 1) (sp_round nu la me P N S rn (Int32.ofNat rn, pr, pv, sa, pd, lo, bo, co, sh, se, si, er, of_, bi, bt, so))).2) := if_neg hov
        rw [hZ]
        have hrd := sp_round_rd nu la me P N S rn (Int32.ofNat rn, pr, pv, sa, pd, lo, bo, co, sh, se, si, er, of_, bi, bt, so)
        refine am_Rn.go (t := am_t34) rfl 3 rfl ⟨trivial, trivial, trivial, trivial⟩ ?_
        refine am_Rn.brF hw2 ?_
        refine am_Rn.go (t := am_t34) rfl 1 rfl ⟨trivial, trivial⟩ ?_
        refine am_Rn.call (t := am_t34) rfl rfl (sx_isOver_A ..) ?_
        rintro _ _ ⟨rfl, rfl⟩
        refine am_Rn.go (t := am_t34) rfl 1 rfl ⟨trivial, trivial⟩ ?_
        refine am_Rn.brT (am_b0.mpr (fun q => q.elim (fun q => by rw [h0] at q; have := (am_le (by omega) (by omega)).mp q; omega) (fun q => by have := (am_le (i := 20) (by omega) (by omega)).mp q; omega))) ?_
        refine am_Rn.go (t := am_t34) rfl 1 rfl ⟨trivial, trivial⟩ ?_
        refine am_Rn.call (t := am_t34) rfl rfl (sx_playRound_A sc nu la me tc ts P hP N S rn hN h0 hS h9 (by omega) ..) ?_
        rintro _ _ ⟨rfl, rfl⟩
        refine am_Rn.go (t := am_t34) rfl 2 rfl ⟨trivial, trivial, trivial⟩ ?_
        rcases hR : sp_round nu la me P N S rn (Int32.ofNat rn, pr, pv, sa, pd, lo, bo, co, sh, se, si, er, of_, bi, bt, so) with ⟨rd1, pr1, pv1, sa1, pd1, lo1, bo1, co1, sh1, se1, si1, er1, of1, bi1, bt1, so1⟩
        rw [hR] at hrd
        dsimp only at hrd
        subst hrd
        have g := ih (w + 1) (rn + 1) pr1 pv1 sa1 pd1 lo1 bo1 co1 sh1 se1 si1 er1 of1 bi1 bt1 so1 (by omega) (by omega)
        rw [← am_inc w, show w + 1 + (sp_play nu la me P N S k (rn + 1) (Int32.ofNat (rn + 1), pr1, pv1, sa1, pd1, lo1, bo1, co1, sh1, se1, si1, er1, of1, bi1, bt1, so1)).1 = w + ((sp_play nu la me P N S k (rn + 1) (Int32.ofNat (rn + 1), pr1, pv1, sa1, pd1, lo1, bo1, co1, sh1, se1, si1, er1, of1, bi1, bt1, so1)).1 + 1) by omega] at g
        exact g
  refine am_Rn.go (t := am_t34) rfl 2 rfl ⟨trivial, trivial, trivial⟩ ?_
  have g := L G 0 rn pr pv sa pd lo bo co sh se si er of_ bi bt so (by omega) hrN
  rw [Nat.zero_add] at g
  exact g
theorem sx_boardAtN_B (sc : am_Sc) (nu la me tc ts : Nat → Int32) (pe : Int32) (rd pr pv sa pd lo : Int32) (bo co sh se si er of_ bi bt so : Nat → Int32) (B0 B1 B2 B3 B4 : List am_E) (Bs : am_M) : am_Rn sc 41 (0, am_entry 41 [.ref 192, .int (-1)], [], B0 :: B1 :: B2 :: B3 :: B4 :: bkRules 160 nu la me tc ts pe :: bkRoom 192 160 rd pr pv sa pd lo bo co sh se si er of_ bi bt so :: Bs) (fun r M' => r = some (.int (nu 4)) ∧ M' = B0 :: B1 :: B2 :: B3 :: B4 :: bkRules 160 nu la me tc ts pe :: bkRoom 192 160 rd pr pv sa pd lo bo co sh se si er of_ bi bt so :: Bs) := by
  show am_Rn sc 41 (0, [some (.ref 192), some (.int (-1))], [], _) _
  refine am_Rn.go (t := am_t41) rfl 2 rfl ⟨trivial, trivial, trivial⟩ ?_
  refine am_Rn.brT (by decide) ?_
  refine am_Rn.go (t := am_t41) rfl 5 rfl ⟨trivial, trivial, trivial, trivial, (by first | exact am_inb_lit rfl | exact am_inb_of (by omega) (by omega)), trivial⟩ ?_
  refine am_Rn.ret (t := am_t41) rfl rfl trivial ?_
  exact ⟨rfl, rfl⟩
theorem sx_peakRound_B (sc : am_Sc) (rn : Nat) (hr : rn ≤ 20) (nu la me tc ts : Nat → Int32) (pe : Int32) (pr pv sa pd lo : Int32) (bo co sh se si er of_ bi bt so : Nat → Int32) (B0 B1 B2 B3 B4 : List am_E) (Bs : am_M) : am_Rn sc 42 (0, am_entry 42 [.ref 192], [], B0 :: B1 :: B2 :: B3 :: B4 :: bkRules 160 nu la me tc ts pe :: bkRoom 192 160 (Int32.ofNat rn) pr pv sa pd lo bo co sh se si er of_ bi bt so :: Bs) (fun r M' => r = some (.int (am_on (-9) (sp_pk bo rn))) ∧ M' = B0 :: B1 :: B2 :: B3 :: B4 :: bkRules 160 nu la me tc ts pe :: bkRoom 192 160 (Int32.ofNat rn) pr pv sa pd lo bo co sh se si er of_ bi bt so :: Bs) := by
  show am_Rn sc 42 (0, [some (.ref 192), none, none], [], _) _
  have L : ∀ (d i : Nat), i + d = rn → am_Rn sc 42 (4, [some (.ref 192), some (.int (am_on (-9) (am_fold i (sp_bestB (fun _ => true) bo) none))), some (.int (Int32.ofNat i))], [], B0 :: B1 :: B2 :: B3 :: B4 :: bkRules 160 nu la me tc ts pe :: bkRoom 192 160 (Int32.ofNat rn) pr pv sa pd lo bo co sh se si er of_ bi bt so :: Bs) (fun r M' => r = some (.int (am_on (-9) (sp_pk bo rn))) ∧ M' = B0 :: B1 :: B2 :: B3 :: B4 :: bkRules 160 nu la me tc ts pe :: bkRoom 192 160 (Int32.ofNat rn) pr pv sa pd lo bo co sh se si er of_ bi bt so :: Bs) := by
    intro d
    induction d with
    | zero =>
      intro i  hi
      obtain rfl : i = rn := by omega
      refine am_Rn.go (t := am_t42) rfl 4 rfl ⟨trivial, trivial, trivial, trivial, trivial⟩ ?_
      refine am_Rn.brT (by first | exact (am_le (by omega) (by omega)).mpr (Nat.le_refl _) | exact fun q => absurd ((am_lt (by omega) (by omega)).mp q) (Nat.lt_irrefl _) | decide) ?_
      refine am_Rn.go (t := am_t42) rfl 1 rfl ⟨trivial, trivial⟩ ?_
      refine am_Rn.ret (t := am_t42) rfl rfl trivial ?_
      exact ⟨rfl, rfl⟩
    | succ d ih =>
      intro i  hi
      have hiP : i < rn := by omega
      have e1 : (Int32.ofNat i).toNatClampNeg = i := am_tn i (by omega)
      have hq := sp_bestB_lt (fun _ => true) bo i
      generalize hF : (am_fold i (sp_bestB (fun _ => true) bo) none) = o at hq ⊢
      cases o with
      | none =>
        have e2 := e1
        refine am_Rn.go (t := am_t42) rfl 4 rfl ⟨trivial, trivial, trivial, trivial, trivial⟩ ?_
        refine am_Rn.brF (by first | exact fun q => absurd ((am_le (by omega) (by omega)).mp q) (by omega) | exact fun q => absurd ((am_le (i := 9) (by omega) (by omega)).mp q) (by omega) | exact fun q => absurd ((am_le (i := 10) (by omega) (by omega)).mp q) (by omega) | exact (am_lt (by omega) (by omega)).mpr hiP) ?_
        refine am_Rn.go (t := am_t42) rfl 3 rfl ⟨trivial, trivial, trivial, trivial⟩ ?_
        refine am_Rn.brT rfl ?_
        refine am_Rn.go (t := am_t42) rfl 4 rfl ⟨trivial, trivial, trivial, trivial, trivial⟩ ?_
        have g := ih (i + 1) (by omega)
        rw [am_fold_succ, hF, ← am_inc] at g
        (try simp only [e1, e2, am_on] at *)
        first
          | (rw [sp_bestB_T (by first | rfl | (simp only [sp_over, Bool.true_and, decide_eq_true_eq]; (simp only [Int32.lt_iff_toInt_lt, Int32.le_iff_toInt_le, ← Int32.toInt_inj, Int32.reduceToInt, Int32.not_lt, Int32.not_le] at *; omega)))] at g; exact g)
          | (rw [sp_bestB_F (by first | rfl | (simp only [sp_over, Bool.true_and, decide_eq_true_eq]; (simp only [Int32.lt_iff_toInt_lt, Int32.le_iff_toInt_le, ← Int32.toInt_inj, Int32.reduceToInt, Int32.not_lt, Int32.not_le] at *; omega)))] at g; exact g)
      | some q =>
        have hq1 := hq q rfl
        have e2 : (Int32.ofNat q).toNatClampNeg = q := am_tn q (by omega)
        refine am_Rn.go (t := am_t42) rfl 4 rfl ⟨trivial, trivial, trivial, trivial, trivial⟩ ?_
        refine am_Rn.brF (by first | exact fun q => absurd ((am_le (by omega) (by omega)).mp q) (by omega) | exact fun q => absurd ((am_le (i := 9) (by omega) (by omega)).mp q) (by omega) | exact fun q => absurd ((am_le (i := 10) (by omega) (by omega)).mp q) (by omega) | exact (am_lt (by omega) (by omega)).mpr hiP) ?_
        refine am_Rn.go (t := am_t42) rfl 3 rfl ⟨trivial, trivial, trivial, trivial⟩ ?_
        refine am_Rn.brF (fun z : Int32.ofNat q = -9 => by have := congrArg Int32.toInt z; rw [am_ofN q (by omega)] at this; rw [show (-9 : Int32).toInt = -9 from rfl] at this; omega) ?_
        refine am_Rn.go (t := am_t42) rfl 2 rfl ⟨trivial, trivial, trivial⟩ ?_
        refine am_Rn.call (t := am_t42) rfl rfl (sx_boardAt_B sc _ (by first | exact (am_le (i := 0) (by omega) (by omega)).mpr (by omega) | exact (am_le (i := 0) (j := q) (by omega) (by omega)).mpr (by omega)) (by first | exact (am_lt (j := 20) (by omega) (by omega)).mpr (by omega) | exact (am_lt (i := q) (j := 20) (by omega) (by omega)).mpr (by omega)) ..) ?_
        rintro _ _ ⟨rfl, rfl⟩
        refine am_Rn.go (t := am_t42) rfl 2 rfl ⟨trivial, trivial, trivial⟩ ?_
        refine am_Rn.call (t := am_t42) rfl rfl (sx_boardAt_B sc _ (by first | exact (am_le (i := 0) (by omega) (by omega)).mpr (by omega) | exact (am_le (i := 0) (j := q) (by omega) (by omega)).mpr (by omega)) (by first | exact (am_lt (j := 20) (by omega) (by omega)).mpr (by omega) | exact (am_lt (i := q) (j := 20) (by omega) (by omega)).mpr (by omega)) ..) ?_
        rintro _ _ ⟨rfl, rfl⟩
        refine am_Rn.go (t := am_t42) rfl 1 rfl ⟨trivial, trivial⟩ ?_
        refine am_Rn.br (fun h3 => ?_) (fun h3 => ?_)
        · skip
          refine am_Rn.go (t := am_t42) rfl 2 rfl ⟨trivial, trivial, trivial⟩ ?_
          have g := ih (i + 1) (by omega)
          rw [am_fold_succ, hF, ← am_inc] at g
          (try simp only [e1, e2, am_on] at *)
          first
            | (rw [sp_bestB_T (by first | rfl | (simp only [sp_over, Bool.true_and, decide_eq_true_eq]; (simp only [Int32.lt_iff_toInt_lt, Int32.le_iff_toInt_le, ← Int32.toInt_inj, Int32.reduceToInt, Int32.not_lt, Int32.not_le] at *; omega)))] at g; exact g)
            | (rw [sp_bestB_F (by first | rfl | (simp only [sp_over, Bool.true_and, decide_eq_true_eq]; (simp only [Int32.lt_iff_toInt_lt, Int32.le_iff_toInt_le, ← Int32.toInt_inj, Int32.reduceToInt, Int32.not_lt, Int32.not_le] at *; omega)))] at g; exact g)
        · skip
          refine am_Rn.go (t := am_t42) rfl 4 rfl ⟨trivial, trivial, trivial, trivial, trivial⟩ ?_
          have g := ih (i + 1) (by omega)
          rw [am_fold_succ, hF, ← am_inc] at g
          (try simp only [e1, e2, am_on] at *)
          first
            | (rw [sp_bestB_T (by first | rfl | (simp only [sp_over, Bool.true_and, decide_eq_true_eq]; (simp only [Int32.lt_iff_toInt_lt, Int32.le_iff_toInt_le, ← Int32.toInt_inj, Int32.reduceToInt, Int32.not_lt, Int32.not_le] at *; omega)))] at g; exact g)
            | (rw [sp_bestB_F (by first | rfl | (simp only [sp_over, Bool.true_and, decide_eq_true_eq]; (simp only [Int32.lt_iff_toInt_lt, Int32.le_iff_toInt_le, ← Int32.toInt_inj, Int32.reduceToInt, Int32.not_lt, Int32.not_le] at *; omega)))] at g; exact g)
  refine am_Rn.go (t := am_t42) rfl 4 rfl ⟨trivial, trivial, trivial, trivial, trivial⟩ ?_
  exact L rn 0 (by omega)
theorem sx_peak_B (sc : am_Sc) (rn : Nat) (hr : rn ≤ 20) (nu la me tc ts : Nat → Int32) (pe : Int32) (pr pv sa pd lo : Int32) (bo co sh se si er of_ bi bt so : Nat → Int32) (B0 B1 B2 B3 B4 : List am_E) (Bs : am_M) : am_Rn sc 43 (0, am_entry 43 [.ref 192], [], B0 :: B1 :: B2 :: B3 :: B4 :: bkRules 160 nu la me tc ts pe :: bkRoom 192 160 (Int32.ofNat rn) pr pv sa pd lo bo co sh se si er of_ bi bt so :: Bs) (fun r M' => r = some (.int (sp_peak bo rn)) ∧ M' = B0 :: B1 :: B2 :: B3 :: B4 :: bkRules 160 nu la me tc ts pe :: bkRoom 192 160 (Int32.ofNat rn) pr pv sa pd lo bo co sh se si er of_ bi bt so :: Bs) := by
  show am_Rn sc 43 (0, [some (.ref 192), none], [], _) _
  rcases hp : sp_pk bo rn with _ | q
  · skip
    refine am_Rn.go (t := am_t43) rfl 1 rfl ⟨trivial, trivial⟩ ?_
    refine am_Rn.call (t := am_t43) rfl rfl (sx_peakRound_B sc rn hr ..) ?_
    rintro _ _ ⟨rfl, rfl⟩
    rw [hp]
    refine am_Rn.go (t := am_t43) rfl 4 rfl ⟨trivial, trivial, trivial, trivial, trivial⟩ ?_
    refine am_Rn.brT rfl ?_
    refine am_Rn.go (t := am_t43) rfl 2 rfl ⟨trivial, trivial, trivial⟩ ?_
    refine am_Rn.ret (t := am_t43) rfl rfl trivial ?_
    refine ⟨?_, rfl⟩
    unfold sp_peak
    rw [hp]
  · have hq1 : q < rn := sp_bestB_lt _ _ _ _ hp
    have e2 : (Int32.ofNat q).toNatClampNeg = q := am_tn q (by omega)
    refine am_Rn.go (t := am_t43) rfl 1 rfl ⟨trivial, trivial⟩ ?_
    refine am_Rn.call (t := am_t43) rfl rfl (sx_peakRound_B sc rn hr ..) ?_
    rintro _ _ ⟨rfl, rfl⟩
    rw [hp]
    refine am_Rn.go (t := am_t43) rfl 4 rfl ⟨trivial, trivial, trivial, trivial, trivial⟩ ?_
    refine am_Rn.brF (fun z : Int32.ofNat q = -9 => by have := congrArg Int32.toInt z; rw [am_ofN q (by omega)] at this; rw [show (-9 : Int32).toInt = -9 from rfl] at this; omega) ?_
    refine am_Rn.go (t := am_t43) rfl 2 rfl ⟨trivial, trivial, trivial⟩ ?_
    refine am_Rn.call (t := am_t43) rfl rfl (sx_boardAt_B sc _ ((am_le (i := 0) (j := q) (by omega) (by omega)).mpr (by omega)) ((am_lt (i := q) (j := 20) (by omega) (by omega)).mpr (by omega)) ..) ?_
    rintro _ _ ⟨rfl, rfl⟩
    refine am_Rn.ret (t := am_t43) rfl rfl trivial ?_
    refine ⟨?_, rfl⟩
    unfold sp_peak
    rw [hp, e2]
theorem sx_bubble_B (sc : am_Sc) (rn : Nat) (hr : rn ≤ 20) (nu la me tc ts : Nat → Int32) (pe : Int32) (pr pv sa pd lo : Int32) (bo co sh se si er of_ bi bt so : Nat → Int32) (B0 B1 B2 B3 B4 : List am_E) (Bs : am_M) : am_Rn sc 45 (0, am_entry 45 [.ref 192], [], B0 :: B1 :: B2 :: B3 :: B4 :: bkRules 160 nu la me tc ts pe :: bkRoom 192 160 (Int32.ofNat rn) pr pv sa pd lo bo co sh se si er of_ bi bt so :: Bs) (fun r M' => r = some (.int (am_fold rn (sp_bubOne nu bo) 0)) ∧ M' = B0 :: B1 :: B2 :: B3 :: B4 :: bkRules 160 nu la me tc ts pe :: bkRoom 192 160 (Int32.ofNat rn) pr pv sa pd lo bo co sh se si er of_ bi bt so :: Bs) := by
  show am_Rn sc 45 (0, [some (.ref 192), none, none], [], _) _
  have L : ∀ (d i : Nat), i + d = rn → am_Rn sc 45 (4, [some (.ref 192), some (.int (am_fold i (sp_bubOne nu bo) 0)), some (.int (Int32.ofNat i))], [], B0 :: B1 :: B2 :: B3 :: B4 :: bkRules 160 nu la me tc ts pe :: bkRoom 192 160 (Int32.ofNat rn) pr pv sa pd lo bo co sh se si er of_ bi bt so :: Bs) (fun r M' => r = some (.int (am_fold rn (sp_bubOne nu bo) 0)) ∧ M' = B0 :: B1 :: B2 :: B3 :: B4 :: bkRules 160 nu la me tc ts pe :: bkRoom 192 160 (Int32.ofNat rn) pr pv sa pd lo bo co sh se si er of_ bi bt so :: Bs) := by
    intro d
    induction d with
    | zero =>
      intro i  hi
      obtain rfl : i = rn := by omega
      refine am_Rn.go (t := am_t45) rfl 4 rfl ⟨trivial, trivial, trivial, trivial, trivial⟩ ?_
      refine am_Rn.brT (by first | exact (am_le (by omega) (by omega)).mpr (Nat.le_refl _) | exact fun q => absurd ((am_lt (by omega) (by omega)).mp q) (Nat.lt_irrefl _) | decide) ?_
      refine am_Rn.go (t := am_t45) rfl 1 rfl ⟨trivial, trivial⟩ ?_
      refine am_Rn.ret (t := am_t45) rfl rfl trivial ?_
      exact ⟨rfl, rfl⟩
    | succ d ih =>
      intro i  hi
      have hiP : i < rn := by omega
      have e1 : (Int32.ofNat i).toNatClampNeg = i := am_tn i (by omega)
      refine am_Rn.go (t := am_t45) rfl 4 rfl ⟨trivial, trivial, trivial, trivial, trivial⟩ ?_
      refine am_Rn.brF (by first | exact fun q => absurd ((am_le (by omega) (by omega)).mp q) (by omega) | exact fun q => absurd ((am_le (i := 9) (by omega) (by omega)).mp q) (by omega) | exact fun q => absurd ((am_le (i := 10) (by omega) (by omega)).mp q) (by omega) | exact (am_lt (by omega) (by omega)).mpr hiP) ?_
      refine am_Rn.go (t := am_t45) rfl 5 rfl ⟨trivial, trivial, trivial, trivial, trivial, trivial⟩ ?_
      refine am_Rn.call (t := am_t45) rfl rfl (sx_boardAt_B sc _ ((am_le (i := 0) (by omega) (by omega)).mpr (by omega)) ((am_lt (j := 20) (by omega) (by omega)).mpr (by omega)) ..) ?_
      rintro _ _ ⟨rfl, rfl⟩
      refine am_Rn.go (t := am_t45) rfl 4 rfl ⟨trivial, trivial, trivial, trivial, trivial⟩ ?_
      refine am_Rn.call (t := am_t45) rfl rfl (sx_halvesIn_v ..) ?_
      rintro _ _ ⟨rfl, rfl⟩
      refine am_Rn.go (t := am_t45) rfl 6 rfl ⟨trivial, trivial, trivial, trivial, trivial, trivial, trivial⟩ ?_
      have g := ih (i + 1) (by omega)
      rw [am_fold_succ, ← am_inc] at g
      generalize hX : (am_fold i (sp_bubOne nu bo) 0) = X at *
      simp only [e1] at *
      exact g
  refine am_Rn.go (t := am_t45) rfl 4 rfl ⟨trivial, trivial, trivial, trivial, trivial⟩ ?_
  exact L rn 0 (by omega)
theorem sx_play_B (sc : am_Sc) (G : Nat) (hG : G ≤ 20) (nu la me tc ts : Nat → Int32) (P : Nat) (hP : P ≤ 9) (N S rn : Nat) (hN : N ≤ 20) (h0 : nu 0 = Int32.ofNat N) (hS : S ≤ 9) (h9 : nu 9 = Int32.ofNat S) (pr pv sa pd lo : Int32) (bo co sh se si er of_ bi bt so : Nat → Int32) (B0 B1 B2 B3 B4 : List am_E) (Bs : am_M) (hrN : rn ≤ N) : am_Rn sc 34 (0, am_entry 34 [.ref 192, .int (Int32.ofNat G)], [], B0 :: B1 :: B2 :: B3 :: B4 :: bkRules 160 nu la me tc ts (Int32.ofNat P) :: bkRoom 192 160 (Int32.ofNat rn) pr pv sa pd lo bo co sh se si er of_ bi bt so :: Bs) (fun r M' => r = some (.int (Int32.ofNat (sp_play nu la me P N S G rn (Int32.ofNat rn, pr, pv, sa, pd, lo, bo, co, sh, se, si, er, of_, bi, bt, so)).1)) ∧ M' = B0 :: B1 :: B2 :: B3 :: B4 :: bkRules 160 nu la me tc ts (Int32.ofNat P) :: bkRoomT 192 160 ((sp_play nu la me P N S G rn (Int32.ofNat rn, pr, pv, sa, pd, lo, bo, co, sh, se, si, er, of_, bi, bt, so)).2) :: Bs) := by
  show am_Rn sc 34 (0, [some (.ref 192), some (.int (Int32.ofNat G)), none], [], _) _
  have L : ∀ (k w rn : Nat) (pr pv sa pd lo : Int32) (bo co sh se si er of_ bi bt so : Nat → Int32), w + k = G → rn ≤ N → am_Rn sc 34 (2, [some (.ref 192), some (.int (Int32.ofNat G)), some (.int (Int32.ofNat w))], [], B0 :: B1 :: B2 :: B3 :: B4 :: bkRules 160 nu la me tc ts (Int32.ofNat P) :: bkRoom 192 160 (Int32.ofNat rn) pr pv sa pd lo bo co sh se si er of_ bi bt so :: Bs) (fun r M' => r = some (.int (Int32.ofNat (w + (sp_play nu la me P N S k rn (Int32.ofNat rn, pr, pv, sa, pd, lo, bo, co, sh, se, si, er, of_, bi, bt, so)).1))) ∧ M' = B0 :: B1 :: B2 :: B3 :: B4 :: bkRules 160 nu la me tc ts (Int32.ofNat P) :: bkRoomT 192 160 ((sp_play nu la me P N S k rn (Int32.ofNat rn, pr, pv, sa, pd, lo, bo, co, sh, se, si, er, of_, bi, bt, so)).2) :: Bs) := by
    intro k
    induction k with
    | zero =>
      intro w rn pr pv sa pd lo bo co sh se si er of_ bi bt so hw hrN
      obtain rfl : w = G := by omega
      refine am_Rn.go (t := am_t34) rfl 3 rfl ⟨trivial, trivial, trivial, trivial⟩ ?_
      refine am_Rn.brT ((am_le (by omega) (by omega)).mpr (Nat.le_refl _)) ?_
      refine am_Rn.go (t := am_t34) rfl 1 rfl ⟨trivial, trivial⟩ ?_
      refine am_Rn.ret (t := am_t34) rfl rfl trivial ?_
      exact ⟨rfl, rfl⟩
    | succ k ih =>
      intro w rn pr pv sa pd lo bo co sh se si er of_ bi bt so hw hrN
      have hw2 : ¬ Int32.ofNat G ≤ Int32.ofNat w := fun q => absurd ((am_le (by omega) (by omega)).mp q) (by omega)
      by_cases hov : N ≤ rn
      · have hZ : sp_play nu la me P N S (k + 1) rn (Int32.ofNat rn, pr, pv, sa, pd, lo, bo, co, sh, se, si, er, of_, bi, bt, so) = (0, (Int32.ofNat rn, pr, pv, sa, pd, lo, bo, co, sh, se, si, er, of_, bi, bt, so)) := if_pos hov
        rw [hZ]
        refine am_Rn.go (t := am_t34) rfl 3 rfl ⟨trivial, trivial, trivial, trivial⟩ ?_
        refine am_Rn.brF hw2 ?_
        refine am_Rn.go (t := am_t34) rfl 1 rfl ⟨trivial, trivial⟩ ?_
        refine am_Rn.call (t := am_t34) rfl rfl (sx_isOver_B ..) ?_
        rintro _ _ ⟨rfl, rfl⟩
        refine am_Rn.go (t := am_t34) rfl 1 rfl ⟨trivial, trivial⟩ ?_
        refine am_Rn.brF (fun q => absurd (am_b0.mp q) (fun z => z (Or.inl (by rw [h0]; exact (am_le (by omega) (by omega)).mpr hov)))) ?_
        refine am_Rn.go (t := am_t34) rfl 1 rfl ⟨trivial, trivial⟩ ?_
        refine am_Rn.ret (t := am_t34) rfl rfl trivial ?_
        exact ⟨rfl, rfl⟩
      · have hZ : sp_play nu la me P N S (k + 1) rn (Int32.ofNat rn, pr, pv, sa, pd, lo, bo, co, sh, se, si, er, of_, bi, bt, so) = ((sp_play nu la me P N S k (rn + 1) (sp_round nu la me P N S rn (Int32.ofNat rn, pr, pv, sa, pd, lo, bo, co, sh, se, si, er, of_, bi, bt, so))).1 + 1, (sp_play nu la me P N S k (rn + 1) (sp_round nu la me P N S rn (Int32.ofNat rn, pr, pv, sa, pd, lo, bo, co, sh, se, si, er, of_, bi, bt, so))).2) := if_neg hov
        rw [hZ]
        have hrd := sp_round_rd nu la me P N S rn (Int32.ofNat rn, pr, pv, sa, pd, lo, bo, co, sh, se, si, er, of_, bi, bt, so)
        refine am_Rn.go (t := am_t34) rfl 3 rfl ⟨trivial, trivial, trivial, trivial⟩ ?_
        refine am_Rn.brF hw2 ?_
        refine am_Rn.go (t := am_t34) rfl 1 rfl ⟨trivial, trivial⟩ ?_
        refine am_Rn.call (t := am_t34) rfl rfl (sx_isOver_B ..) ?_
        rintro _ _ ⟨rfl, rfl⟩
        refine am_Rn.go (t := am_t34) rfl 1 rfl ⟨trivial, trivial⟩ ?_
        refine am_Rn.brT (am_b0.mpr (fun q => q.elim (fun q => by rw [h0] at q; have := (am_le (by omega) (by omega)).mp q; omega) (fun q => by have := (am_le (i := 20) (by omega) (by omega)).mp q; omega))) ?_
        refine am_Rn.go (t := am_t34) rfl 1 rfl ⟨trivial, trivial⟩ ?_
        refine am_Rn.call (t := am_t34) rfl rfl (sx_playRound_B sc nu la me tc ts P hP N S rn hN h0 hS h9 (by omega) ..) ?_
        rintro _ _ ⟨rfl, rfl⟩
        refine am_Rn.go (t := am_t34) rfl 2 rfl ⟨trivial, trivial, trivial⟩ ?_
        rcases hR : sp_round nu la me P N S rn (Int32.ofNat rn, pr, pv, sa, pd, lo, bo, co, sh, se, si, er, of_, bi, bt, so) with ⟨rd1, pr1, pv1, sa1, pd1, lo1, bo1, co1, sh1, se1, si1, er1, of1, bi1, bt1, so1⟩
        rw [hR] at hrd
        dsimp only at hrd
        subst hrd
        have g := ih (w + 1) (rn + 1) pr1 pv1 sa1 pd1 lo1 bo1 co1 sh1 se1 si1 er1 of1 bi1 bt1 so1 (by omega) (by omega)
        rw [← am_inc w, show w + 1 + (sp_play nu la me P N S k (rn + 1) (Int32.ofNat (rn + 1), pr1, pv1, sa1, pd1, lo1, bo1, co1, sh1, se1, si1, er1, of1, bi1, bt1, so1)).1 = w + ((sp_play nu la me P N S k (rn + 1) (Int32.ofNat (rn + 1), pr1, pv1, sa1, pd1, lo1, bo1, co1, sh1, se1, si1, er1, of1, bi1, bt1, so1)).1 + 1) by omega] at g
        exact g
  refine am_Rn.go (t := am_t34) rfl 2 rfl ⟨trivial, trivial, trivial⟩ ?_
  have g := L G 0 rn pr pv sa pd lo bo co sh se si er of_ bi bt so (by omega) hrN
  rw [Nat.zero_add] at g
  exact g
