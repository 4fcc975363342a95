theorem sx_sellOne_A (sc : am_Sc) (nu la me tc ts : Nat → Int32) (P : Nat) (hP : P ≤ 9) (rd pr pv sa pd lo : Int32) (bo co sh se si er of_ bi bt so : Nat → Int32) (B0 B2 B3 : List am_E) (Bs : am_M) : am_Rn sc 36 (0, am_entry 36 [.ref 128], [], B0 :: bkRules 32 nu la me tc ts (Int32.ofNat P) :: B2 :: B3 :: bkRoom 128 32 rd pr pv sa pd lo bo co sh se si er of_ bi bt so :: Bs) (fun r M' => r = some (.int (am_b ((sp_sell nu bi P (co, sh, bt, so, pr)).isSome = true))) ∧ M' = B0 :: bkRules 32 nu la me tc ts (Int32.ofNat P) :: B2 :: B3 :: bkRoom 128 32 rd ((sp_sell nu bi P (co, sh, bt, so, pr)).getD (co, sh, bt, so, pr)).2.2.2.2 pv sa pd lo bo ((sp_sell nu bi P (co, sh, bt, so, pr)).getD (co, sh, bt, so, pr)).1 ((sp_sell nu bi P (co, sh, bt, so, pr)).getD (co, sh, bt, so, pr)).2.1 se si er of_ bi ((sp_sell nu bi P (co, sh, bt, so, pr)).getD (co, sh, bt, so, pr)).2.2.1 ((sp_sell nu bi P (co, sh, bt, so, pr)).getD (co, sh, bt, so, pr)).2.2.2.1 :: Bs) := by
  show am_Rn sc 36 (0, [some (.ref 128), none, none, none], [], _) _
  rcases hb : am_fold P (sp_bestB (sp_mayB nu co bi bt) bi) none with _ | b
  · skip
    refine am_Rn.go (t := am_t36) rfl 1 rfl ⟨trivial, trivial⟩ ?_
    refine am_Rn.call (t := am_t36) rfl rfl (sx_buyer_A sc nu la me tc ts P hP ..) ?_
    rintro _ _ ⟨rfl, rfl⟩
    rw [hb]
    refine am_Rn.go (t := am_t36) rfl 3 rfl ⟨trivial, trivial, trivial, trivial⟩ ?_
    refine am_Rn.call (t := am_t36) rfl rfl (sx_seller_A sc _ (fun q h => by cases h) nu la me tc ts P hP ..) ?_
    rintro _ _ ⟨rfl, rfl⟩
    (try rw [hs])
    refine am_Rn.go (t := am_t36) rfl 3 rfl ⟨trivial, trivial, trivial, trivial⟩ ?_
    refine am_Rn.brT (show (-1 : Int32) < 0 by decide) ?_
    refine am_Rn.go (t := am_t36) rfl 1 rfl ⟨trivial, trivial⟩ ?_
    refine am_Rn.ret (t := am_t36) rfl rfl (by first | exact Or.inl rfl | exact Or.inr rfl | exact am_b01 _) ?_
    have hS : (sp_sell nu bi P (co, sh, bt, so, pr)) = none := by
      unfold sp_sell
      simp only [hb]
    rw [hS]
    exact ⟨congrArg (fun z => some (Value.int z)) (am_bF (by decide)).symm, rfl⟩
  · have hb1 : b < 9 := by have := sp_bestB_lt _ _ _ _ hb; omega
    have e2 : (Int32.ofNat b).toNatClampNeg = b := am_tn b (by omega)
    have hb2 : ¬ Int32.ofNat b < 0 := fun h => absurd ((am_lt (i := b) (j := 0) (by omega) (by omega)).mp h) (by omega)
    rcases hs : am_fold P (sp_bestS (sp_mayS nu sh so (some b)) bi) none with _ | s
    · skip
      refine am_Rn.go (t := am_t36) rfl 1 rfl ⟨trivial, trivial⟩ ?_
      refine am_Rn.call (t := am_t36) rfl rfl (sx_buyer_A sc nu la me tc ts P hP ..) ?_
      rintro _ _ ⟨rfl, rfl⟩
      rw [hb]
      refine am_Rn.go (t := am_t36) rfl 3 rfl ⟨trivial, trivial, trivial, trivial⟩ ?_
      refine am_Rn.call (t := am_t36) rfl rfl (sx_seller_A sc _ (fun q h => by cases h; exact hb1) nu la me tc ts P hP ..) ?_
      rintro _ _ ⟨rfl, rfl⟩
      (try rw [hs])
      refine am_Rn.go (t := am_t36) rfl 3 rfl ⟨trivial, trivial, trivial, trivial⟩ ?_
      refine am_Rn.brF hb2 ?_
      refine am_Rn.go (t := am_t36) rfl 2 rfl ⟨trivial, trivial, trivial⟩ ?_
      refine am_Rn.brF (show ¬ (0 : Int32) ≤ -1 by decide) ?_
      refine am_Rn.go (t := am_t36) rfl 1 rfl ⟨trivial, trivial⟩ ?_
      refine am_Rn.ret (t := am_t36) rfl rfl (by first | exact Or.inl rfl | exact Or.inr rfl | exact am_b01 _) ?_
      have hS : (sp_sell nu bi P (co, sh, bt, so, pr)) = none := by
        unfold sp_sell
        simp only [hb, hs]
      rw [hS]
      exact ⟨congrArg (fun z => some (Value.int z)) (am_bF (by decide)).symm, rfl⟩
    · have hs1 : s < 9 := by have := sp_bestS_lt _ _ _ _ hs; omega
      have e3 : (Int32.ofNat s).toNatClampNeg = s := am_tn s (by omega)
      have hs2 : (0 : Int32) ≤ Int32.ofNat s := (am_le (i := 0) (j := s) (by omega) (by omega)).mpr (by omega)
      refine am_Rn.go (t := am_t36) rfl 1 rfl ⟨trivial, trivial⟩ ?_
      refine am_Rn.call (t := am_t36) rfl rfl (sx_buyer_A sc nu la me tc ts P hP ..) ?_
      rintro _ _ ⟨rfl, rfl⟩
      rw [hb]
      refine am_Rn.go (t := am_t36) rfl 3 rfl ⟨trivial, trivial, trivial, trivial⟩ ?_
      refine am_Rn.call (t := am_t36) rfl rfl (sx_seller_A sc _ (fun q h => by cases h; exact hb1) nu la me tc ts P hP ..) ?_
      rintro _ _ ⟨rfl, rfl⟩
      (try rw [hs])
      refine am_Rn.go (t := am_t36) rfl 3 rfl ⟨trivial, trivial, trivial, trivial⟩ ?_
      refine am_Rn.brF hb2 ?_
      refine am_Rn.go (t := am_t36) rfl 2 rfl ⟨trivial, trivial, trivial⟩ ?_
      refine am_Rn.brT hs2 ?_
      refine am_Rn.go (t := am_t36) rfl 13 rfl ⟨trivial, trivial, trivial, (by first | exact am_inb_lit rfl | exact am_inb_of (by omega) (by omega)), trivial, trivial, trivial, trivial, trivial, trivial, (by first | exact am_inb_lit rfl | exact am_inb_of (by omega) (by omega)), trivial, trivial, trivial⟩ ?_
      refine am_Rn.br (fun h3 => ?_) (fun h3 => ?_)
      · skip
        refine am_Rn.go (t := am_t36) rfl 40 rfl ⟨trivial, trivial, trivial, trivial, (by first | exact am_inb_lit rfl | exact am_inb_of (by omega) (by omega)), trivial, trivial, trivial, (by decide), trivial, trivial, trivial, trivial, trivial, (by first | exact am_inb_lit rfl | exact am_inb_of (by omega) (by omega)), trivial, trivial, trivial, trivial, trivial, trivial, (by first | exact am_inb_lit rfl | exact am_inb_of (by omega) (by omega)), trivial, trivial, (by first | exact am_inb_lit rfl | exact am_inb_of (by omega) (by omega)), trivial, trivial, trivial, trivial, (by first | exact am_inb_lit rfl | exact am_inb_of (by omega) (by omega)), trivial, trivial, trivial, (by first | exact am_inb_lit rfl | exact am_inb_of (by omega) (by omega)), trivial, trivial, trivial, trivial, (by first | exact am_inb_lit rfl | exact am_inb_of (by omega) (by omega)), trivial, trivial⟩ ?_
        refine am_Rn.go (t := am_t36) rfl 27 rfl ⟨trivial, (by first | exact am_inb_lit rfl | exact am_inb_of (by omega) (by omega)), trivial, trivial, trivial, trivial, (by first | exact am_inb_lit rfl | exact am_inb_of (by omega) (by omega)), trivial, trivial, (by first | exact am_inb_lit rfl | exact am_inb_of (by omega) (by omega)), trivial, trivial, trivial, trivial, (by first | exact am_inb_lit rfl | exact am_inb_of (by omega) (by omega)), trivial, trivial, (by first | exact am_inb_lit rfl | exact am_inb_of (by omega) (by omega)), trivial, trivial, trivial, trivial, (by first | exact am_inb_lit rfl | exact am_inb_of (by omega) (by omega)), trivial, trivial, (by first | exact am_inb_lit rfl | exact am_inb_of (by omega) (by omega)), trivial, trivial⟩ ?_
        refine am_Rn.ret (t := am_t36) rfl rfl (by first | exact Or.inl rfl | exact Or.inr rfl | exact am_b01 _) ?_
        (try simp only [e2, e3, am_on, Int32.reduceToNatClampNeg] at *)
        have hS : (sp_sell nu bi P (co, sh, bt, so, pr)) = some (sp_deal nu bi b s (co, sh, bt, so, pr)) := by
          unfold sp_sell
          simp only [hb, hs]
          rw [if_pos (by assumption)]
        rw [hS]
        exact ⟨congrArg (fun z => some (Value.int z)) (am_bT rfl).symm, rfl⟩
      · skip
        refine am_Rn.go (t := am_t36) rfl 1 rfl ⟨trivial, trivial⟩ ?_
        refine am_Rn.ret (t := am_t36) rfl rfl (by first | exact Or.inl rfl | exact Or.inr rfl | exact am_b01 _) ?_
        (try simp only [e2, e3, am_on, Int32.reduceToNatClampNeg] at *)
        have hS : (sp_sell nu bi P (co, sh, bt, so, pr)) = none := by
          unfold sp_sell
          simp only [hb, hs]
          rw [if_neg (by assumption)]
        rw [hS]
        exact ⟨congrArg (fun z => some (Value.int z)) (am_bF (by decide)).symm, rfl⟩
theorem sx_countSaid_A (sc : am_Sc) (nu la me tc ts : Nat → Int32) (P : Nat) (hP : P ≤ 9) (rd pr pv sa pd lo : Int32) (bo co sh se si er of_ bi bt so : Nat → Int32) (B0 B2 B3 : List am_E) (Bs : am_M) : am_Rn sc 40 (0, am_entry 40 [.ref 128], [], B0 :: bkRules 32 nu la me tc ts (Int32.ofNat P) :: B2 :: B3 :: bkRoom 128 32 rd pr pv sa pd lo bo co sh se si er of_ bi bt so :: Bs) (fun r M' => r = none ∧ M' = B0 :: bkRules 32 nu la me tc ts (Int32.ofNat P) :: B2 :: B3 :: bkRoom 128 32 rd pr pv sa pd lo bo co sh se (am_fold P (sp_saidOne pr) (si, er, of_)).1 (am_fold P (sp_saidOne pr) (si, er, of_)).2.1 (am_fold P (sp_saidOne pr) (si, er, of_)).2.2 bi bt so :: Bs) := by
  show am_Rn sc 40 (0, [some (.ref 128), none], [], _) _
  have L : ∀ (d i : Nat), i + d = P → am_Rn sc 40 (2, [some (.ref 128), some (.int (Int32.ofNat i))], [], B0 :: bkRules 32 nu la me tc ts (Int32.ofNat P) :: B2 :: B3 :: bkRoom 128 32 rd pr pv sa pd lo bo co sh se (am_fold i (sp_saidOne pr) (si, er, of_)).1 (am_fold i (sp_saidOne pr) (si, er, of_)).2.1 (am_fold i (sp_saidOne pr) (si, er, of_)).2.2 bi bt so :: Bs) (fun r M' => r = none ∧ M' = B0 :: bkRules 32 nu la me tc ts (Int32.ofNat P) :: B2 :: B3 :: bkRoom 128 32 rd pr pv sa pd lo bo co sh se (am_fold P (sp_saidOne pr) (si, er, of_)).1 (am_fold P (sp_saidOne pr) (si, er, of_)).2.1 (am_fold P (sp_saidOne pr) (si, er, of_)).2.2 bi bt so :: Bs) := by
    intro d
    induction d with
    | zero =>
      intro i  hi
      obtain rfl : i = P := by omega
      refine am_Rn.go (t := am_t40) rfl 5 rfl ⟨trivial, trivial, trivial, trivial, trivial, trivial⟩ ?_
      refine am_Rn.brT (by first | exact (am_le (by omega) (by omega)).mpr (Nat.le_refl _) | exact fun q => absurd ((am_lt (by omega) (by omega)).mp q) (Nat.lt_irrefl _) | decide) ?_
      refine am_Rn.ret (t := am_t40) rfl rfl trivial ?_
      exact ⟨rfl, rfl⟩
    | succ d ih =>
      intro i  hi
      have hiP : i < P := by omega
      have e1 : (Int32.ofNat i).toNatClampNeg = i := am_tn i (by omega)
      refine am_Rn.go (t := am_t40) rfl 5 rfl ⟨trivial, trivial, trivial, trivial, trivial, trivial⟩ ?_
      refine am_Rn.brF (by first | exact fun q => absurd ((am_le (by omega) (by omega)).mp q) (by omega) | exact fun q => absurd ((am_le (i := 9) (by omega) (by omega)).mp q) (by omega) | exact fun q => absurd ((am_le (i := 10) (by omega) (by omega)).mp q) (by omega) | exact (am_lt (by omega) (by omega)).mpr hiP) ?_
      refine am_Rn.go (t := am_t40) rfl 6 rfl ⟨trivial, trivial, trivial, (by first | exact am_inb_lit rfl | exact am_inb_of (by omega) (by omega)), trivial, trivial, trivial⟩ ?_
      refine am_Rn.br (fun h2 => ?_) (fun h2 => ?_)
      · skip
        refine am_Rn.go (t := am_t40) rfl 2 rfl ⟨trivial, trivial, trivial⟩ ?_
        have g := ih (i + 1) (by omega)
        rw [am_fold_succ, ← am_inc] at g
        generalize hX : (am_fold i (sp_saidOne pr) (si, er, of_)) = X at *
        simp only [e1] at *
        first
          | (rw [show sp_saidOne pr i X = X from if_pos (by assumption)] at g; exact g)
          | (rw [show sp_saidOne pr i X = _ from if_neg (by assumption)] at g; exact g)
      · skip
        refine am_Rn.go (t := am_t40) rfl 30 rfl ⟨trivial, trivial, trivial, trivial, (by first | exact am_inb_lit rfl | exact am_inb_of (by omega) (by omega)), trivial, trivial, trivial, trivial, trivial, (by first | exact am_inb_lit rfl | exact am_inb_of (by omega) (by omega)), trivial, trivial, trivial, (by first | exact am_inb_lit rfl | exact am_inb_of (by omega) (by omega)), trivial, trivial, trivial, trivial, (by first | exact am_inb_lit rfl | exact am_inb_of (by omega) (by omega)), trivial, trivial, (by first | exact am_inb_lit rfl | exact am_inb_of (by omega) (by omega)), trivial, trivial, trivial, trivial, (by first | exact am_inb_lit rfl | exact am_inb_of (by omega) (by omega)), trivial, trivial, trivial⟩ ?_
        have g := ih (i + 1) (by omega)
        rw [am_fold_succ, ← am_inc] at g
        generalize hX : (am_fold i (sp_saidOne pr) (si, er, of_)) = X at *
        simp only [e1] at *
        first
          | (rw [show sp_saidOne pr i X = X from if_pos (by assumption)] at g; exact g)
          | (rw [show sp_saidOne pr i X = _ from if_neg (by assumption)] at g; exact g)
  refine am_Rn.go (t := am_t40) rfl 2 rfl ⟨trivial, trivial, trivial⟩ ?_
  exact L P 0 (by omega)
theorem sx_sellOne_B (sc : am_Sc) (nu la me tc ts : Nat → Int32) (P : Nat) (hP : P ≤ 9) (rd pr pv sa pd lo : Int32) (bo co sh se si er of_ bi bt so : Nat → Int32) (B0 B1 B2 B3 B4 : List am_E) (Bs : am_M) : am_Rn sc 36 (0, am_entry 36 [.ref 192], [], B0 :: B1 :: B2 :: B3 :: B4 :: bkRules 160 nu la me tc ts (Int32.ofNat P) :: bkRoom 192 160 rd pr pv sa pd lo bo co sh se si er of_ bi bt so :: Bs) (fun r M' => r = some (.int (am_b ((sp_sell nu bi P (co, sh, bt, so, pr)).isSome = true))) ∧ M' = B0 :: B1 :: B2 :: B3 :: B4 :: bkRules 160 nu la me tc ts (Int32.ofNat P) :: bkRoom 192 160 rd ((sp_sell nu bi P (co, sh, bt, so, pr)).getD (co, sh, bt, so, pr)).2.2.2.2 pv sa pd lo bo ((sp_sell nu bi P (co, sh, bt, so, pr)).getD (co, sh, bt, so, pr)).1 ((sp_sell nu bi P (co, sh, bt, so, pr)).getD (co, sh, bt, so, pr)).2.1 se si er of_ bi ((sp_sell nu bi P (co, sh, bt, so, pr)).getD (co, sh, bt, so, pr)).2.2.1 ((sp_sell nu bi P (co, sh, bt, so, pr)).getD (co, sh, bt, so, pr)).2.2.2.1 :: Bs) := by
  show am_Rn sc 36 (0, [some (.ref 192), none, none, none], [], _) _
  rcases hb : am_fold P (sp_bestB (sp_mayB nu co bi bt) bi) none with _ | b
  · skip
    refine am_Rn.go (t := am_t36) rfl 1 rfl ⟨trivial, trivial⟩ ?_
    refine am_Rn.call (t := am_t36) rfl rfl (sx_buyer_B sc nu la me tc ts P hP ..) ?_
    rintro _ _ ⟨rfl, rfl⟩
    rw [hb]
    refine am_Rn.go (t := am_t36) rfl 3 rfl ⟨trivial, trivial, trivial, trivial⟩ ?_
    refine am_Rn.call (t := am_t36) rfl rfl (sx_seller_B sc _ (fun q h => by cases h) nu la me tc ts P hP ..) ?_
    rintro _ _ ⟨rfl, rfl⟩
    (try rw [hs])
    refine am_Rn.go (t := am_t36) rfl 3 rfl ⟨trivial, trivial, trivial, trivial⟩ ?_
    refine am_Rn.brT (show (-1 : Int32) < 0 by decide) ?_
    refine am_Rn.go (t := am_t36) rfl 1 rfl ⟨trivial, trivial⟩ ?_
    refine am_Rn.ret (t := am_t36) rfl rfl (by first | exact Or.inl rfl | exact Or.inr rfl | exact am_b01 _) ?_
    have hS : (sp_sell nu bi P (co, sh, bt, so, pr)) = none := by
      unfold sp_sell
      simp only [hb]
    rw [hS]
    exact ⟨congrArg (fun z => some (Value.int z)) (am_bF (by decide)).symm, rfl⟩
  · have hb1 : b < 9 := by have := sp_bestB_lt _ _ _ _ hb; omega
    have e2 : (Int32.ofNat b).toNatClampNeg = b := am_tn b (by omega)
    have hb2 : ¬ Int32.ofNat b < 0 := fun h => absurd ((am_lt (i := b) (j := 0) (by omega) (by omega)).mp h) (by omega)
    rcases hs : am_fold P (sp_bestS (sp_mayS nu sh so (some b)) bi) none with _ | s
    · skip
      refine am_Rn.go (t := am_t36) rfl 1 rfl ⟨trivial, trivial⟩ ?_
      refine am_Rn.call (t := am_t36) rfl rfl (sx_buyer_B sc nu la me tc ts P hP ..) ?_
      rintro _ _ ⟨rfl, rfl⟩
      rw [hb]
      refine am_Rn.go (t := am_t36) rfl 3 rfl ⟨trivial, trivial, trivial, trivial⟩ ?_
      refine am_Rn.call (t := am_t36) rfl rfl (sx_seller_B sc _ (fun q h => by cases h; exact hb1) nu la me tc ts P hP ..) ?_
      rintro _ _ ⟨rfl, rfl⟩
      (try rw [hs])
      refine am_Rn.go (t := am_t36) rfl 3 rfl ⟨trivial, trivial, trivial, trivial⟩ ?_
      refine am_Rn.brF hb2 ?_
      refine am_Rn.go (t := am_t36) rfl 2 rfl ⟨trivial, trivial, trivial⟩ ?_
      refine am_Rn.brF (show ¬ (0 : Int32) ≤ -1 by decide) ?_
      refine am_Rn.go (t := am_t36) rfl 1 rfl ⟨trivial, trivial⟩ ?_
      refine am_Rn.ret (t := am_t36) rfl rfl (by first | exact Or.inl rfl | exact Or.inr rfl | exact am_b01 _) ?_
      have hS : (sp_sell nu bi P (co, sh, bt, so, pr)) = none := by
        unfold sp_sell
        simp only [hb, hs]
      rw [hS]
      exact ⟨congrArg (fun z => some (Value.int z)) (am_bF (by decide)).symm, rfl⟩
    · have hs1 : s < 9 := by have := sp_bestS_lt _ _ _ _ hs; omega
      have e3 : (Int32.ofNat s).toNatClampNeg = s := am_tn s (by omega)
      have hs2 : (0 : Int32) ≤ Int32.ofNat s := (am_le (i := 0) (j := s) (by omega) (by omega)).mpr (by omega)
      refine am_Rn.go (t := am_t36) rfl 1 rfl ⟨trivial, trivial⟩ ?_
      refine am_Rn.call (t := am_t36) rfl rfl (sx_buyer_B sc nu la me tc ts P hP ..) ?_
      rintro _ _ ⟨rfl, rfl⟩
      rw [hb]
      refine am_Rn.go (t := am_t36) rfl 3 rfl ⟨trivial, trivial, trivial, trivial⟩ ?_
      refine am_Rn.call (t := am_t36) rfl rfl (sx_seller_B sc _ (fun q h => by cases h; exact hb1) nu la me tc ts P hP ..) ?_
      rintro _ _ ⟨rfl, rfl⟩
      (try rw [hs])
      refine am_Rn.go (t := am_t36) rfl 3 rfl ⟨trivial, trivial, trivial, trivial⟩ ?_
      refine am_Rn.brF hb2 ?_
      refine am_Rn.go (t := am_t36) rfl 2 rfl ⟨trivial, trivial, trivial⟩ ?_
      refine am_Rn.brT hs2 ?_
      refine am_Rn.go (t := am_t36) rfl 13 rfl ⟨trivial, trivial, trivial, (by first | exact am_inb_lit rfl | exact am_inb_of (by omega) (by omega)), trivial, trivial, trivial, trivial, trivial, trivial, (by first | exact am_inb_lit rfl | exact am_inb_of (by omega) (by omega)), trivial, trivial, trivial⟩ ?_
      refine am_Rn.br (fun h3 => ?_) (fun h3 => ?_)
      · skip
        refine am_Rn.go (t := am_t36) rfl 40 rfl ⟨trivial, trivial, trivial, trivial, (by first | exact am_inb_lit rfl | exact am_inb_of (by omega) (by omega)), trivial, trivial, trivial, (by decide), trivial, trivial, trivial, trivial, trivial, (by first | exact am_inb_lit rfl | exact am_inb_of (by omega) (by omega)), trivial, trivial, trivial, trivial, trivial, trivial, (by first | exact am_inb_lit rfl | exact am_inb_of (by omega) (by omega)), trivial, trivial, (by first | exact am_inb_lit rfl | exact am_inb_of (by omega) (by omega)), trivial, trivial, trivial, trivial, (by first | exact am_inb_lit rfl | exact am_inb_of (by omega) (by omega)), trivial, trivial, trivial, (by first | exact am_inb_lit rfl | exact am_inb_of (by omega) (by omega)), trivial, trivial, trivial, trivial, (by first | exact am_inb_lit rfl | exact am_inb_of (by omega) (by omega)), trivial, trivial⟩ ?_
        refine am_Rn.go (t := am_t36) rfl 27 rfl ⟨trivial, (by first | exact am_inb_lit rfl | exact am_inb_of (by omega) (by omega)), trivial, trivial, trivial, trivial, (by first | exact am_inb_lit rfl | exact am_inb_of (by omega) (by omega)), trivial, trivial, (by first | exact am_inb_lit rfl | exact am_inb_of (by omega) (by omega)), trivial, trivial, trivial, trivial, (by first | exact am_inb_lit rfl | exact am_inb_of (by omega) (by omega)), trivial, trivial, (by first | exact am_inb_lit rfl | exact am_inb_of (by omega) (by omega)), trivial, trivial, trivial, trivial, (by first | exact am_inb_lit rfl | exact am_inb_of (by omega) (by omega)), trivial, trivial, (by first | exact am_inb_lit rfl | exact am_inb_of (by omega) (by omega)), trivial, trivial⟩ ?_
        refine am_Rn.ret (t := am_t36) rfl rfl (by first | exact Or.inl rfl | exact Or.inr rfl | exact am_b01 _) ?_
        (try simp only [e2, e3, am_on, Int32.reduceToNatClampNeg] at *)
        have hS : (sp_sell nu bi P (co, sh, bt, so, pr)) = some (sp_deal nu bi b s (co, sh, bt, so, pr)) := by
          unfold sp_sell
          simp only [hb, hs]
          rw [if_pos (by assumption)]
        rw [hS]
        exact ⟨congrArg (fun z => some (Value.int z)) (am_bT rfl).symm, rfl⟩
      · skip
        refine am_Rn.go (t := am_t36) rfl 1 rfl ⟨trivial, trivial⟩ ?_
        refine am_Rn.ret (t := am_t36) rfl rfl (by first | exact Or.inl rfl | exact Or.inr rfl | exact am_b01 _) ?_
        (try simp only [e2, e3, am_on, Int32.reduceToNatClampNeg] at *)
        have hS : (sp_sell nu bi P (co, sh, bt, so, pr)) = none := by
          unfold sp_sell
          simp only [hb, hs]
          rw [if_neg (by assumption)]
        rw [hS]
        exact ⟨congrArg (fun z => some (Value.int z)) (am_bF (by decide)).symm, rfl⟩
theorem sx_countSaid_B (sc : am_Sc) (nu la me tc ts : Nat → Int32) (P : Nat) (hP : P ≤ 9) (rd pr pv sa pd lo : Int32) (bo co sh se si er of_ bi bt so : Nat → Int32) (B0 B1 B2 B3 B4 : List am_E) (Bs : am_M) : am_Rn sc 40 (0, am_entry 40 [.ref 192], [], B0 :: B1 :: B2 :: B3 :: B4 :: bkRules 160 nu la me tc ts (Int32.ofNat P) :: bkRoom 192 160 rd pr pv sa pd lo bo co sh se si er of_ bi bt so :: Bs) (fun r M' => r = none ∧ M' = B0 :: B1 :: B2 :: B3 :: B4 :: bkRules 160 nu la me tc ts (Int32.ofNat P) :: bkRoom 192 160 rd pr pv sa pd lo bo co sh se (am_fold P (sp_saidOne pr) (si, er, of_)).1 (am_fold P (sp_saidOne pr) (si, er, of_)).2.1 (am_fold P (sp_saidOne pr) (si, er, of_)).2.2 bi bt so :: Bs) := by
  show am_Rn sc 40 (0, [some (.ref 192), none], [], _) _
  have L : ∀ (d i : Nat), i + d = P → am_Rn sc 40 (2, [some (.ref 192), some (.int (Int32.ofNat i))], [], B0 :: B1 :: B2 :: B3 :: B4 :: bkRules 160 nu la me tc ts (Int32.ofNat P) :: bkRoom 192 160 rd pr pv sa pd lo bo co sh se (am_fold i (sp_saidOne pr) (si, er, of_)).1 (am_fold i (sp_saidOne pr) (si, er, of_)).2.1 (am_fold i (sp_saidOne pr) (si, er, of_)).2.2 bi bt so :: Bs) (fun r M' => r = none ∧ M' = B0 :: B1 :: B2 :: B3 :: B4 :: bkRules 160 nu la me tc ts (Int32.ofNat P) :: bkRoom 192 160 rd pr pv sa pd lo bo co sh se (am_fold P (sp_saidOne pr) (si, er, of_)).1 (am_fold P (sp_saidOne pr) (si, er, of_)).2.1 (am_fold P (sp_saidOne pr) (si, er, of_)).2.2 bi bt so :: Bs) := by
    intro d
    induction d with
    | zero =>
      intro i  hi
      obtain rfl : i = P := by omega
      refine am_Rn.go (t := am_t40) rfl 5 rfl ⟨trivial, trivial, trivial, trivial, trivial, trivial⟩ ?_
      refine am_Rn.brT (by first | exact (am_le (by omega) (by omega)).mpr (Nat.le_refl _) | exact fun q => absurd ((am_lt (by omega) (by omega)).mp q) (Nat.lt_irrefl _) | decide) ?_
      refine am_Rn.ret (t := am_t40) rfl rfl trivial ?_
      exact ⟨rfl, rfl⟩
    | succ d ih =>
      intro i  hi
      have hiP : i < P := by omega
      have e1 : (Int32.ofNat i).toNatClampNeg = i := am_tn i (by omega)
      refine am_Rn.go (t := am_t40) rfl 5 rfl ⟨trivial, trivial, trivial, trivial, trivial, trivial⟩ ?_
      refine am_Rn.brF (by first | exact fun q => absurd ((am_le (by omega) (by omega)).mp q) (by omega) | exact fun q => absurd ((am_le (i := 9) (by omega) (by omega)).mp q) (by omega) | exact fun q => absurd ((am_le (i := 10) (by omega) (by omega)).mp q) (by omega) | exact (am_lt (by omega) (by omega)).mpr hiP) ?_
      refine am_Rn.go (t := am_t40) rfl 6 rfl ⟨trivial, trivial, trivial, (by first | exact am_inb_lit rfl | exact am_inb_of (by omega) (by omega)), trivial, trivial, trivial⟩ ?_
      refine am_Rn.br (fun h2 => ?_) (fun h2 => ?_)
      · skip
        refine am_Rn.go (t := am_t40) rfl 2 rfl ⟨trivial, trivial, trivial⟩ ?_
        have g := ih (i + 1) (by omega)
        rw [am_fold_succ, ← am_inc] at g
        generalize hX : (am_fold i (sp_saidOne pr) (si, er, of_)) = X at *
        simp only [e1] at *
        first
          | (rw [show sp_saidOne pr i X = X from if_pos (by assumption)] at g; exact g)
          | (rw [show sp_saidOne pr i X = _ from if_neg (by assumption)] at g; exact g)
      · skip
        refine am_Rn.go (t := am_t40) rfl 30 rfl ⟨trivial, trivial, trivial, trivial, (by first | exact am_inb_lit rfl | exact am_inb_of (by omega) (by omega)), trivial, trivial, trivial, trivial, trivial, (by first | exact am_inb_lit rfl | exact am_inb_of (by omega) (by omega)), trivial, trivial, trivial, (by first | exact am_inb_lit rfl | exact am_inb_of (by omega) (by omega)), trivial, trivial, trivial, trivial, (by first | exact am_inb_lit rfl | exact am_inb_of (by omega) (by omega)), trivial, trivial, (by first | exact am_inb_lit rfl | exact am_inb_of (by omega) (by omega)), trivial, trivial, trivial, trivial, (by first | exact am_inb_lit rfl | exact am_inb_of (by omega) (by omega)), trivial, trivial, trivial⟩ ?_
        have g := ih (i + 1) (by omega)
        rw [am_fold_succ, ← am_inc] at g
        generalize hX : (am_fold i (sp_saidOne pr) (si, er, of_)) = X at *
        simp only [e1] at *
        first
          | (rw [show sp_saidOne pr i X = X from if_pos (by assumption)] at g; exact g)
          | (rw [show sp_saidOne pr i X = _ from if_neg (by assumption)] at g; exact g)
  refine am_Rn.go (t := am_t40) rfl 2 rfl ⟨trivial, trivial, trivial⟩ ?_
  exact L P 0 (by omega)
