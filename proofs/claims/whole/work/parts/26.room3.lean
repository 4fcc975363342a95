set_option maxHeartbeats 4000000 in
theorem sx_playRound_A (sc : am_Sc) (nu la me tc ts : Nat → Int32) (P : Nat) (hP : P ≤ 9) (N S rn : Nat) (hN : N ≤ 20) (h0 : nu 0 = Int32.ofNat N) (hS : S ≤ 9) (h9 : nu 9 = Int32.ofNat S) (hr : rn < 20) (pr pv sa pd lo : Int32) (bo co sh se si er of_ bi bt so : Nat → Int32) (B0 B2 B3 : List am_E) (Bs : am_M) : am_Rn sc 35 (0, am_entry 35 [.ref 128], [], B0 :: bkRules 32 nu la me tc ts (Int32.ofNat P) :: B2 :: B3 :: bkRoom 128 32 (Int32.ofNat rn) pr pv sa pd lo bo co sh se si er of_ bi bt so :: Bs) (fun r M' => r = none ∧ M' = B0 :: bkRules 32 nu la me tc ts (Int32.ofNat P) :: B2 :: B3 :: bkRoomT 128 32 (sp_round nu la me P N S rn (Int32.ofNat rn, pr, pv, sa, pd, lo, bo, co, sh, se, si, er, of_, bi, bt, so)) :: Bs) := by
  show am_Rn sc 35 (0, [some (.ref 128), none], [], _) _
  have e0 : (Int32.ofNat rn).toNatClampNeg = rn := am_tn rn (by omega)
  have L3 : ∀ (cnt : Nat) (bi : Nat → Int32) (pv : Int32) (co sh bt so : Nat → Int32) (pr : Int32), am_Rn sc 35 (44, [some (.ref 128), some (.int (Int32.ofNat cnt))], [], B0 :: bkRules 32 nu la me tc ts (Int32.ofNat P) :: B2 :: B3 :: bkRoom 128 32 (Int32.ofNat rn) pr pv sa pd lo bo co sh se si er of_ bi bt so :: Bs) (fun r M' => r = none ∧ M' = B0 :: bkRules 32 nu la me tc ts (Int32.ofNat P) :: B2 :: B3 :: bkRoomT 128 32 (sp_tail nu P N rn pv sa pd lo bo se si er of_ bi cnt (co, sh, bt, so, pr)) :: Bs) := by
    intro cnt bi pv co sh bt so pr
    refine am_Rn.go (t := am_t35) rfl 22 rfl ⟨trivial, trivial, trivial, trivial, trivial, trivial, trivial, trivial, trivial, trivial, trivial, trivial, trivial, trivial, trivial, trivial, trivial, trivial, trivial, trivial, trivial, trivial, trivial⟩ ?_
    refine am_Rn.br (fun h1 => ?_) (fun h1 => ?_)
    · skip
      have hd : sp_die nu (sp_lot lo) = nu 1 := if_pos h1
      refine am_Rn.go (t := am_t35) rfl 6 rfl ⟨trivial, trivial, trivial, trivial, (by first | exact am_inb_lit rfl | exact am_inb_of (by omega) (by omega)), trivial, trivial⟩ ?_
      refine am_Rn.call (t := am_t35) rfl rfl (sx_payEach_A sc _ nu la me tc ts P hP ..) ?_
      rintro _ _ ⟨rfl, rfl⟩
      refine am_Rn.go (t := am_t35) rfl 1 rfl ⟨trivial, trivial⟩ ?_
      refine am_Rn.call (t := am_t35) rfl rfl (sx_countSaid_A sc nu la me tc ts P hP ..) ?_
      rintro _ _ ⟨rfl, rfl⟩
      refine am_Rn.go (t := am_t35) rfl 4 rfl ⟨trivial, trivial, trivial, trivial, trivial⟩ ?_
      refine am_Rn.brF (fun q => by have := (am_le (i := 20) (j := rn) (by omega) (by omega)).mp q; omega) ?_
      refine am_Rn.go (t := am_t35) rfl 14 rfl ⟨trivial, trivial, trivial, trivial, trivial, trivial, (by first | exact am_inb_lit rfl | exact am_inb_of (by omega) (by omega)), trivial, trivial, trivial, trivial, trivial, trivial, trivial, trivial⟩ ?_
      refine am_Rn.call (t := am_t35) rfl rfl (sx_isOver_A ..) ?_
      rintro _ _ ⟨rfl, rfl⟩
      refine am_Rn.go (t := am_t35) rfl 1 rfl ⟨trivial, trivial⟩ ?_
      refine am_Rn.brB (fun h3 => ?_) (fun h3 => ?_)
      · skip
        have hov : ¬ N ≤ rn + 1 := fun q => h3 (Or.inl (by rw [h0, am_inc]; exact (am_le (by omega) (by omega)).mpr q))
        refine am_Rn.ret (t := am_t35) rfl rfl trivial ?_
        refine ⟨rfl, ?_⟩
        (try simp only [e0, Int32.reduceToNatClampNeg] at *)
        unfold sp_tail
        dsimp only
        rw [hd]
        first | rw [if_pos hov] | rw [if_neg hov]
        rfl
      · skip
        have hov : N ≤ rn + 1 := h3.elim (fun q => by rw [h0, am_inc] at q; exact (am_le (by omega) (by omega)).mp q) (fun q => by rw [am_inc] at q; have := (am_le (i := 20) (j := rn + 1) (by omega) (by omega)).mp q; omega)
        refine am_Rn.go (t := am_t35) rfl 6 rfl ⟨trivial, trivial, trivial, trivial, trivial, (by first | exact am_inb_lit rfl | exact am_inb_of (by omega) (by omega)), trivial⟩ ?_
        refine am_Rn.call (t := am_t35) rfl rfl (sx_payEach_A sc _ nu la me tc ts P hP ..) ?_
        rintro _ _ ⟨rfl, rfl⟩
        refine am_Rn.ret (t := am_t35) rfl rfl trivial ?_
        refine ⟨rfl, ?_⟩
        (try simp only [e0, Int32.reduceToNatClampNeg] at *)
        unfold sp_tail
        dsimp only
        rw [hd]
        first | rw [if_pos hov] | rw [if_neg hov]
        rfl
    · skip
      have hd : sp_die nu (sp_lot lo) = nu 2 := if_neg h1
      refine am_Rn.go (t := am_t35) rfl 5 rfl ⟨trivial, trivial, trivial, trivial, (by first | exact am_inb_lit rfl | exact am_inb_of (by omega) (by omega)), trivial⟩ ?_
      refine am_Rn.call (t := am_t35) rfl rfl (sx_payEach_A sc _ nu la me tc ts P hP ..) ?_
      rintro _ _ ⟨rfl, rfl⟩
      refine am_Rn.go (t := am_t35) rfl 1 rfl ⟨trivial, trivial⟩ ?_
      refine am_Rn.call (t := am_t35) rfl rfl (sx_countSaid_A sc nu la me tc ts P hP ..) ?_
      rintro _ _ ⟨rfl, rfl⟩
      refine am_Rn.go (t := am_t35) rfl 4 rfl ⟨trivial, trivial, trivial, trivial, trivial⟩ ?_
      refine am_Rn.brF (fun q => by have := (am_le (i := 20) (j := rn) (by omega) (by omega)).mp q; omega) ?_
      refine am_Rn.go (t := am_t35) rfl 14 rfl ⟨trivial, trivial, trivial, trivial, trivial, trivial, (by first | exact am_inb_lit rfl | exact am_inb_of (by omega) (by omega)), trivial, trivial, trivial, trivial, trivial, trivial, trivial, trivial⟩ ?_
      refine am_Rn.call (t := am_t35) rfl rfl (sx_isOver_A ..) ?_
      rintro _ _ ⟨rfl, rfl⟩
      refine am_Rn.go (t := am_t35) rfl 1 rfl ⟨trivial, trivial⟩ ?_
      refine am_Rn.brB (fun h5 => ?_) (fun h5 => ?_)
      · skip
        have hov : ¬ N ≤ rn + 1 := fun q => h5 (Or.inl (by rw [h0, am_inc]; exact (am_le (by omega) (by omega)).mpr q))
        refine am_Rn.ret (t := am_t35) rfl rfl trivial ?_
        refine ⟨rfl, ?_⟩
        (try simp only [e0, Int32.reduceToNatClampNeg] at *)
        unfold sp_tail
        dsimp only
        rw [hd]
        first | rw [if_pos hov] | rw [if_neg hov]
        rfl
      · skip
        have hov : N ≤ rn + 1 := h5.elim (fun q => by rw [h0, am_inc] at q; exact (am_le (by omega) (by omega)).mp q) (fun q => by rw [am_inc] at q; have := (am_le (i := 20) (j := rn + 1) (by omega) (by omega)).mp q; omega)
        refine am_Rn.go (t := am_t35) rfl 6 rfl ⟨trivial, trivial, trivial, trivial, trivial, (by first | exact am_inb_lit rfl | exact am_inb_of (by omega) (by omega)), trivial⟩ ?_
        refine am_Rn.call (t := am_t35) rfl rfl (sx_payEach_A sc _ nu la me tc ts P hP ..) ?_
        rintro _ _ ⟨rfl, rfl⟩
        refine am_Rn.ret (t := am_t35) rfl rfl trivial ?_
        refine ⟨rfl, ?_⟩
        (try simp only [e0, Int32.reduceToNatClampNeg] at *)
        unfold sp_tail
        dsimp only
        rw [hd]
        first | rw [if_pos hov] | rw [if_neg hov]
        rfl
  have L2 : ∀ (bi : Nat → Int32) (pv : Int32) (k n : Nat) (co sh bt so : Nat → Int32) (pr : Int32), n + k = S → am_Rn sc 35 (32, [some (.ref 128), some (.int (Int32.ofNat n))], [], B0 :: bkRules 32 nu la me tc ts (Int32.ofNat P) :: B2 :: B3 :: bkRoom 128 32 (Int32.ofNat rn) pr pv sa pd lo bo co sh se si er of_ bi bt so :: Bs) (fun r M' => r = none ∧ M' = B0 :: bkRules 32 nu la me tc ts (Int32.ofNat P) :: B2 :: B3 :: bkRoomT 128 32 (sp_tail nu P N rn pv sa pd lo bo se si er of_ bi (n + (sp_sells nu bi P k (co, sh, bt, so, pr)).1) (sp_sells nu bi P k (co, sh, bt, so, pr)).2) :: Bs) := by
    intro bi pv k
    induction k with
    | zero =>
      intro n co sh bt so pr hn
      obtain rfl : n = S := by omega
      refine am_Rn.go (t := am_t35) rfl 7 rfl ⟨trivial, trivial, trivial, trivial, trivial, (by first | exact am_inb_lit rfl | exact am_inb_of (by omega) (by omega)), trivial, trivial⟩ ?_
      refine am_Rn.brT (by rw [show nu (Int32.toNatClampNeg 9) = nu 9 from rfl, h9]; exact (am_le (by omega) (by omega)).mpr (Nat.le_refl _)) ?_
      exact L3 n bi pv co sh bt so pr
    | succ k ih =>
      intro n co sh bt so pr hn
      have hnb : ¬ nu 9 ≤ Int32.ofNat n := fun q => by rw [h9] at q; have := (am_le (by omega) (by omega)).mp q; omega
      rcases hX : sp_sell nu bi P (co, sh, bt, so, pr) with _ | X1
      · have hZ : (sp_sells nu bi P (k + 1) (co, sh, bt, so, pr)) = (0, (co, sh, bt, so, pr)) := by simp only [sp_sells, hX]
        rw [hZ]
        refine am_Rn.go (t := am_t35) rfl 7 rfl ⟨trivial, trivial, trivial, trivial, trivial, (by first | exact am_inb_lit rfl | exact am_inb_of (by omega) (by omega)), trivial, trivial⟩ ?_
        refine am_Rn.brF hnb ?_
        refine am_Rn.go (t := am_t35) rfl 1 rfl ⟨trivial, trivial⟩ ?_
        refine am_Rn.call (t := am_t35) rfl rfl (sx_sellOne_A sc nu la me tc ts P hP ..) ?_
        rintro _ _ ⟨rfl, rfl⟩
        rw [hX]
        refine am_Rn.go (t := am_t35) rfl 1 rfl ⟨trivial, trivial⟩ ?_
        refine am_Rn.brT (am_b0.mpr (by decide)) ?_
        exact L3 n bi pv co sh bt so pr
      · obtain ⟨co1, sh1, bt1, so1, pr1⟩ := X1
        have hZ : (sp_sells nu bi P (k + 1) (co, sh, bt, so, pr)) = ((sp_sells nu bi P k (co1, sh1, bt1, so1, pr1)).1 + 1, (sp_sells nu bi P k (co1, sh1, bt1, so1, pr1)).2) := by simp only [sp_sells, hX]
        rw [hZ]
        refine am_Rn.go (t := am_t35) rfl 7 rfl ⟨trivial, trivial, trivial, trivial, trivial, (by first | exact am_inb_lit rfl | exact am_inb_of (by omega) (by omega)), trivial, trivial⟩ ?_
        refine am_Rn.brF hnb ?_
        refine am_Rn.go (t := am_t35) rfl 1 rfl ⟨trivial, trivial⟩ ?_
        refine am_Rn.call (t := am_t35) rfl rfl (sx_sellOne_A sc nu la me tc ts P hP ..) ?_
        rintro _ _ ⟨rfl, rfl⟩
        rw [hX]
        refine am_Rn.go (t := am_t35) rfl 1 rfl ⟨trivial, trivial⟩ ?_
        refine am_Rn.brF (fun q => absurd (am_b0.mp q) (by simp)) ?_
        refine am_Rn.go (t := am_t35) rfl 2 rfl ⟨trivial, trivial, trivial⟩ ?_
        have g := ih (n + 1) co1 sh1 bt1 so1 pr1 (by omega)
        rw [← am_inc, show n + 1 + (sp_sells nu bi P k (co1, sh1, bt1, so1, pr1)).1 = n + ((sp_sells nu bi P k (co1, sh1, bt1, so1, pr1)).1 + 1) by omega] at g
        exact g
  have L : ∀ (d i : Nat), i + d = P → am_Rn sc 35 (2, [some (.ref 128), some (.int (Int32.ofNat i))], [], B0 :: bkRules 32 nu la me tc ts (Int32.ofNat P) :: B2 :: B3 :: bkRoom 128 32 (Int32.ofNat rn) pr pv sa pd lo bo co sh se si er of_ (am_fold i (sp_bidOne (sp_val nu la me se (Int32.ofNat rn) pr pv)) (bi, bt, so)).1 (am_fold i (sp_bidOne (sp_val nu la me se (Int32.ofNat rn) pr pv)) (bi, bt, so)).2.1 (am_fold i (sp_bidOne (sp_val nu la me se (Int32.ofNat rn) pr pv)) (bi, bt, so)).2.2 :: Bs) (fun r M' => r = none ∧ M' = B0 :: bkRules 32 nu la me tc ts (Int32.ofNat P) :: B2 :: B3 :: bkRoomT 128 32 (sp_round nu la me P N S rn (Int32.ofNat rn, pr, pv, sa, pd, lo, bo, co, sh, se, si, er, of_, bi, bt, so)) :: Bs) := by
    intro d
    induction d with
    | zero =>
      intro i  hi
      obtain rfl : i = P := by omega
      refine am_Rn.go (t := am_t35) rfl 5 rfl ⟨trivial, trivial, trivial, trivial, trivial, trivial⟩ ?_
      refine am_Rn.brT (by first | exact (am_le (by omega) (by omega)).mpr (Nat.le_refl _) | exact fun q => absurd ((am_lt (by omega) (by omega)).mp q) (Nat.lt_irrefl _) | decide) ?_
      refine am_Rn.go (t := am_t35) rfl 6 rfl ⟨trivial, trivial, trivial, trivial, trivial, trivial, trivial⟩ ?_
      have g := L2 (am_fold i (sp_bidOne (sp_val nu la me se (Int32.ofNat rn) pr pv)) (bi, bt, so)).1 pr S 0 co sh (am_fold i (sp_bidOne (sp_val nu la me se (Int32.ofNat rn) pr pv)) (bi, bt, so)).2.1 (am_fold i (sp_bidOne (sp_val nu la me se (Int32.ofNat rn) pr pv)) (bi, bt, so)).2.2 pr (by omega)
      rw [Nat.zero_add] at g
      exact g
    | succ d ih =>
      intro i  hi
      have hiP : i < P := by omega
      have e1 : (Int32.ofNat i).toNatClampNeg = i := am_tn i (by omega)
      refine am_Rn.go (t := am_t35) rfl 5 rfl ⟨trivial, trivial, trivial, trivial, trivial, trivial⟩ ?_
      refine am_Rn.brF (by first | exact fun q => absurd ((am_le (by omega) (by omega)).mp q) (by omega) | exact fun q => absurd ((am_le (i := 9) (by omega) (by omega)).mp q) (by omega) | exact fun q => absurd ((am_le (i := 10) (by omega) (by omega)).mp q) (by omega) | exact (am_lt (by omega) (by omega)).mpr hiP) ?_
      refine am_Rn.go (t := am_t35) rfl 5 rfl ⟨trivial, trivial, trivial, trivial, trivial, trivial⟩ ?_
      refine am_Rn.call (t := am_t35) rfl rfl (sx_valueOf_A sc _ (by omega) nu la me tc ts (Int32.ofNat P) ..) ?_
      rintro _ _ ⟨rfl, rfl⟩
      refine am_Rn.go (t := am_t35) rfl 13 rfl ⟨(by first | exact am_inb_lit rfl | exact am_inb_of (by omega) (by omega)), trivial, trivial, trivial, trivial, (by first | exact am_inb_lit rfl | exact am_inb_of (by omega) (by omega)), trivial, trivial, trivial, trivial, (by first | exact am_inb_lit rfl | exact am_inb_of (by omega) (by omega)), trivial, trivial, trivial⟩ ?_
      have g := ih (i + 1) (by omega)
      rw [am_fold_succ, ← am_inc] at g
      generalize hX : (am_fold i (sp_bidOne (sp_val nu la me se (Int32.ofNat rn) pr pv)) (bi, bt, so)) = X at *
      simp only [e1] at *
      exact g
  refine am_Rn.go (t := am_t35) rfl 2 rfl ⟨trivial, trivial, trivial⟩ ?_
  exact L P 0 (by omega)
set_option maxHeartbeats 4000000 in
theorem sx_playRound_B (sc : am_Sc) (nu la me tc ts : Nat → Int32) (P : Nat) (hP : P ≤ 9) (N S rn : Nat) (hN : N ≤ 20) (h0 : nu 0 = Int32.ofNat N) (hS : S ≤ 9) (h9 : nu 9 = Int32.ofNat S) (hr : rn < 20) (pr pv sa pd lo : Int32) (bo co sh se si er of_ bi bt so : Nat → Int32) (B0 B1 B2 B3 B4 : List am_E) (Bs : am_M) : am_Rn sc 35 (0, am_entry 35 [.ref 192], [], B0 :: B1 :: B2 :: B3 :: B4 :: bkRules 160 nu la me tc ts (Int32.ofNat P) :: bkRoom 192 160 (Int32.ofNat rn) pr pv sa pd lo bo co sh se si er of_ bi bt so :: Bs) (fun r M' => r = none ∧ M' = B0 :: B1 :: B2 :: B3 :: B4 :: bkRules 160 nu la me tc ts (Int32.ofNat P) :: bkRoomT 192 160 (sp_round nu la me P N S rn (Int32.ofNat rn, pr, pv, sa, pd, lo, bo, co, sh, se, si, er, of_, bi, bt, so)) :: Bs) := by
  show am_Rn sc 35 (0, [some (.ref 192), none], [], _) _
  have e0 : (Int32.ofNat rn).toNatClampNeg = rn := am_tn rn (by omega)
  have L3 : ∀ (cnt : Nat) (bi : Nat → Int32) (pv : Int32) (co sh bt so : Nat → Int32) (pr : Int32), am_Rn sc 35 (44, [some (.ref 192), some (.int (Int32.ofNat cnt))], [], B0 :: B1 :: B2 :: B3 :: B4 :: bkRules 160 nu la me tc ts (Int32.ofNat P) :: bkRoom 192 160 (Int32.ofNat rn) pr pv sa pd lo bo co sh se si er of_ bi bt so :: Bs) (fun r M' => r = none ∧ M' = B0 :: B1 :: B2 :: B3 :: B4 :: bkRules 160 nu la me tc ts (Int32.ofNat P) :: bkRoomT 192 160 (sp_tail nu P N rn pv sa pd lo bo se si er of_ bi cnt (co, sh, bt, so, pr)) :: Bs) := by
    intro cnt bi pv co sh bt so pr
    refine am_Rn.go (t := am_t35) rfl 22 rfl ⟨trivial, trivial, trivial, trivial, trivial, trivial, trivial, trivial, trivial, trivial, trivial, trivial, trivial, trivial, trivial, trivial, trivial, trivial, trivial, trivial, trivial, trivial, trivial⟩ ?_
    refine am_Rn.br (fun h1 => ?_) (fun h1 => ?_)
    · skip
      have hd : sp_die nu (sp_lot lo) = nu 1 := if_pos h1
      refine am_Rn.go (t := am_t35) rfl 6 rfl ⟨trivial, trivial, trivial, trivial, (by first | exact am_inb_lit rfl | exact am_inb_of (by omega) (by omega)), trivial, trivial⟩ ?_
      refine am_Rn.call (t := am_t35) rfl rfl (sx_payEach_B sc _ nu la me tc ts P hP ..) ?_
      rintro _ _ ⟨rfl, rfl⟩
      refine am_Rn.go (t := am_t35) rfl 1 rfl ⟨trivial, trivial⟩ ?_
      refine am_Rn.call (t := am_t35) rfl rfl (sx_countSaid_B sc nu la me tc ts P hP ..) ?_
      rintro _ _ ⟨rfl, rfl⟩
      refine am_Rn.go (t := am_t35) rfl 4 rfl ⟨trivial, trivial, trivial, trivial, trivial⟩ ?_
      refine am_Rn.brF (fun q => by have := (am_le (i := 20) (j := rn) (by omega) (by omega)).mp q; omega) ?_
      refine am_Rn.go (t := am_t35) rfl 14 rfl ⟨trivial, trivial, trivial, trivial, trivial, trivial, (by first | exact am_inb_lit rfl | exact am_inb_of (by omega) (by omega)), trivial, trivial, trivial, trivial, trivial, trivial, trivial, trivial⟩ ?_
      refine am_Rn.call (t := am_t35) rfl rfl (sx_isOver_B ..) ?_
      rintro _ _ ⟨rfl, rfl⟩
      refine am_Rn.go (t := am_t35) rfl 1 rfl ⟨trivial, trivial⟩ ?_
      refine am_Rn.brB (fun h3 => ?_) (fun h3 => ?_)
      · skip
        have hov : ¬ N ≤ rn + 1 := fun q => h3 (Or.inl (by rw [h0, am_inc]; exact (am_le (by omega) (by omega)).mpr q))
        refine am_Rn.ret (t := am_t35) rfl rfl trivial ?_
        refine ⟨rfl, ?_⟩
        (try simp only [e0, Int32.reduceToNatClampNeg] at *)
        unfold sp_tail
        dsimp only
        rw [hd]
        first | rw [if_pos hov] | rw [if_neg hov]
        rfl
      · skip
        have hov : N ≤ rn + 1 := h3.elim (fun q => by rw [h0, am_inc] at q; exact (am_le (by omega) (by omega)).mp q) (fun q => by rw [am_inc] at q; have := (am_le (i := 20) (j := rn + 1) (by omega) (by omega)).mp q; omega)
        refine am_Rn.go (t := am_t35) rfl 6 rfl ⟨trivial, trivial, trivial, trivial, trivial, (by first | exact am_inb_lit rfl | exact am_inb_of (by omega) (by omega)), trivial⟩ ?_
        refine am_Rn.call (t := am_t35) rfl rfl (sx_payEach_B sc _ nu la me tc ts P hP ..) ?_
        rintro _ _ ⟨rfl, rfl⟩
        refine am_Rn.ret (t := am_t35) rfl rfl trivial ?_
        refine ⟨rfl, ?_⟩
        (try simp only [e0, Int32.reduceToNatClampNeg] at *)
        unfold sp_tail
        dsimp only
        rw [hd]
        first | rw [if_pos hov] | rw [if_neg hov]
        rfl
    · skip
      have hd : sp_die nu (sp_lot lo) = nu 2 := if_neg h1
      refine am_Rn.go (t := am_t35) rfl 5 rfl ⟨trivial, trivial, trivial, trivial, (by first | exact am_inb_lit rfl | exact am_inb_of (by omega) (by omega)), trivial⟩ ?_
      refine am_Rn.call (t := am_t35) rfl rfl (sx_payEach_B sc _ nu la me tc ts P hP ..) ?_
      rintro _ _ ⟨rfl, rfl⟩
      refine am_Rn.go (t := am_t35) rfl 1 rfl ⟨trivial, trivial⟩ ?_
      refine am_Rn.call (t := am_t35) rfl rfl (sx_countSaid_B sc nu la me tc ts P hP ..) ?_
      rintro _ _ ⟨rfl, rfl⟩
      refine am_Rn.go (t := am_t35) rfl 4 rfl ⟨trivial, trivial, trivial, trivial, trivial⟩ ?_
      refine am_Rn.brF (fun q => by have := (am_le (i := 20) (j := rn) (by omega) (by omega)).mp q; omega) ?_
      refine am_Rn.go (t := am_t35) rfl 14 rfl ⟨trivial, trivial, trivial, trivial, trivial, trivial, (by first | exact am_inb_lit rfl | exact am_inb_of (by omega) (by omega)), trivial, trivial, trivial, trivial, trivial, trivial, trivial, trivial⟩ ?_
      refine am_Rn.call (t := am_t35) rfl rfl (sx_isOver_B ..) ?_
      rintro _ _ ⟨rfl, rfl⟩
      refine am_Rn.go (t := am_t35) rfl 1 rfl ⟨trivial, trivial⟩ ?_
      refine am_Rn.brB (fun h5 => ?_) (fun h5 => ?_)
      · skip
        have hov : ¬ N ≤ rn + 1 := fun q => h5 (Or.inl (by rw [h0, am_inc]; exact (am_le (by omega) (by omega)).mpr q))
        refine am_Rn.ret (t := am_t35) rfl rfl trivial ?_
        refine ⟨rfl, ?_⟩
        (try simp only [e0, Int32.reduceToNatClampNeg] at *)
        unfold sp_tail
        dsimp only
        rw [hd]
        first | rw [if_pos hov] | rw [if_neg hov]
        rfl
      · skip
        have hov : N ≤ rn + 1 := h5.elim (fun q => by rw [h0, am_inc] at q; exact (am_le (by omega) (by omega)).mp q) (fun q => by rw [am_inc] at q; have := (am_le (i := 20) (j := rn + 1) (by omega) (by omega)).mp q; omega)
        refine am_Rn.go (t := am_t35) rfl 6 rfl ⟨trivial, trivial, trivial, trivial, trivial, (by first | exact am_inb_lit rfl | exact am_inb_of (by omega) (by omega)), trivial⟩ ?_
        refine am_Rn.call (t := am_t35) rfl rfl (sx_payEach_B sc _ nu la me tc ts P hP ..) ?_
        rintro _ _ ⟨rfl, rfl⟩
        refine am_Rn.ret (t := am_t35) rfl rfl trivial ?_
        refine ⟨rfl, ?_⟩
        (try simp only [e0, Int32.reduceToNatClampNeg] at *)
        unfold sp_tail
        dsimp only
        rw [hd]
        first | rw [if_pos hov] | rw [if_neg hov]
        rfl
  have L2 : ∀ (bi : Nat → Int32) (pv : Int32) (k n : Nat) (co sh bt so : Nat → Int32) (pr : Int32), n + k = S → am_Rn sc 35 (32, [some (.ref 192), some (.int (Int32.ofNat n))], [], B0 :: B1 :: B2 :: B3 :: B4 :: bkRules 160 nu la me tc ts (Int32.ofNat P) :: bkRoom 192 160 (Int32.ofNat rn) pr pv sa pd lo bo co sh se si er of_ bi bt so :: Bs) (fun r M' => r = none ∧ M' = B0 :: B1 :: B2 :: B3 :: B4 :: bkRules 160 nu la me tc ts (Int32.ofNat P) :: bkRoomT 192 160 (sp_tail nu P N rn pv sa pd lo bo se si er of_ bi (n + (sp_sells nu bi P k (co, sh, bt, so, pr)).1) (sp_sells nu bi P k (co, sh, bt, so, pr)).2) :: Bs) := by
    intro bi pv k
    induction k with
    | zero =>
      intro n co sh bt so pr hn
      obtain rfl : n = S := by omega
      refine am_Rn.go (t := am_t35) rfl 7 rfl ⟨trivial, trivial, trivial, trivial, trivial, (by first | exact am_inb_lit rfl | exact am_inb_of (by omega) (by omega)), trivial, trivial⟩ ?_
      refine am_Rn.brT (by rw [show nu (Int32.toNatClampNeg 9) = nu 9 from rfl, h9]; exact (am_le (by omega) (by omega)).mpr (Nat.le_refl _)) ?_
      exact L3 n bi pv co sh bt so pr
    | succ k ih =>
      intro n co sh bt so pr hn
      have hnb : ¬ nu 9 ≤ Int32.ofNat n := fun q => by rw [h9] at q; have := (am_le (by omega) (by omega)).mp q; omega
      rcases hX : sp_sell nu bi P (co, sh, bt, so, pr) with _ | X1
      · have hZ : (sp_sells nu bi P (k + 1) (co, sh, bt, so, pr)) = (0, (co, sh, bt, so, pr)) := by simp only [sp_sells, hX]
        rw [hZ]
        refine am_Rn.go (t := am_t35) rfl 7 rfl ⟨trivial, trivial, trivial, trivial, trivial, (by first | exact am_inb_lit rfl | exact am_inb_of (by omega) (by omega)), trivial, trivial⟩ ?_
        refine am_Rn.brF hnb ?_
        refine am_Rn.go (t := am_t35) rfl 1 rfl ⟨trivial, trivial⟩ ?_
        refine am_Rn.call (t := am_t35) rfl rfl (sx_sellOne_B sc nu la me tc ts P hP ..) ?_
        rintro _ _ ⟨rfl, rfl⟩
        rw [hX]
        refine am_Rn.go (t := am_t35) rfl 1 rfl ⟨trivial, trivial⟩ ?_
        refine am_Rn.brT (am_b0.mpr (by decide)) ?_
        exact L3 n bi pv co sh bt so pr
      · obtain ⟨co1, sh1, bt1, so1, pr1⟩ := X1
        have hZ : (sp_sells nu bi P (k + 1) (co, sh, bt, so, pr)) = ((sp_sells nu bi P k (co1, sh1, bt1, so1, pr1)).1 + 1, (sp_sells nu bi P k (co1, sh1, bt1, so1, pr1)).2) := by simp only [sp_sells, hX]
        rw [hZ]
        refine am_Rn.go (t := am_t35) rfl 7 rfl ⟨trivial, trivial, trivial, trivial, trivial, (by first | exact am_inb_lit rfl | exact am_inb_of (by omega) (by omega)), trivial, trivial⟩ ?_
        refine am_Rn.brF hnb ?_
        refine am_Rn.go (t := am_t35) rfl 1 rfl ⟨trivial, trivial⟩ ?_
        refine am_Rn.call (t := am_t35) rfl rfl (sx_sellOne_B sc nu la me tc ts P hP ..) ?_
        rintro _ _ ⟨rfl, rfl⟩
        rw [hX]
        refine am_Rn.go (t := am_t35) rfl 1 rfl ⟨trivial, trivial⟩ ?_
        refine am_Rn.brF (fun q => absurd (am_b0.mp q) (by simp)) ?_
        refine am_Rn.go (t := am_t35) rfl 2 rfl ⟨trivial, trivial, trivial⟩ ?_
        have g := ih (n + 1) co1 sh1 bt1 so1 pr1 (by omega)
        rw [← am_inc, show n + 1 + (sp_sells nu bi P k (co1, sh1, bt1, so1, pr1)).1 = n + ((sp_sells nu bi P k (co1, sh1, bt1, so1, pr1)).1 + 1) by omega] at g
        exact g
  have L : ∀ (d i : Nat), i + d = P → am_Rn sc 35 (2, [some (.ref 192), some (.int (Int32.ofNat i))], [], B0 :: B1 :: B2 :: B3 :: B4 :: bkRules 160 nu la me tc ts (Int32.ofNat P) :: bkRoom 192 160 (Int32.ofNat rn) pr pv sa pd lo bo co sh se si er of_ (am_fold i (sp_bidOne (sp_val nu la me se (Int32.ofNat rn) pr pv)) (bi, bt, so)).1 (am_fold i (sp_bidOne (sp_val nu la me se (Int32.ofNat rn) pr pv)) (bi, bt, so)).2.1 (am_fold i (sp_bidOne (sp_val nu la me se (Int32.ofNat rn) pr pv)) (bi, bt, so)).2.2 :: Bs) (fun r M' => r = none ∧ M' = B0 :: B1 :: B2 :: B3 :: B4 :: bkRules 160 nu la me tc ts (Int32.ofNat P) :: bkRoomT 192 160 (sp_round nu la me P N S rn (Int32.ofNat rn, pr, pv, sa, pd, lo, bo, co, sh, se, si, er, of_, bi, bt, so)) :: Bs) := by
    intro d
    induction d with
    | zero =>
      intro i  hi
      obtain rfl : i = P := by omega
      refine am_Rn.go (t := am_t35) rfl 5 rfl ⟨trivial, trivial, trivial, trivial, trivial, trivial⟩ ?_
      refine am_Rn.brT (by first | exact (am_le (by omega) (by omega)).mpr (Nat.le_refl _) | exact fun q => absurd ((am_lt (by omega) (by omega)).mp q) (Nat.lt_irrefl _) | decide) ?_
      refine am_Rn.go (t := am_t35) rfl 6 rfl ⟨trivial, trivial, trivial, trivial, trivial, trivial, trivial⟩ ?_
      have g := L2 (am_fold i (sp_bidOne (sp_val nu la me se (Int32.ofNat rn) pr pv)) (bi, bt, so)).1 pr S 0 co sh (am_fold i (sp_bidOne (sp_val nu la me se (Int32.ofNat rn) pr pv)) (bi, bt, so)).2.1 (am_fold i (sp_bidOne (sp_val nu la me se (Int32.ofNat rn) pr pv)) (bi, bt, so)).2.2 pr (by omega)
      rw [Nat.zero_add] at g
      exact g
    | succ d ih =>
      intro i  hi
      have hiP : i < P := by omega
      have e1 : (Int32.ofNat i).toNatClampNeg = i := am_tn i (by omega)
      refine am_Rn.go (t := am_t35) rfl 5 rfl ⟨trivial, trivial, trivial, trivial, trivial, trivial⟩ ?_
      refine am_Rn.brF (by first | exact fun q => absurd ((am_le (by omega) (by omega)).mp q) (by omega) | exact fun q => absurd ((am_le (i := 9) (by omega) (by omega)).mp q) (by omega) | exact fun q => absurd ((am_le (i := 10) (by omega) (by omega)).mp q) (by omega) | exact (am_lt (by omega) (by omega)).mpr hiP) ?_
      refine am_Rn.go (t := am_t35) rfl 5 rfl ⟨trivial, trivial, trivial, trivial, trivial, trivial⟩ ?_
      refine am_Rn.call (t := am_t35) rfl rfl (sx_valueOf_B sc _ (by omega) nu la me tc ts (Int32.ofNat P) ..) ?_
      rintro _ _ ⟨rfl, rfl⟩
      refine am_Rn.go (t := am_t35) rfl 13 rfl ⟨(by first | exact am_inb_lit rfl | exact am_inb_of (by omega) (by omega)), trivial, trivial, trivial, trivial, (by first | exact am_inb_lit rfl | exact am_inb_of (by omega) (by omega)), trivial, trivial, trivial, trivial, (by first | exact am_inb_lit rfl | exact am_inb_of (by omega) (by omega)), trivial, trivial, trivial⟩ ?_
      have g := ih (i + 1) (by omega)
      rw [am_fold_succ, ← am_inc] at g
      generalize hX : (am_fold i (sp_bidOne (sp_val nu la me se (Int32.ofNat rn) pr pv)) (bi, bt, so)) = X at *
      simp only [e1] at *
      exact g
  refine am_Rn.go (t := am_t35) rfl 2 rfl ⟨trivial, trivial, trivial⟩ ?_
  exact L P 0 (by omega)
