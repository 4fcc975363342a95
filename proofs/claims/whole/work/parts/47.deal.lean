theorem am_subsub (a b c : Int32) : a - b - c = a - (b + c) := Int32.sub_sub a b c
theorem am_addone (a b : Int32) : a + b + 1 = a + (b + 1) := Int32.add_assoc a b 1
theorem am_paycomm (a b c : Int32) : a + b * c = a + c * b := by rw [Int32.mul_comm]
set_option maxHeartbeats 1000000 in
theorem mm_sells (sc : am_Sc) (P : Nat) (hP : P ≤ 9) (tr : Int64) (ty nx tk pl va fa dp cm : Int32) (tx nu dn la me tc ts ps : Nat → Int32) (rd pr pv sa pd lo : Int32) (bo co sh se si er of_ sp ke ik bi bt so nr ou ho cl : Nat → Int32) (B0 B1 B2 B3 B4 B5 B6 B7 B8 B9 B10 B11 B12 : List am_E) (Bs : am_M) : am_Rn sc 128 (0, am_entry 128 [.ref 416], [], B0 :: B1 :: B2 :: B3 :: B4 :: B5 :: B6 :: B7 :: B8 :: B9 :: B10 :: B11 :: B12 :: bkModel tr ty nx tk pl va fa (Int32.ofNat P) dp cm tx (mp_ru nu dn) (mp_ps (mp_q la me tc ts) ps) (mp_s rd pr pv sa pd lo bo co sh se si er of_) sp ke ik bi bt so nr ou ho cl :: Bs) (fun r M' => r = some (.int (am_b ((sp_sell nu bi P (co, sh, bt, so, pr)).isSome = true))) ∧ M' = B0 :: B1 :: B2 :: B3 :: B4 :: B5 :: B6 :: B7 :: B8 :: B9 :: B10 :: B11 :: B12 :: bkModel tr ty nx tk pl va fa (Int32.ofNat P) dp cm tx (mp_ru nu dn) (mp_ps (mp_q la me tc ts) ps) (mp_s rd ((sp_sell nu bi P (co, sh, bt, so, pr)).getD (co, sh, bt, so, pr)).2.2.2.2 pv (sa + am_b ((sp_sell nu bi P (co, sh, bt, so, pr)).isSome = true)) pd lo bo ((sp_sell nu bi P (co, sh, bt, so, pr)).getD (co, sh, bt, so, pr)).1 ((sp_sell nu bi P (co, sh, bt, so, pr)).getD (co, sh, bt, so, pr)).2.1 se si er of_) sp ke ik bi ((sp_sell nu bi P (co, sh, bt, so, pr)).getD (co, sh, bt, so, pr)).2.2.1 ((sp_sell nu bi P (co, sh, bt, so, pr)).getD (co, sh, bt, so, pr)).2.2.2.1 nr ou ho cl :: Bs) := by
  show am_Rn sc 128 (0, [some (.ref 416), none, none, none], [], _) _
  rcases hb : am_fold P (sp_bestB (sp_mayB nu co bi bt) bi) none with _ | b
  · skip
    refine am_Rn.go (t := am_t128) rfl 1 rfl ⟨trivial, trivial⟩ ?_
    refine am_Rn.call (t := am_t128) rfl rfl (mm_buyer sc P hP ..) ?_
    rintro _ _ ⟨rfl, rfl⟩
    rw [hb]
    refine am_Rn.go (t := am_t128) rfl 4 rfl ⟨trivial, trivial, trivial, trivial, trivial⟩ ?_
    refine am_Rn.brT rfl ?_
    refine am_Rn.go (t := am_t128) rfl 6 rfl ⟨trivial, trivial, trivial, trivial, trivial, trivial, trivial⟩ ?_
    refine am_Rn.brT rfl ?_
    refine am_Rn.go (t := am_t128) rfl 1 rfl ⟨trivial, trivial⟩ ?_
    refine am_Rn.ret (t := am_t128) rfl rfl (by first | exact Or.inl rfl | exact Or.inr rfl | exact am_b01 _) ?_
    have hS : (sp_sell nu bi P (co, sh, bt, so, pr)) = none := by
      unfold sp_sell
      simp only [hb]
    rw [hS]
    refine ⟨congrArg (fun z => some (Value.int z)) (am_bF (by decide)).symm, ?_⟩
    rw [show am_b ((none : Option sp_S).isSome = true) = 0 from am_bF (by decide), Int32.add_zero]
    rfl
  · have hb1 : b < 9 := by have := sp_bestB_lt _ _ _ _ hb; omega
    have e2 : (am_on (-9) (some b)).toNatClampNeg = b := am_tn b (by omega)
    have e4 : am_on (-9) (some b) = Int32.ofNat b := rfl
    rcases hs : am_fold P (sp_bestS (sp_mayS nu sh so (some b)) bi) none with _ | s
    · skip
      refine am_Rn.go (t := am_t128) rfl 1 rfl ⟨trivial, trivial⟩ ?_
      refine am_Rn.call (t := am_t128) rfl rfl (mm_buyer sc P hP ..) ?_
      rintro _ _ ⟨rfl, rfl⟩
      rw [hb]
      refine am_Rn.go (t := am_t128) rfl 4 rfl ⟨trivial, trivial, trivial, trivial, trivial⟩ ?_
      refine am_Rn.brF (fun z : Int32.ofNat b = -9 => by have := congrArg Int32.toInt z; rw [am_ofN b (by omega)] at this; rw [show (-9 : Int32).toInt = -9 from rfl] at this; omega) ?_
      refine am_Rn.go (t := am_t128) rfl 2 rfl ⟨trivial, trivial, trivial⟩ ?_
      refine am_Rn.call (t := am_t128) rfl rfl (mm_seller sc P hP b hb1 ..) ?_
      rintro _ _ ⟨rfl, rfl⟩
      rw [hs]
      refine am_Rn.go (t := am_t128) rfl 4 rfl ⟨trivial, trivial, trivial, trivial, trivial⟩ ?_
      refine am_Rn.brT rfl ?_
      refine am_Rn.go (t := am_t128) rfl 1 rfl ⟨trivial, trivial⟩ ?_
      refine am_Rn.ret (t := am_t128) rfl rfl (by first | exact Or.inl rfl | exact Or.inr rfl | exact am_b01 _) ?_
      have hS : (sp_sell nu bi P (co, sh, bt, so, pr)) = none := by
        unfold sp_sell
        simp only [hb, hs]
      rw [hS]
      refine ⟨congrArg (fun z => some (Value.int z)) (am_bF (by decide)).symm, ?_⟩
      rw [show am_b ((none : Option sp_S).isSome = true) = 0 from am_bF (by decide), Int32.add_zero]
      rfl
    · have hs1 : s < 9 := by have := sp_bestS_lt _ _ _ _ hs; omega
      have e3 : (am_on (-9) (some s)).toNatClampNeg = s := am_tn s (by omega)
      rcases Classical.em (bi s + 1 ≤ bi b) with h1 | h1
      · skip
        refine am_Rn.go (t := am_t128) rfl 1 rfl ⟨trivial, trivial⟩ ?_
        refine am_Rn.call (t := am_t128) rfl rfl (mm_buyer sc P hP ..) ?_
        rintro _ _ ⟨rfl, rfl⟩
        rw [hb]
        refine am_Rn.go (t := am_t128) rfl 4 rfl ⟨trivial, trivial, trivial, trivial, trivial⟩ ?_
        refine am_Rn.brF (fun z : Int32.ofNat b = -9 => by have := congrArg Int32.toInt z; rw [am_ofN b (by omega)] at this; rw [show (-9 : Int32).toInt = -9 from rfl] at this; omega) ?_
        refine am_Rn.go (t := am_t128) rfl 2 rfl ⟨trivial, trivial, trivial⟩ ?_
        refine am_Rn.call (t := am_t128) rfl rfl (mm_seller sc P hP b hb1 ..) ?_
        rintro _ _ ⟨rfl, rfl⟩
        rw [hs]
        refine am_Rn.go (t := am_t128) rfl 4 rfl ⟨trivial, trivial, trivial, trivial, trivial⟩ ?_
        refine am_Rn.brF (fun z : Int32.ofNat s = -9 => by have := congrArg Int32.toInt z; rw [am_ofN s (by omega)] at this; rw [show (-9 : Int32).toInt = -9 from rfl] at this; omega) ?_
        refine am_Rn.go (t := am_t128) rfl 11 rfl ⟨trivial, trivial, trivial, (by first | exact am_inb_lit rfl | exact am_inb_of (by omega) (by omega)), trivial, trivial, trivial, (by first | exact am_inb_lit rfl | exact am_inb_of (by omega) (by omega)), trivial, trivial, trivial, trivial⟩ ?_
        refine am_Rn.brT (by rw [e2, e3]; exact h1) ?_
        refine am_Rn.go (t := am_t128) rfl 14 rfl ⟨trivial, trivial, trivial, (by first | exact am_inb_lit rfl | exact am_inb_of (by omega) (by omega)), trivial, trivial, trivial, (by first | exact am_inb_lit rfl | exact am_inb_of (by omega) (by omega)), trivial, trivial, trivial, trivial, (by decide), trivial, trivial⟩ ?_
        show am_Rn sc 128 (42, _, _, B0 :: B1 :: B2 :: B3 :: B4 :: B5 :: B6 :: B7 :: B8 :: B9 :: B10 :: B11 :: B12 :: bkModel tr ty nx tk pl va fa (Int32.ofNat P) dp cm tx (mp_ru nu dn) (mp_ps (mp_q la me tc ts) ps) (mp_s rd pr pv sa pd lo bo co sh se si er of_) sp ke ik bi bt so nr ou ho cl :: Bs) _
        rw [e2, e3, am_addone]
        refine am_Rn.go (t := am_t128) rfl 6 rfl ⟨trivial, trivial, trivial, trivial, trivial, trivial, trivial⟩ ?_
        refine am_Rn.call (t := am_t128) rfl rfl (mm_of0 sc b hb1 ..) ?_
        rintro _ _ ⟨rfl, rfl⟩
        refine am_Rn.go (t := am_t128) rfl 7 rfl ⟨trivial, trivial, trivial, trivial, trivial, (by first | exact am_inb_lit rfl | exact am_inb_of (by omega) (by omega)), trivial, trivial⟩ ?_
        refine am_Rn.call (t := am_t128) rfl rfl (mm_puts0 sc b hb1 ..) ?_
        rintro _ _ ⟨rfl, rfl⟩
        refine am_Rn.go (t := am_t128) rfl 1 rfl ⟨trivial, trivial⟩ ?_
        show am_Rn sc 128 (58, _, _, B0 :: B1 :: B2 :: B3 :: B4 :: B5 :: B6 :: B7 :: B8 :: B9 :: B10 :: B11 :: B12 :: bkModel tr ty nx tk pl va fa (Int32.ofNat P) dp cm tx (mp_ru nu dn) (mp_ps (mp_q la me tc ts) ps) (mp_s rd pr pv sa pd lo bo (upd co b (co b - ((bi b + (bi s + 1)) / 2) - nu 8)) sh se si er of_) sp ke ik bi bt so nr ou ho cl :: Bs) _
        rw [am_subsub]
        refine am_Rn.go (t := am_t128) rfl 5 rfl ⟨trivial, trivial, trivial, trivial, trivial, trivial⟩ ?_
        refine am_Rn.call (t := am_t128) rfl rfl (mm_of1 sc b hb1 ..) ?_
        rintro _ _ ⟨rfl, rfl⟩
        refine am_Rn.go (t := am_t128) rfl 2 rfl ⟨trivial, trivial, trivial⟩ ?_
        refine am_Rn.call (t := am_t128) rfl rfl (mm_puts1 sc b hb1 ..) ?_
        rintro _ _ ⟨rfl, rfl⟩
        refine am_Rn.go (t := am_t128) rfl 6 rfl ⟨trivial, trivial, trivial, trivial, trivial, trivial, trivial⟩ ?_
        refine am_Rn.call (t := am_t128) rfl rfl (mm_of0 sc s hs1 ..) ?_
        rintro _ _ ⟨rfl, rfl⟩
        refine am_Rn.go (t := am_t128) rfl 2 rfl ⟨trivial, trivial, trivial⟩ ?_
        refine am_Rn.call (t := am_t128) rfl rfl (mm_puts0 sc s hs1 ..) ?_
        rintro _ _ ⟨rfl, rfl⟩
        refine am_Rn.go (t := am_t128) rfl 6 rfl ⟨trivial, trivial, trivial, trivial, trivial, trivial, trivial⟩ ?_
        refine am_Rn.call (t := am_t128) rfl rfl (mm_of1 sc s hs1 ..) ?_
        rintro _ _ ⟨rfl, rfl⟩
        refine am_Rn.go (t := am_t128) rfl 2 rfl ⟨trivial, trivial, trivial⟩ ?_
        refine am_Rn.call (t := am_t128) rfl rfl (mm_puts1 sc s hs1 ..) ?_
        rintro _ _ ⟨rfl, rfl⟩
        refine am_Rn.go (t := am_t128) rfl 8 rfl ⟨trivial, trivial, trivial, trivial, (by first | exact am_inb_lit rfl | exact am_inb_of (by omega) (by omega)), trivial, trivial, (by first | exact am_inb_lit rfl | exact am_inb_of (by omega) (by omega)), trivial⟩ ?_
        show am_Rn sc 128 (95, _, _, B0 :: B1 :: B2 :: B3 :: B4 :: B5 :: B6 :: B7 :: B8 :: B9 :: B10 :: B11 :: B12 :: bkModel tr ty nx tk pl va fa (Int32.ofNat P) dp cm tx (mp_ru nu dn) (mp_ps (mp_q la me tc ts) ps) (mp_s rd pr pv sa pd lo bo (upd (upd co b (co b - (((bi b + (bi s + 1)) / 2) + nu 8))) s ((upd co b (co b - (((bi b + (bi s + 1)) / 2) + nu 8))) s + ((bi b + (bi s + 1)) / 2))) (upd (upd sh b (sh b + 1)) s ((upd sh b (sh b + 1)) s - 1)) se si er of_) sp ke ik bi (upd bt (am_on (-9) (some b)).toNatClampNeg (bt (am_on (-9) (some b)).toNatClampNeg + 1)) so nr ou ho cl :: Bs) _
        rw [e2]
        refine am_Rn.go (t := am_t128) rfl 8 rfl ⟨trivial, trivial, trivial, trivial, (by first | exact am_inb_lit rfl | exact am_inb_of (by omega) (by omega)), trivial, trivial, (by first | exact am_inb_lit rfl | exact am_inb_of (by omega) (by omega)), trivial⟩ ?_
        show am_Rn sc 128 (103, _, _, B0 :: B1 :: B2 :: B3 :: B4 :: B5 :: B6 :: B7 :: B8 :: B9 :: B10 :: B11 :: B12 :: bkModel tr ty nx tk pl va fa (Int32.ofNat P) dp cm tx (mp_ru nu dn) (mp_ps (mp_q la me tc ts) ps) (mp_s rd pr pv sa pd lo bo (upd (upd co b (co b - (((bi b + (bi s + 1)) / 2) + nu 8))) s ((upd co b (co b - (((bi b + (bi s + 1)) / 2) + nu 8))) s + ((bi b + (bi s + 1)) / 2))) (upd (upd sh b (sh b + 1)) s ((upd sh b (sh b + 1)) s - 1)) se si er of_) sp ke ik bi (upd bt b (bt b + 1)) (upd so (am_on (-9) (some s)).toNatClampNeg (so (am_on (-9) (some s)).toNatClampNeg + 1)) nr ou ho cl :: Bs) _
        rw [e3]
        refine am_Rn.go (t := am_t128) rfl 5 rfl ⟨trivial, trivial, trivial, trivial, (by first | exact am_inb_lit rfl | exact am_inb_of (by omega) (by omega)), trivial⟩ ?_
        show am_Rn sc 128 (108, _, _, B0 :: B1 :: B2 :: B3 :: B4 :: B5 :: B6 :: B7 :: B8 :: B9 :: B10 :: B11 :: B12 :: bkModel tr ty nx tk pl va fa (Int32.ofNat P) dp cm tx (mp_ru nu dn) (mp_ps (mp_q la me tc ts) ps) (upd (mp_s rd pr pv sa pd lo bo (upd (upd co b (co b - (((bi b + (bi s + 1)) / 2) + nu 8))) s ((upd co b (co b - (((bi b + (bi s + 1)) / 2) + nu 8))) s + ((bi b + (bi s + 1)) / 2))) (upd (upd sh b (sh b + 1)) s ((upd sh b (sh b + 1)) s - 1)) se si er of_) 1 ((bi b + (bi s + 1)) / 2)) sp ke ik bi (upd bt b (bt b + 1)) (upd so s (so s + 1)) nr ou ho cl :: Bs) _
        rw [mp_set1]
        refine am_Rn.go (t := am_t128) rfl 8 rfl ⟨trivial, trivial, trivial, trivial, (by first | exact am_inb_lit rfl | exact am_inb_of (by omega) (by omega)), trivial, trivial, (by first | exact am_inb_lit rfl | exact am_inb_of (by omega) (by omega)), trivial⟩ ?_
        show am_Rn sc 128 (116, _, _, B0 :: B1 :: B2 :: B3 :: B4 :: B5 :: B6 :: B7 :: B8 :: B9 :: B10 :: B11 :: B12 :: bkModel tr ty nx tk pl va fa (Int32.ofNat P) dp cm tx (mp_ru nu dn) (mp_ps (mp_q la me tc ts) ps) (upd (mp_s rd ((bi b + (bi s + 1)) / 2) pv sa pd lo bo (upd (upd co b (co b - (((bi b + (bi s + 1)) / 2) + nu 8))) s ((upd co b (co b - (((bi b + (bi s + 1)) / 2) + nu 8))) s + ((bi b + (bi s + 1)) / 2))) (upd (upd sh b (sh b + 1)) s ((upd sh b (sh b + 1)) s - 1)) se si er of_) 3 (sa + 1)) sp ke ik bi (upd bt b (bt b + 1)) (upd so s (so s + 1)) nr ou ho cl :: Bs) _
        rw [mp_set3]
        refine am_Rn.go (t := am_t128) rfl 1 rfl ⟨trivial, trivial⟩ ?_
        refine am_Rn.ret (t := am_t128) rfl rfl (by first | exact Or.inl rfl | exact Or.inr rfl | exact am_b01 _) ?_
        have hS : (sp_sell nu bi P (co, sh, bt, so, pr)) = some (sp_deal nu bi b s (co, sh, bt, so, pr)) := by
          unfold sp_sell
          simp only [hb, hs]
          rw [if_pos h1]
        rw [hS]
        refine ⟨congrArg (fun z => some (Value.int z)) (am_bT rfl).symm, ?_⟩
        rw [show am_b ((some (sp_deal nu bi b s (co, sh, bt, so, pr))).isSome = true) = 1 from am_bT rfl]
        rfl
      · skip
        refine am_Rn.go (t := am_t128) rfl 1 rfl ⟨trivial, trivial⟩ ?_
        refine am_Rn.call (t := am_t128) rfl rfl (mm_buyer sc P hP ..) ?_
        rintro _ _ ⟨rfl, rfl⟩
        rw [hb]
        refine am_Rn.go (t := am_t128) rfl 4 rfl ⟨trivial, trivial, trivial, trivial, trivial⟩ ?_
        refine am_Rn.brF (fun z : Int32.ofNat b = -9 => by have := congrArg Int32.toInt z; rw [am_ofN b (by omega)] at this; rw [show (-9 : Int32).toInt = -9 from rfl] at this; omega) ?_
        refine am_Rn.go (t := am_t128) rfl 2 rfl ⟨trivial, trivial, trivial⟩ ?_
        refine am_Rn.call (t := am_t128) rfl rfl (mm_seller sc P hP b hb1 ..) ?_
        rintro _ _ ⟨rfl, rfl⟩
        rw [hs]
        refine am_Rn.go (t := am_t128) rfl 4 rfl ⟨trivial, trivial, trivial, trivial, trivial⟩ ?_
        refine am_Rn.brF (fun z : Int32.ofNat s = -9 => by have := congrArg Int32.toInt z; rw [am_ofN s (by omega)] at this; rw [show (-9 : Int32).toInt = -9 from rfl] at this; omega) ?_
        refine am_Rn.go (t := am_t128) rfl 11 rfl ⟨trivial, trivial, trivial, (by first | exact am_inb_lit rfl | exact am_inb_of (by omega) (by omega)), trivial, trivial, trivial, (by first | exact am_inb_lit rfl | exact am_inb_of (by omega) (by omega)), trivial, trivial, trivial, trivial⟩ ?_
        refine am_Rn.brF (by rw [e2, e3]; exact h1) ?_
        refine am_Rn.go (t := am_t128) rfl 1 rfl ⟨trivial, trivial⟩ ?_
        refine am_Rn.ret (t := am_t128) rfl rfl (by first | exact Or.inl rfl | exact Or.inr rfl | exact am_b01 _) ?_
        have hS : (sp_sell nu bi P (co, sh, bt, so, pr)) = none := by
          unfold sp_sell
          simp only [hb, hs]
          rw [if_neg h1]
        rw [hS]
        refine ⟨congrArg (fun z => some (Value.int z)) (am_bF (by decide)).symm, ?_⟩
        rw [show am_b ((none : Option sp_S).isSome = true) = 0 from am_bF (by decide), Int32.add_zero]
        rfl
theorem mm_pays (sc : am_Sc) (P : Nat) (hP : P ≤ 9) (each : Int32) (tr : Int64) (ty nx tk pl va fa dp cm : Int32) (tx nu dn la me tc ts ps : Nat → Int32) (rd pr pv sa pd lo : Int32) (bo co sh se si er of_ sp ke ik bi bt so nr ou ho cl : Nat → Int32) (B0 B1 B2 B3 B4 B5 B6 B7 B8 B9 B10 B11 B12 : List am_E) (Bs : am_M) : am_Rn sc 129 (0, am_entry 129 [.ref 416, .int each], [], B0 :: B1 :: B2 :: B3 :: B4 :: B5 :: B6 :: B7 :: B8 :: B9 :: B10 :: B11 :: B12 :: bkModel tr ty nx tk pl va fa (Int32.ofNat P) dp cm tx (mp_ru nu dn) (mp_ps (mp_q la me tc ts) ps) (mp_s rd pr pv sa pd lo bo co sh se si er of_) sp ke ik bi bt so nr ou ho cl :: Bs) (fun r M' => r = none ∧ M' = B0 :: B1 :: B2 :: B3 :: B4 :: B5 :: B6 :: B7 :: B8 :: B9 :: B10 :: B11 :: B12 :: bkModel tr ty nx tk pl va fa (Int32.ofNat P) dp cm tx (mp_ru nu dn) (mp_ps (mp_q la me tc ts) ps) (mp_s rd pr pv sa (pd + each) lo bo (am_fold P (sp_pay sh each) co) sh se si er of_) sp ke ik bi bt so nr ou ho cl :: Bs) := by
  show am_Rn sc 129 (0, [some (.ref 416), some (.int each), none], [], _) _
  have L : ∀ (d i : Nat), i + d = P → am_Rn sc 129 (2, [some (.ref 416), some (.int each), some (.int (Int32.ofNat i))], [], B0 :: B1 :: B2 :: B3 :: B4 :: B5 :: B6 :: B7 :: B8 :: B9 :: B10 :: B11 :: B12 :: bkModel tr ty nx tk pl va fa (Int32.ofNat P) dp cm tx (mp_ru nu dn) (mp_ps (mp_q la me tc ts) ps) (mp_s rd pr pv sa pd lo bo (am_fold i (sp_pay sh each) co) sh se si er of_) sp ke ik bi bt so nr ou ho cl :: Bs) (fun r M' => r = none ∧ M' = B0 :: B1 :: B2 :: B3 :: B4 :: B5 :: B6 :: B7 :: B8 :: B9 :: B10 :: B11 :: B12 :: bkModel tr ty nx tk pl va fa (Int32.ofNat P) dp cm tx (mp_ru nu dn) (mp_ps (mp_q la me tc ts) ps) (mp_s rd pr pv sa (pd + each) lo bo (am_fold P (sp_pay sh each) co) sh se si er of_) sp ke ik bi bt so nr ou ho cl :: Bs) := by
    intro d
    induction d with
    | zero =>
      intro i  hi
      have hiP : i = P := by omega
      subst i
      refine am_Rn.go (t := am_t129) rfl 4 rfl ⟨trivial, trivial, trivial, trivial, trivial⟩ ?_
      refine am_Rn.brT (by first | exact (am_le (by omega) (by omega)).mpr (Nat.le_refl _) | exact fun q => absurd ((am_lt (by omega) (by omega)).mp q) (Nat.lt_irrefl _) | exact (am_lt (by omega) (by omega)).mpr (by omega) | decide) ?_
      refine am_Rn.go (t := am_t129) rfl 8 rfl ⟨trivial, trivial, trivial, trivial, (by first | exact am_inb_lit rfl | exact am_inb_of (by omega) (by omega)), trivial, trivial, (by first | exact am_inb_lit rfl | exact am_inb_of (by omega) (by omega)), trivial⟩ ?_
      show am_Rn sc 129 (31, _, _, B0 :: B1 :: B2 :: B3 :: B4 :: B5 :: B6 :: B7 :: B8 :: B9 :: B10 :: B11 :: B12 :: bkModel tr ty nx tk pl va fa (Int32.ofNat P) dp cm tx (mp_ru nu dn) (mp_ps (mp_q la me tc ts) ps) (upd (mp_s rd pr pv sa pd lo bo (am_fold P (sp_pay sh each) co) sh se si er of_) 4 (pd + each)) sp ke ik bi bt so nr ou ho cl :: Bs) _
      rw [mp_set4]
      refine am_Rn.ret (t := am_t129) rfl rfl trivial ?_
      exact ⟨rfl, rfl⟩
    | succ d ih =>
      intro i  hi
      have hiP : i < P := by omega
      have e1 : (Int32.ofNat i).toNatClampNeg = i := am_tn i (by omega)
      refine am_Rn.go (t := am_t129) rfl 4 rfl ⟨trivial, trivial, trivial, trivial, trivial⟩ ?_
      refine am_Rn.brF (by first | exact fun q => absurd ((am_le (by omega) (by omega)).mp q) (by omega) | exact fun q => absurd ((am_le (i := 9) (by omega) (by omega)).mp q) (by omega) | exact fun q => absurd ((am_le (i := 10) (by omega) (by omega)).mp q) (by omega) | exact fun q => absurd ((am_le (i := 80) (by omega) (by omega)).mp q) (by omega) | exact (am_lt (by omega) (by omega)).mpr hiP | exact fun q => absurd ((am_lt (by omega) (by omega)).mp q) (by omega)) ?_
      refine am_Rn.go (t := am_t129) rfl 6 rfl ⟨trivial, trivial, trivial, trivial, trivial, trivial, trivial⟩ ?_
      refine am_Rn.call (t := am_t129) rfl rfl (mm_of0 sc i (by omega) ..) ?_
      rintro _ _ ⟨rfl, rfl⟩
      refine am_Rn.go (t := am_t129) rfl 4 rfl ⟨trivial, trivial, trivial, trivial, trivial⟩ ?_
      refine am_Rn.call (t := am_t129) rfl rfl (mm_of1 sc i (by omega) ..) ?_
      rintro _ _ ⟨rfl, rfl⟩
      refine am_Rn.go (t := am_t129) rfl 2 rfl ⟨trivial, trivial, trivial⟩ ?_
      refine am_Rn.call (t := am_t129) rfl rfl (mm_puts0 sc i (by omega) ..) ?_
      rintro _ _ ⟨rfl, rfl⟩
      refine am_Rn.go (t := am_t129) rfl 2 rfl ⟨trivial, trivial, trivial⟩ ?_
      have g := ih (i + 1) (by omega)
      rw [am_fold_succ, ← am_inc] at g
      rw [am_paycomm]
      exact g
  refine am_Rn.go (t := am_t129) rfl 2 rfl ⟨trivial, trivial, trivial⟩ ?_
  exact L P 0 (by omega)
