theorem mm_buyer (sc : am_Sc) (P : Nat) (hP : P ≤ 9) (tr : Int64) (ty nx tk pl va fa dp cm : Int32) (tx nu dn la me tc ts ps : Nat → Int32) (rd pr pv sa pd lo : Int32) (bo co sh se si er of_ sp ke ik bi bt so nr ou ho cl : Nat → Int32) (B0 B1 B2 B3 B4 B5 B6 B7 B8 B9 B10 B11 B12 : List am_E) (Bs : am_M) : am_Rn sc 126 (0, am_entry 126 [.ref 416], [], B0 :: B1 :: B2 :: B3 :: B4 :: B5 :: B6 :: B7 :: B8 :: B9 :: B10 :: B11 :: B12 :: bkModel tr ty nx tk pl va fa (Int32.ofNat P) dp cm tx (mp_ru nu dn) (mp_ps (mp_q la me tc ts) ps) (mp_s rd pr pv sa pd lo bo co sh se si er of_) sp ke ik bi bt so nr ou ho cl :: Bs) (fun r M' => r = some (.int (am_on (-9) (am_fold P (sp_bestB (sp_mayB nu co bi bt) bi) none))) ∧ M' = B0 :: B1 :: B2 :: B3 :: B4 :: B5 :: B6 :: B7 :: B8 :: B9 :: B10 :: B11 :: B12 :: bkModel tr ty nx tk pl va fa (Int32.ofNat P) dp cm tx (mp_ru nu dn) (mp_ps (mp_q la me tc ts) ps) (mp_s rd pr pv sa pd lo bo co sh se si er of_) sp ke ik bi bt so nr ou ho cl :: Bs) := by
  show am_Rn sc 126 (0, [some (.ref 416), none, none, none], [], _) _
  have L : ∀ (d i : Nat) (x3 : Option Value), i + d = P → am_Rn sc 126 (4, [some (.ref 416), some (.int (am_on (-9) (am_fold i (sp_bestB (sp_mayB nu co bi bt) bi) none))), some (.int (Int32.ofNat i)), x3], [], B0 :: B1 :: B2 :: B3 :: B4 :: B5 :: B6 :: B7 :: B8 :: B9 :: B10 :: B11 :: B12 :: bkModel tr ty nx tk pl va fa (Int32.ofNat P) dp cm tx (mp_ru nu dn) (mp_ps (mp_q la me tc ts) ps) (mp_s rd pr pv sa pd lo bo co sh se si er of_) sp ke ik bi bt so nr ou ho cl :: Bs) (fun r M' => r = some (.int (am_on (-9) (am_fold P (sp_bestB (sp_mayB nu co bi bt) bi) none))) ∧ M' = B0 :: B1 :: B2 :: B3 :: B4 :: B5 :: B6 :: B7 :: B8 :: B9 :: B10 :: B11 :: B12 :: bkModel tr ty nx tk pl va fa (Int32.ofNat P) dp cm tx (mp_ru nu dn) (mp_ps (mp_q la me tc ts) ps) (mp_s rd pr pv sa pd lo bo co sh se si er of_) sp ke ik bi bt so nr ou ho cl :: Bs) := by
    intro d
    induction d with
    | zero =>
      intro i x3 hi
      have hiP : i = P := by omega
      subst i
      refine am_Rn.go (t := am_t126) rfl 4 rfl ⟨trivial, trivial, trivial, trivial, trivial⟩ ?_
      refine am_Rn.brT (by first | exact (am_le (by omega) (by omega)).mpr (Nat.le_refl _) | exact fun q => absurd ((am_lt (by omega) (by omega)).mp q) (Nat.lt_irrefl _) | exact (am_lt (by omega) (by omega)).mpr (by omega) | decide) ?_
      refine am_Rn.go (t := am_t126) rfl 1 rfl ⟨trivial, trivial⟩ ?_
      refine am_Rn.ret (t := am_t126) rfl rfl trivial ?_
      exact ⟨rfl, rfl⟩
    | succ d ih =>
      intro i x3 hi
      have hiP : i < P := by omega
      have e1 : (Int32.ofNat i).toNatClampNeg = i := am_tn i (by omega)
      have hq := sp_bestB_lt (sp_mayB nu co bi bt) bi i
      generalize hF : (am_fold i (sp_bestB (sp_mayB nu co bi bt) bi) none) = o at hq ⊢
      rcases Classical.em (bt i < 2) with h1 | h1
      · skip
        rcases Classical.em (bi i + nu 8 ≤ co i + nu 5) with h2 | h2
        · skip
          rcases o with _ | q
          · skip
            refine am_Rn.go (t := am_t126) rfl 4 rfl ⟨trivial, trivial, trivial, trivial, trivial⟩ ?_
            refine am_Rn.brF (by first | exact fun q => absurd ((am_le (by omega) (by omega)).mp q) (by omega) | exact fun q => absurd ((am_le (i := 9) (by omega) (by omega)).mp q) (by omega) | exact fun q => absurd ((am_le (i := 10) (by omega) (by omega)).mp q) (by omega) | exact fun q => absurd ((am_le (i := 80) (by omega) (by omega)).mp q) (by omega) | exact (am_lt (by omega) (by omega)).mpr hiP | exact fun q => absurd ((am_lt (by omega) (by omega)).mp q) (by omega)) ?_
            refine am_Rn.go (t := am_t126) rfl 6 rfl ⟨trivial, trivial, trivial, (by first | exact am_inb_lit rfl | exact am_inb_of (by omega) (by omega)), trivial, trivial, trivial⟩ ?_
            refine am_Rn.brF (by rw [e1]; exact Int32.not_le.mpr h1) ?_
            refine am_Rn.go (t := am_t126) rfl 3 rfl ⟨trivial, trivial, trivial, trivial⟩ ?_
            refine am_Rn.call (t := am_t126) rfl rfl (mm_of0 sc i (by omega) ..) ?_
            rintro _ _ ⟨rfl, rfl⟩
            refine am_Rn.go (t := am_t126) rfl 15 rfl ⟨trivial, trivial, trivial, (by first | exact am_inb_lit rfl | exact am_inb_of (by omega) (by omega)), trivial, trivial, trivial, trivial, (by first | exact am_inb_lit rfl | exact am_inb_of (by omega) (by omega)), trivial, trivial, trivial, (by first | exact am_inb_lit rfl | exact am_inb_of (by omega) (by omega)), trivial, trivial, trivial⟩ ?_
            refine am_Rn.brF (by rw [e1]; exact Int32.not_lt.mpr h2) ?_
            refine am_Rn.go (t := am_t126) rfl 5 rfl ⟨trivial, trivial, trivial, trivial, trivial, trivial⟩ ?_
            refine am_Rn.brF (by decide) ?_
            refine am_Rn.go (t := am_t126) rfl 3 rfl ⟨trivial, trivial, trivial, trivial⟩ ?_
            refine am_Rn.brT rfl ?_
            refine am_Rn.go (t := am_t126) rfl 5 rfl ⟨trivial, trivial, trivial, trivial, trivial, trivial⟩ ?_
            have g := ih (i + 1) (some (.int 1)) (by omega)
            rw [am_fold_succ, hF, sp_bestB_T (show (sp_mayB nu co bi bt i && sp_over bi none i) = true by unfold sp_mayB sp_over; simp [h1, h2]), ← am_inc] at g
            exact g
          · skip
            have hq1 := hq q rfl
            have e2 : (am_on (-9) (some q)).toNatClampNeg = q := am_tn q (by omega)
            rcases Classical.em (bi q < bi i) with h3 | h3
            · skip
              refine am_Rn.go (t := am_t126) rfl 4 rfl ⟨trivial, trivial, trivial, trivial, trivial⟩ ?_
              refine am_Rn.brF (by first | exact fun q => absurd ((am_le (by omega) (by omega)).mp q) (by omega) | exact fun q => absurd ((am_le (i := 9) (by omega) (by omega)).mp q) (by omega) | exact fun q => absurd ((am_le (i := 10) (by omega) (by omega)).mp q) (by omega) | exact fun q => absurd ((am_le (i := 80) (by omega) (by omega)).mp q) (by omega) | exact (am_lt (by omega) (by omega)).mpr hiP | exact fun q => absurd ((am_lt (by omega) (by omega)).mp q) (by omega)) ?_
              refine am_Rn.go (t := am_t126) rfl 6 rfl ⟨trivial, trivial, trivial, (by first | exact am_inb_lit rfl | exact am_inb_of (by omega) (by omega)), trivial, trivial, trivial⟩ ?_
              refine am_Rn.brF (by rw [e1]; exact Int32.not_le.mpr h1) ?_
              refine am_Rn.go (t := am_t126) rfl 3 rfl ⟨trivial, trivial, trivial, trivial⟩ ?_
              refine am_Rn.call (t := am_t126) rfl rfl (mm_of0 sc i (by omega) ..) ?_
              rintro _ _ ⟨rfl, rfl⟩
              refine am_Rn.go (t := am_t126) rfl 15 rfl ⟨trivial, trivial, trivial, (by first | exact am_inb_lit rfl | exact am_inb_of (by omega) (by omega)), trivial, trivial, trivial, trivial, (by first | exact am_inb_lit rfl | exact am_inb_of (by omega) (by omega)), trivial, trivial, trivial, (by first | exact am_inb_lit rfl | exact am_inb_of (by omega) (by omega)), trivial, trivial, trivial⟩ ?_
              refine am_Rn.brF (by rw [e1]; exact Int32.not_lt.mpr h2) ?_
              refine am_Rn.go (t := am_t126) rfl 5 rfl ⟨trivial, trivial, trivial, trivial, trivial, trivial⟩ ?_
              refine am_Rn.brF (by decide) ?_
              refine am_Rn.go (t := am_t126) rfl 3 rfl ⟨trivial, trivial, trivial, trivial⟩ ?_
              refine am_Rn.brF (fun z : Int32.ofNat q = -9 => by have := congrArg Int32.toInt z; rw [am_ofN q (by omega)] at this; rw [show (-9 : Int32).toInt = -9 from rfl] at this; omega) ?_
              refine am_Rn.go (t := am_t126) rfl 9 rfl ⟨trivial, trivial, trivial, (by first | exact am_inb_lit rfl | exact am_inb_of (by omega) (by omega)), trivial, trivial, trivial, (by first | exact am_inb_lit rfl | exact am_inb_of (by omega) (by omega)), trivial, trivial⟩ ?_
              refine am_Rn.brF (by rw [e1, e2]; exact Int32.not_le.mpr h3) ?_
              refine am_Rn.go (t := am_t126) rfl 5 rfl ⟨trivial, trivial, trivial, trivial, trivial, trivial⟩ ?_
              have g := ih (i + 1) (some (.int 1)) (by omega)
              rw [am_fold_succ, hF, sp_bestB_T (show (sp_mayB nu co bi bt i && sp_over bi (some q) i) = true by unfold sp_mayB sp_over; simp [h1, h2, h3]), ← am_inc] at g
              exact g
            · skip
              refine am_Rn.go (t := am_t126) rfl 4 rfl ⟨trivial, trivial, trivial, trivial, trivial⟩ ?_
              refine am_Rn.brF (by first | exact fun q => absurd ((am_le (by omega) (by omega)).mp q) (by omega) | exact fun q => absurd ((am_le (i := 9) (by omega) (by omega)).mp q) (by omega) | exact fun q => absurd ((am_le (i := 10) (by omega) (by omega)).mp q) (by omega) | exact fun q => absurd ((am_le (i := 80) (by omega) (by omega)).mp q) (by omega) | exact (am_lt (by omega) (by omega)).mpr hiP | exact fun q => absurd ((am_lt (by omega) (by omega)).mp q) (by omega)) ?_
              refine am_Rn.go (t := am_t126) rfl 6 rfl ⟨trivial, trivial, trivial, (by first | exact am_inb_lit rfl | exact am_inb_of (by omega) (by omega)), trivial, trivial, trivial⟩ ?_
              refine am_Rn.brF (by rw [e1]; exact Int32.not_le.mpr h1) ?_
              refine am_Rn.go (t := am_t126) rfl 3 rfl ⟨trivial, trivial, trivial, trivial⟩ ?_
              refine am_Rn.call (t := am_t126) rfl rfl (mm_of0 sc i (by omega) ..) ?_
              rintro _ _ ⟨rfl, rfl⟩
              refine am_Rn.go (t := am_t126) rfl 15 rfl ⟨trivial, trivial, trivial, (by first | exact am_inb_lit rfl | exact am_inb_of (by omega) (by omega)), trivial, trivial, trivial, trivial, (by first | exact am_inb_lit rfl | exact am_inb_of (by omega) (by omega)), trivial, trivial, trivial, (by first | exact am_inb_lit rfl | exact am_inb_of (by omega) (by omega)), trivial, trivial, trivial⟩ ?_
              refine am_Rn.brF (by rw [e1]; exact Int32.not_lt.mpr h2) ?_
              refine am_Rn.go (t := am_t126) rfl 5 rfl ⟨trivial, trivial, trivial, trivial, trivial, trivial⟩ ?_
              refine am_Rn.brF (by decide) ?_
              refine am_Rn.go (t := am_t126) rfl 3 rfl ⟨trivial, trivial, trivial, trivial⟩ ?_
              refine am_Rn.brF (fun z : Int32.ofNat q = -9 => by have := congrArg Int32.toInt z; rw [am_ofN q (by omega)] at this; rw [show (-9 : Int32).toInt = -9 from rfl] at this; omega) ?_
              refine am_Rn.go (t := am_t126) rfl 9 rfl ⟨trivial, trivial, trivial, (by first | exact am_inb_lit rfl | exact am_inb_of (by omega) (by omega)), trivial, trivial, trivial, (by first | exact am_inb_lit rfl | exact am_inb_of (by omega) (by omega)), trivial, trivial⟩ ?_
              refine am_Rn.brT (by rw [e1, e2]; exact Int32.not_lt.mp h3) ?_
              refine am_Rn.go (t := am_t126) rfl 4 rfl ⟨trivial, trivial, trivial, trivial, trivial⟩ ?_
              have g := ih (i + 1) (some (.int 1)) (by omega)
              rw [am_fold_succ, hF, sp_bestB_F (show ¬ (sp_mayB nu co bi bt i && sp_over bi (some q) i) = true by unfold sp_mayB sp_over; simp [h3]), ← am_inc] at g
              exact g
        · skip
          refine am_Rn.go (t := am_t126) rfl 4 rfl ⟨trivial, trivial, trivial, trivial, trivial⟩ ?_
          refine am_Rn.brF (by first | exact fun q => absurd ((am_le (by omega) (by omega)).mp q) (by omega) | exact fun q => absurd ((am_le (i := 9) (by omega) (by omega)).mp q) (by omega) | exact fun q => absurd ((am_le (i := 10) (by omega) (by omega)).mp q) (by omega) | exact fun q => absurd ((am_le (i := 80) (by omega) (by omega)).mp q) (by omega) | exact (am_lt (by omega) (by omega)).mpr hiP | exact fun q => absurd ((am_lt (by omega) (by omega)).mp q) (by omega)) ?_
          refine am_Rn.go (t := am_t126) rfl 6 rfl ⟨trivial, trivial, trivial, (by first | exact am_inb_lit rfl | exact am_inb_of (by omega) (by omega)), trivial, trivial, trivial⟩ ?_
          refine am_Rn.brF (by rw [e1]; exact Int32.not_le.mpr h1) ?_
          refine am_Rn.go (t := am_t126) rfl 3 rfl ⟨trivial, trivial, trivial, trivial⟩ ?_
          refine am_Rn.call (t := am_t126) rfl rfl (mm_of0 sc i (by omega) ..) ?_
          rintro _ _ ⟨rfl, rfl⟩
          refine am_Rn.go (t := am_t126) rfl 15 rfl ⟨trivial, trivial, trivial, (by first | exact am_inb_lit rfl | exact am_inb_of (by omega) (by omega)), trivial, trivial, trivial, trivial, (by first | exact am_inb_lit rfl | exact am_inb_of (by omega) (by omega)), trivial, trivial, trivial, (by first | exact am_inb_lit rfl | exact am_inb_of (by omega) (by omega)), trivial, trivial, trivial⟩ ?_
          refine am_Rn.brT (by rw [e1]; exact Int32.not_le.mp h2) ?_
          refine am_Rn.go (t := am_t126) rfl 4 rfl ⟨trivial, trivial, trivial, trivial, trivial⟩ ?_
          refine am_Rn.brT (by decide) ?_
          refine am_Rn.go (t := am_t126) rfl 4 rfl ⟨trivial, trivial, trivial, trivial, trivial⟩ ?_
          have g := ih (i + 1) (some (.int 0)) (by omega)
          rw [am_fold_succ, hF, sp_bestB_F (show ¬ (sp_mayB nu co bi bt i && sp_over bi o i) = true by unfold sp_mayB; simp [h2]), ← am_inc] at g
          exact g
      · skip
        refine am_Rn.go (t := am_t126) rfl 4 rfl ⟨trivial, trivial, trivial, trivial, trivial⟩ ?_
        refine am_Rn.brF (by first | exact fun q => absurd ((am_le (by omega) (by omega)).mp q) (by omega) | exact fun q => absurd ((am_le (i := 9) (by omega) (by omega)).mp q) (by omega) | exact fun q => absurd ((am_le (i := 10) (by omega) (by omega)).mp q) (by omega) | exact fun q => absurd ((am_le (i := 80) (by omega) (by omega)).mp q) (by omega) | exact (am_lt (by omega) (by omega)).mpr hiP | exact fun q => absurd ((am_lt (by omega) (by omega)).mp q) (by omega)) ?_
        refine am_Rn.go (t := am_t126) rfl 6 rfl ⟨trivial, trivial, trivial, (by first | exact am_inb_lit rfl | exact am_inb_of (by omega) (by omega)), trivial, trivial, trivial⟩ ?_
        refine am_Rn.brT (by rw [e1]; exact Int32.not_lt.mp h1) ?_
        refine am_Rn.go (t := am_t126) rfl 4 rfl ⟨trivial, trivial, trivial, trivial, trivial⟩ ?_
        refine am_Rn.brT (by decide) ?_
        refine am_Rn.go (t := am_t126) rfl 4 rfl ⟨trivial, trivial, trivial, trivial, trivial⟩ ?_
        have g := ih (i + 1) (some (.int 0)) (by omega)
        rw [am_fold_succ, hF, sp_bestB_F (show ¬ (sp_mayB nu co bi bt i && sp_over bi o i) = true by unfold sp_mayB; simp [h1]), ← am_inc] at g
        exact g
  refine am_Rn.go (t := am_t126) rfl 4 rfl ⟨trivial, trivial, trivial, trivial, trivial⟩ ?_
  exact L P 0 _ (by omega)
theorem mm_seller (sc : am_Sc) (P : Nat) (hP : P ≤ 9) (b : Nat) (hb : b < 9) (tr : Int64) (ty nx tk pl va fa dp cm : Int32) (tx nu dn la me tc ts ps : Nat → Int32) (rd pr pv sa pd lo : Int32) (bo co sh se si er of_ sp ke ik bi bt so nr ou ho cl : Nat → Int32) (B0 B1 B2 B3 B4 B5 B6 B7 B8 B9 B10 B11 B12 : List am_E) (Bs : am_M) : am_Rn sc 127 (0, am_entry 127 [.ref 416, .int (Int32.ofNat b)], [], B0 :: B1 :: B2 :: B3 :: B4 :: B5 :: B6 :: B7 :: B8 :: B9 :: B10 :: B11 :: B12 :: bkModel tr ty nx tk pl va fa (Int32.ofNat P) dp cm tx (mp_ru nu dn) (mp_ps (mp_q la me tc ts) ps) (mp_s rd pr pv sa pd lo bo co sh se si er of_) sp ke ik bi bt so nr ou ho cl :: Bs) (fun r M' => r = some (.int (am_on (-9) (am_fold P (sp_bestS (sp_mayS nu sh so (some b)) bi) none))) ∧ M' = B0 :: B1 :: B2 :: B3 :: B4 :: B5 :: B6 :: B7 :: B8 :: B9 :: B10 :: B11 :: B12 :: bkModel tr ty nx tk pl va fa (Int32.ofNat P) dp cm tx (mp_ru nu dn) (mp_ps (mp_q la me tc ts) ps) (mp_s rd pr pv sa pd lo bo co sh se si er of_) sp ke ik bi bt so nr ou ho cl :: Bs) := by
  show am_Rn sc 127 (0, [some (.ref 416), some (.int (Int32.ofNat b)), none, none, none], [], _) _
  have L : ∀ (d i : Nat) (x3 : Option Value), i + d = P → am_Rn sc 127 (4, [some (.ref 416), some (.int (Int32.ofNat b)), some (.int (am_on (-9) (am_fold i (sp_bestS (sp_mayS nu sh so (some b)) bi) none))), some (.int (Int32.ofNat i)), x3], [], B0 :: B1 :: B2 :: B3 :: B4 :: B5 :: B6 :: B7 :: B8 :: B9 :: B10 :: B11 :: B12 :: bkModel tr ty nx tk pl va fa (Int32.ofNat P) dp cm tx (mp_ru nu dn) (mp_ps (mp_q la me tc ts) ps) (mp_s rd pr pv sa pd lo bo co sh se si er of_) sp ke ik bi bt so nr ou ho cl :: Bs) (fun r M' => r = some (.int (am_on (-9) (am_fold P (sp_bestS (sp_mayS nu sh so (some b)) bi) none))) ∧ M' = B0 :: B1 :: B2 :: B3 :: B4 :: B5 :: B6 :: B7 :: B8 :: B9 :: B10 :: B11 :: B12 :: bkModel tr ty nx tk pl va fa (Int32.ofNat P) dp cm tx (mp_ru nu dn) (mp_ps (mp_q la me tc ts) ps) (mp_s rd pr pv sa pd lo bo co sh se si er of_) sp ke ik bi bt so nr ou ho cl :: Bs) := by
    intro d
    induction d with
    | zero =>
      intro i x3 hi
      have hiP : i = P := by omega
      subst i
      refine am_Rn.go (t := am_t127) rfl 4 rfl ⟨trivial, trivial, trivial, trivial, trivial⟩ ?_
      refine am_Rn.brT (by first | exact (am_le (by omega) (by omega)).mpr (Nat.le_refl _) | exact fun q => absurd ((am_lt (by omega) (by omega)).mp q) (Nat.lt_irrefl _) | exact (am_lt (by omega) (by omega)).mpr (by omega) | decide) ?_
      refine am_Rn.go (t := am_t127) rfl 1 rfl ⟨trivial, trivial⟩ ?_
      refine am_Rn.ret (t := am_t127) rfl rfl trivial ?_
      exact ⟨rfl, rfl⟩
    | succ d ih =>
      intro i x3 hi
      have hiP : i < P := by omega
      have e1 : (Int32.ofNat i).toNatClampNeg = i := am_tn i (by omega)
      have hq := sp_bestS_lt (sp_mayS nu sh so (some b)) bi i
      generalize hF : (am_fold i (sp_bestS (sp_mayS nu sh so (some b)) bi) none) = o at hq ⊢
      rcases Classical.em (b = i) with h0 | h0
      · skip
        refine am_Rn.go (t := am_t127) rfl 4 rfl ⟨trivial, trivial, trivial, trivial, trivial⟩ ?_
        refine am_Rn.brF (by first | exact fun q => absurd ((am_le (by omega) (by omega)).mp q) (by omega) | exact fun q => absurd ((am_le (i := 9) (by omega) (by omega)).mp q) (by omega) | exact fun q => absurd ((am_le (i := 10) (by omega) (by omega)).mp q) (by omega) | exact fun q => absurd ((am_le (i := 80) (by omega) (by omega)).mp q) (by omega) | exact (am_lt (by omega) (by omega)).mpr hiP | exact fun q => absurd ((am_lt (by omega) (by omega)).mp q) (by omega)) ?_
        refine am_Rn.go (t := am_t127) rfl 3 rfl ⟨trivial, trivial, trivial, trivial⟩ ?_
        refine am_Rn.brT (by rw [h0]) ?_
        refine am_Rn.go (t := am_t127) rfl 4 rfl ⟨trivial, trivial, trivial, trivial, trivial⟩ ?_
        refine am_Rn.brT (by decide) ?_
        refine am_Rn.go (t := am_t127) rfl 4 rfl ⟨trivial, trivial, trivial, trivial, trivial⟩ ?_
        have g := ih (i + 1) (some (.int 0)) (by omega)
        rw [am_fold_succ, hF, sp_bestS_F (show ¬ (sp_mayS nu sh so (some b) i && sp_under bi o i) = true by unfold sp_mayS; simp [h0]), ← am_inc] at g
        exact g
      · skip
        rcases Classical.em (so i < 2) with h1 | h1
        · skip
          rcases Classical.em (0 < sh i + nu 6) with h2 | h2
          · skip
            rcases o with _ | q
            · skip
              refine am_Rn.go (t := am_t127) rfl 4 rfl ⟨trivial, trivial, trivial, trivial, trivial⟩ ?_
              refine am_Rn.brF (by first | exact fun q => absurd ((am_le (by omega) (by omega)).mp q) (by omega) | exact fun q => absurd ((am_le (i := 9) (by omega) (by omega)).mp q) (by omega) | exact fun q => absurd ((am_le (i := 10) (by omega) (by omega)).mp q) (by omega) | exact fun q => absurd ((am_le (i := 80) (by omega) (by omega)).mp q) (by omega) | exact (am_lt (by omega) (by omega)).mpr hiP | exact fun q => absurd ((am_lt (by omega) (by omega)).mp q) (by omega)) ?_
              refine am_Rn.go (t := am_t127) rfl 3 rfl ⟨trivial, trivial, trivial, trivial⟩ ?_
              refine am_Rn.brF (fun z => h0 ((am_eqi (by omega) (by omega)).mp z).symm) ?_
              refine am_Rn.go (t := am_t127) rfl 6 rfl ⟨trivial, trivial, trivial, (by first | exact am_inb_lit rfl | exact am_inb_of (by omega) (by omega)), trivial, trivial, trivial⟩ ?_
              refine am_Rn.brF (by rw [e1]; exact Int32.not_le.mpr h1) ?_
              refine am_Rn.go (t := am_t127) rfl 3 rfl ⟨trivial, trivial, trivial, trivial⟩ ?_
              refine am_Rn.call (t := am_t127) rfl rfl (mm_of1 sc i (by omega) ..) ?_
              rintro _ _ ⟨rfl, rfl⟩
              refine am_Rn.go (t := am_t127) rfl 6 rfl ⟨trivial, trivial, trivial, (by first | exact am_inb_lit rfl | exact am_inb_of (by omega) (by omega)), trivial, trivial, trivial⟩ ?_
              refine am_Rn.brF (Int32.not_le.mpr h2) ?_
              refine am_Rn.go (t := am_t127) rfl 5 rfl ⟨trivial, trivial, trivial, trivial, trivial, trivial⟩ ?_
              refine am_Rn.brF (by decide) ?_
              refine am_Rn.go (t := am_t127) rfl 3 rfl ⟨trivial, trivial, trivial, trivial⟩ ?_
              refine am_Rn.brT rfl ?_
              refine am_Rn.go (t := am_t127) rfl 5 rfl ⟨trivial, trivial, trivial, trivial, trivial, trivial⟩ ?_
              have g := ih (i + 1) (some (.int 1)) (by omega)
              rw [am_fold_succ, hF, sp_bestS_T (show (sp_mayS nu sh so (some b) i && sp_under bi none i) = true by unfold sp_mayS sp_under; simp [h0, h1, h2]), ← am_inc] at g
              exact g
            · skip
              have hq1 := hq q rfl
              have e2 : (am_on (-9) (some q)).toNatClampNeg = q := am_tn q (by omega)
              rcases Classical.em (bi i < bi q) with h3 | h3
              · skip
                refine am_Rn.go (t := am_t127) rfl 4 rfl ⟨trivial, trivial, trivial, trivial, trivial⟩ ?_
                refine am_Rn.brF (by first | exact fun q => absurd ((am_le (by omega) (by omega)).mp q) (by omega) | exact fun q => absurd ((am_le (i := 9) (by omega) (by omega)).mp q) (by omega) | exact fun q => absurd ((am_le (i := 10) (by omega) (by omega)).mp q) (by omega) | exact fun q => absurd ((am_le (i := 80) (by omega) (by omega)).mp q) (by omega) | exact (am_lt (by omega) (by omega)).mpr hiP | exact fun q => absurd ((am_lt (by omega) (by omega)).mp q) (by omega)) ?_
                refine am_Rn.go (t := am_t127) rfl 3 rfl ⟨trivial, trivial, trivial, trivial⟩ ?_
                refine am_Rn.brF (fun z => h0 ((am_eqi (by omega) (by omega)).mp z).symm) ?_
                refine am_Rn.go (t := am_t127) rfl 6 rfl ⟨trivial, trivial, trivial, (by first | exact am_inb_lit rfl | exact am_inb_of (by omega) (by omega)), trivial, trivial, trivial⟩ ?_
                refine am_Rn.brF (by rw [e1]; exact Int32.not_le.mpr h1) ?_
                refine am_Rn.go (t := am_t127) rfl 3 rfl ⟨trivial, trivial, trivial, trivial⟩ ?_
                refine am_Rn.call (t := am_t127) rfl rfl (mm_of1 sc i (by omega) ..) ?_
                rintro _ _ ⟨rfl, rfl⟩
                refine am_Rn.go (t := am_t127) rfl 6 rfl ⟨trivial, trivial, trivial, (by first | exact am_inb_lit rfl | exact am_inb_of (by omega) (by omega)), trivial, trivial, trivial⟩ ?_
                refine am_Rn.brF (Int32.not_le.mpr h2) ?_
                refine am_Rn.go (t := am_t127) rfl 5 rfl ⟨trivial, trivial, trivial, trivial, trivial, trivial⟩ ?_
                refine am_Rn.brF (by decide) ?_
                refine am_Rn.go (t := am_t127) rfl 3 rfl ⟨trivial, trivial, trivial, trivial⟩ ?_
                refine am_Rn.brF (fun z : Int32.ofNat q = -9 => by have := congrArg Int32.toInt z; rw [am_ofN q (by omega)] at this; rw [show (-9 : Int32).toInt = -9 from rfl] at this; omega) ?_
                refine am_Rn.go (t := am_t127) rfl 9 rfl ⟨trivial, trivial, trivial, (by first | exact am_inb_lit rfl | exact am_inb_of (by omega) (by omega)), trivial, trivial, trivial, (by first | exact am_inb_lit rfl | exact am_inb_of (by omega) (by omega)), trivial, trivial⟩ ?_
                refine am_Rn.brF (by rw [e1, e2]; exact Int32.not_le.mpr h3) ?_
                refine am_Rn.go (t := am_t127) rfl 5 rfl ⟨trivial, trivial, trivial, trivial, trivial, trivial⟩ ?_
                have g := ih (i + 1) (some (.int 1)) (by omega)
                rw [am_fold_succ, hF, sp_bestS_T (show (sp_mayS nu sh so (some b) i && sp_under bi (some q) i) = true by unfold sp_mayS sp_under; simp [h0, h1, h2, h3]), ← am_inc] at g
                exact g
              · skip
                refine am_Rn.go (t := am_t127) rfl 4 rfl ⟨trivial, trivial, trivial, trivial, trivial⟩ ?_
                refine am_Rn.brF (by first | exact fun q => absurd ((am_le (by omega) (by omega)).mp q) (by omega) | exact fun q => absurd ((am_le (i := 9) (by omega) (by omega)).mp q) (by omega) | exact fun q => absurd ((am_le (i := 10) (by omega) (by omega)).mp q) (by omega) | exact fun q => absurd ((am_le (i := 80) (by omega) (by omega)).mp q) (by omega) | exact (am_lt (by omega) (by omega)).mpr hiP | exact fun q => absurd ((am_lt (by omega) (by omega)).mp q) (by omega)) ?_
                refine am_Rn.go (t := am_t127) rfl 3 rfl ⟨trivial, trivial, trivial, trivial⟩ ?_
                refine am_Rn.brF (fun z => h0 ((am_eqi (by omega) (by omega)).mp z).symm) ?_
                refine am_Rn.go (t := am_t127) rfl 6 rfl ⟨trivial, trivial, trivial, (by first | exact am_inb_lit rfl | exact am_inb_of (by omega) (by omega)), trivial, trivial, trivial⟩ ?_
                refine am_Rn.brF (by rw [e1]; exact Int32.not_le.mpr h1) ?_
                refine am_Rn.go (t := am_t127) rfl 3 rfl ⟨trivial, trivial, trivial, trivial⟩ ?_
                refine am_Rn.call (t := am_t127) rfl rfl (mm_of1 sc i (by omega) ..) ?_
                rintro _ _ ⟨rfl, rfl⟩
                refine am_Rn.go (t := am_t127) rfl 6 rfl ⟨trivial, trivial, trivial, (by first | exact am_inb_lit rfl | exact am_inb_of (by omega) (by omega)), trivial, trivial, trivial⟩ ?_
                refine am_Rn.brF (Int32.not_le.mpr h2) ?_
                refine am_Rn.go (t := am_t127) rfl 5 rfl ⟨trivial, trivial, trivial, trivial, trivial, trivial⟩ ?_
                refine am_Rn.brF (by decide) ?_
                refine am_Rn.go (t := am_t127) rfl 3 rfl ⟨trivial, trivial, trivial, trivial⟩ ?_
                refine am_Rn.brF (fun z : Int32.ofNat q = -9 => by have := congrArg Int32.toInt z; rw [am_ofN q (by omega)] at this; rw [show (-9 : Int32).toInt = -9 from rfl] at this; omega) ?_
                refine am_Rn.go (t := am_t127) rfl 9 rfl ⟨trivial, trivial, trivial, (by first | exact am_inb_lit rfl | exact am_inb_of (by omega) (by omega)), trivial, trivial, trivial, (by first | exact am_inb_lit rfl | exact am_inb_of (by omega) (by omega)), trivial, trivial⟩ ?_
                refine am_Rn.brT (by rw [e1, e2]; exact Int32.not_lt.mp h3) ?_
                refine am_Rn.go (t := am_t127) rfl 4 rfl ⟨trivial, trivial, trivial, trivial, trivial⟩ ?_
                have g := ih (i + 1) (some (.int 1)) (by omega)
                rw [am_fold_succ, hF, sp_bestS_F (show ¬ (sp_mayS nu sh so (some b) i && sp_under bi (some q) i) = true by unfold sp_mayS sp_under; simp [h3]), ← am_inc] at g
                exact g
          · skip
            refine am_Rn.go (t := am_t127) rfl 4 rfl ⟨trivial, trivial, trivial, trivial, trivial⟩ ?_
            refine am_Rn.brF (by first | exact fun q => absurd ((am_le (by omega) (by omega)).mp q) (by omega) | exact fun q => absurd ((am_le (i := 9) (by omega) (by omega)).mp q) (by omega) | exact fun q => absurd ((am_le (i := 10) (by omega) (by omega)).mp q) (by omega) | exact fun q => absurd ((am_le (i := 80) (by omega) (by omega)).mp q) (by omega) | exact (am_lt (by omega) (by omega)).mpr hiP | exact fun q => absurd ((am_lt (by omega) (by omega)).mp q) (by omega)) ?_
            refine am_Rn.go (t := am_t127) rfl 3 rfl ⟨trivial, trivial, trivial, trivial⟩ ?_
            refine am_Rn.brF (fun z => h0 ((am_eqi (by omega) (by omega)).mp z).symm) ?_
            refine am_Rn.go (t := am_t127) rfl 6 rfl ⟨trivial, trivial, trivial, (by first | exact am_inb_lit rfl | exact am_inb_of (by omega) (by omega)), trivial, trivial, trivial⟩ ?_
            refine am_Rn.brF (by rw [e1]; exact Int32.not_le.mpr h1) ?_
            refine am_Rn.go (t := am_t127) rfl 3 rfl ⟨trivial, trivial, trivial, trivial⟩ ?_
            refine am_Rn.call (t := am_t127) rfl rfl (mm_of1 sc i (by omega) ..) ?_
            rintro _ _ ⟨rfl, rfl⟩
            refine am_Rn.go (t := am_t127) rfl 6 rfl ⟨trivial, trivial, trivial, (by first | exact am_inb_lit rfl | exact am_inb_of (by omega) (by omega)), trivial, trivial, trivial⟩ ?_
            refine am_Rn.brT (Int32.not_lt.mp h2) ?_
            refine am_Rn.go (t := am_t127) rfl 4 rfl ⟨trivial, trivial, trivial, trivial, trivial⟩ ?_
            refine am_Rn.brT (by decide) ?_
            refine am_Rn.go (t := am_t127) rfl 4 rfl ⟨trivial, trivial, trivial, trivial, trivial⟩ ?_
            have g := ih (i + 1) (some (.int 0)) (by omega)
            rw [am_fold_succ, hF, sp_bestS_F (show ¬ (sp_mayS nu sh so (some b) i && sp_under bi o i) = true by unfold sp_mayS; simp [h2]), ← am_inc] at g
            exact g
        · skip
          refine am_Rn.go (t := am_t127) rfl 4 rfl ⟨trivial, trivial, trivial, trivial, trivial⟩ ?_
          refine am_Rn.brF (by first | exact fun q => absurd ((am_le (by omega) (by omega)).mp q) (by omega) | exact fun q => absurd ((am_le (i := 9) (by omega) (by omega)).mp q) (by omega) | exact fun q => absurd ((am_le (i := 10) (by omega) (by omega)).mp q) (by omega) | exact fun q => absurd ((am_le (i := 80) (by omega) (by omega)).mp q) (by omega) | exact (am_lt (by omega) (by omega)).mpr hiP | exact fun q => absurd ((am_lt (by omega) (by omega)).mp q) (by omega)) ?_
          refine am_Rn.go (t := am_t127) rfl 3 rfl ⟨trivial, trivial, trivial, trivial⟩ ?_
          refine am_Rn.brF (fun z => h0 ((am_eqi (by omega) (by omega)).mp z).symm) ?_
          refine am_Rn.go (t := am_t127) rfl 6 rfl ⟨trivial, trivial, trivial, (by first | exact am_inb_lit rfl | exact am_inb_of (by omega) (by omega)), trivial, trivial, trivial⟩ ?_
          refine am_Rn.brT (by rw [e1]; exact Int32.not_lt.mp h1) ?_
          refine am_Rn.go (t := am_t127) rfl 4 rfl ⟨trivial, trivial, trivial, trivial, trivial⟩ ?_
          refine am_Rn.brT (by decide) ?_
          refine am_Rn.go (t := am_t127) rfl 4 rfl ⟨trivial, trivial, trivial, trivial, trivial⟩ ?_
          have g := ih (i + 1) (some (.int 0)) (by omega)
          rw [am_fold_succ, hF, sp_bestS_F (show ¬ (sp_mayS nu sh so (some b) i && sp_under bi o i) = true by unfold sp_mayS; simp [h1]), ← am_inc] at g
          exact g
  refine am_Rn.go (t := am_t127) rfl 4 rfl ⟨trivial, trivial, trivial, trivial, trivial⟩ ?_
  exact L P 0 _ (by omega)
