theorem mm_peak0 (sc : am_Sc) (rn : Nat) (hr : rn ≤ 20) (tr : Int64) (ty nx tk pl va fa dp cm : Int32) (tx nu dn la me tc ts ps : Nat → Int32) (P : Nat) (pr pv sa pd lo : Int32) (bo co sh se si er of_ sp ke ik bi bt so nr ou ho cl : Nat → Int32) (B0 B1 B2 B3 B4 B5 B6 B7 B8 B9 B10 B11 B12 : List am_E) (Bs : am_M) : am_Rn sc 134 (0, am_entry 134 [.ref 416, .int 0], [], B0 :: B1 :: B2 :: B3 :: B4 :: B5 :: B6 :: B7 :: B8 :: B9 :: B10 :: B11 :: B12 :: bkModel tr ty nx tk pl va fa (Int32.ofNat P) dp cm tx (mp_ru nu dn) (mp_ps (mp_q la me tc ts) ps) (mp_s (Int32.ofNat rn) pr pv sa pd lo bo co sh se si er of_) sp ke ik bi bt so nr ou ho cl :: Bs) (fun r M' => r = some (.int (sp_peak bo rn)) ∧ M' = B0 :: B1 :: B2 :: B3 :: B4 :: B5 :: B6 :: B7 :: B8 :: B9 :: B10 :: B11 :: B12 :: bkModel tr ty nx tk pl va fa (Int32.ofNat P) dp cm tx (mp_ru nu dn) (mp_ps (mp_q la me tc ts) ps) (mp_s (Int32.ofNat rn) pr pv sa pd lo bo co sh se si er of_) sp ke ik bi bt so nr ou ho cl :: Bs) := by
  show am_Rn sc 134 (0, [some (.ref 416), some (.int 0), none, none], [], _) _
  have L : ∀ (d i : Nat), i + d = rn → am_Rn sc 134 (4, [some (.ref 416), some (.int 0), some (.int (am_on (-9) (am_fold i (sp_bestB (fun _ => true) bo) none))), some (.int (Int32.ofNat i))], [], B0 :: B1 :: B2 :: B3 :: B4 :: B5 :: B6 :: B7 :: B8 :: B9 :: B10 :: B11 :: B12 :: bkModel tr ty nx tk pl va fa (Int32.ofNat P) dp cm tx (mp_ru nu dn) (mp_ps (mp_q la me tc ts) ps) (mp_s (Int32.ofNat rn) pr pv sa pd lo bo co sh se si er of_) sp ke ik bi bt so nr ou ho cl :: Bs) (fun r M' => r = some (.int (sp_peak bo rn)) ∧ M' = B0 :: B1 :: B2 :: B3 :: B4 :: B5 :: B6 :: B7 :: B8 :: B9 :: B10 :: B11 :: B12 :: bkModel tr ty nx tk pl va fa (Int32.ofNat P) dp cm tx (mp_ru nu dn) (mp_ps (mp_q la me tc ts) ps) (mp_s (Int32.ofNat rn) pr pv sa pd lo bo co sh se si er of_) sp ke ik bi bt so nr ou ho cl :: Bs) := by
    intro d
    induction d with
    | zero =>
      intro i hi
      have hiP : i = rn := by omega
      subst i
      unfold sp_peak sp_pk
      have hq := sp_bestB_lt (fun _ => true) bo rn
      generalize hF : (am_fold rn (sp_bestB (fun _ => true) bo) none) = o at hq ⊢
      rcases o with _ | q
      · skip
        refine am_Rn.go (t := am_t134) rfl 6 rfl ⟨trivial, trivial, trivial, trivial, (by first | exact am_inb_lit rfl | exact am_inb_of (by omega) (by omega)), trivial, trivial⟩ ?_
        refine am_Rn.brT (by first | exact (am_le (by omega) (by omega)).mpr (Nat.le_refl _) | exact fun q => absurd ((am_lt (by omega) (by omega)).mp q) (Nat.lt_irrefl _) | exact (am_lt (by omega) (by omega)).mpr (by omega) | decide) ?_
        refine am_Rn.go (t := am_t134) rfl 2 rfl ⟨trivial, trivial, trivial⟩ ?_
        refine am_Rn.brT (by decide) ?_
        refine am_Rn.go (t := am_t134) rfl 3 rfl ⟨trivial, trivial, trivial, trivial⟩ ?_
        refine am_Rn.brT rfl ?_
        refine am_Rn.go (t := am_t134) rfl 2 rfl ⟨trivial, trivial, trivial⟩ ?_
        refine am_Rn.ret (t := am_t134) rfl rfl trivial ?_
        exact ⟨rfl, rfl⟩
      · skip
        have hq1 := hq q rfl
        have eQ : (mp_s (Int32.ofNat rn) pr pv sa pd lo bo co sh se si er of_) (6 + am_on (-9) (some q)).toNatClampNeg = bo q := mp_boardN _ _ _ _ _ _ _ _ _ _ _ _ _ (show q < 20 by omega)
        refine am_Rn.go (t := am_t134) rfl 6 rfl ⟨trivial, trivial, trivial, trivial, (by first | exact am_inb_lit rfl | exact am_inb_of (by omega) (by omega)), trivial, trivial⟩ ?_
        refine am_Rn.brT (by first | exact (am_le (by omega) (by omega)).mpr (Nat.le_refl _) | exact fun q => absurd ((am_lt (by omega) (by omega)).mp q) (Nat.lt_irrefl _) | exact (am_lt (by omega) (by omega)).mpr (by omega) | decide) ?_
        refine am_Rn.go (t := am_t134) rfl 2 rfl ⟨trivial, trivial, trivial⟩ ?_
        refine am_Rn.brT (by decide) ?_
        refine am_Rn.go (t := am_t134) rfl 3 rfl ⟨trivial, trivial, trivial, trivial⟩ ?_
        refine am_Rn.brF (fun z : Int32.ofNat q = -9 => by have := congrArg Int32.toInt z; rw [am_ofN q (by omega)] at this; rw [show (-9 : Int32).toInt = -9 from rfl] at this; omega) ?_
        refine am_Rn.go (t := am_t134) rfl 6 rfl ⟨trivial, trivial, trivial, trivial, trivial, (by exact am_inb6N (i := q) (by omega)), trivial⟩ ?_
        refine am_Rn.ret (t := am_t134) rfl rfl trivial ?_
        refine ⟨congrArg (fun z => some (Value.int z)) ?_, rfl⟩
        exact eQ
    | succ d ih =>
      intro i hi
      have hiP : i < rn := by omega
      have e1 : (Int32.ofNat i).toNatClampNeg = i := am_tn i (by omega)
      have hq := sp_bestB_lt (fun _ => true) bo i
      generalize hF : (am_fold i (sp_bestB (fun _ => true) bo) none) = o at hq ⊢
      rcases o with _ | q
      · skip
        refine am_Rn.go (t := am_t134) rfl 6 rfl ⟨trivial, trivial, trivial, trivial, (by first | exact am_inb_lit rfl | exact am_inb_of (by omega) (by omega)), trivial, trivial⟩ ?_
        refine am_Rn.brF (by first | exact fun q => absurd ((am_le (by omega) (by omega)).mp q) (by omega) | exact fun q => absurd ((am_le (i := 9) (by omega) (by omega)).mp q) (by omega) | exact fun q => absurd ((am_le (i := 10) (by omega) (by omega)).mp q) (by omega) | exact fun q => absurd ((am_le (i := 80) (by omega) (by omega)).mp q) (by omega) | exact (am_lt (by omega) (by omega)).mpr hiP | exact fun q => absurd ((am_lt (by omega) (by omega)).mp q) (by omega)) ?_
        refine am_Rn.go (t := am_t134) rfl 3 rfl ⟨trivial, trivial, trivial, trivial⟩ ?_
        refine am_Rn.brT rfl ?_
        refine am_Rn.go (t := am_t134) rfl 5 rfl ⟨trivial, trivial, trivial, trivial, trivial, trivial⟩ ?_
        have g := ih (i + 1) (by omega)
        rw [am_fold_succ, hF, sp_bestB_T (show (true && sp_over bo none i) = true from rfl), ← am_inc] at g
        exact g
      · skip
        have hq1 := hq q rfl
        have eB : (mp_s (Int32.ofNat rn) pr pv sa pd lo bo co sh se si er of_) (6 + Int32.ofNat i).toNatClampNeg = bo i := mp_boardN _ _ _ _ _ _ _ _ _ _ _ _ _ (by omega)
        have eQ : (mp_s (Int32.ofNat rn) pr pv sa pd lo bo co sh se si er of_) (6 + am_on (-9) (some q)).toNatClampNeg = bo q := mp_boardN _ _ _ _ _ _ _ _ _ _ _ _ _ (show q < 20 by omega)
        rcases Classical.em (bo q < bo i) with h3 | h3
        · skip
          refine am_Rn.go (t := am_t134) rfl 6 rfl ⟨trivial, trivial, trivial, trivial, (by first | exact am_inb_lit rfl | exact am_inb_of (by omega) (by omega)), trivial, trivial⟩ ?_
          refine am_Rn.brF (by first | exact fun q => absurd ((am_le (by omega) (by omega)).mp q) (by omega) | exact fun q => absurd ((am_le (i := 9) (by omega) (by omega)).mp q) (by omega) | exact fun q => absurd ((am_le (i := 10) (by omega) (by omega)).mp q) (by omega) | exact fun q => absurd ((am_le (i := 80) (by omega) (by omega)).mp q) (by omega) | exact (am_lt (by omega) (by omega)).mpr hiP | exact fun q => absurd ((am_lt (by omega) (by omega)).mp q) (by omega)) ?_
          refine am_Rn.go (t := am_t134) rfl 3 rfl ⟨trivial, trivial, trivial, trivial⟩ ?_
          refine am_Rn.brF (fun z : Int32.ofNat q = -9 => by have := congrArg Int32.toInt z; rw [am_ofN q (by omega)] at this; rw [show (-9 : Int32).toInt = -9 from rfl] at this; omega) ?_
          refine am_Rn.go (t := am_t134) rfl 13 rfl ⟨trivial, trivial, trivial, trivial, trivial, (by exact am_inb6N (by omega)), trivial, trivial, trivial, trivial, trivial, (by exact am_inb6N (i := q) (by omega)), trivial, trivial⟩ ?_
          refine am_Rn.brF (by rw [eB, eQ]; exact Int32.not_le.mpr h3) ?_
          refine am_Rn.go (t := am_t134) rfl 5 rfl ⟨trivial, trivial, trivial, trivial, trivial, trivial⟩ ?_
          have g := ih (i + 1) (by omega)
          rw [am_fold_succ, hF, sp_bestB_T (show (true && sp_over bo (some q) i) = true by unfold sp_over; simp [h3]), ← am_inc] at g
          exact g
        · skip
          refine am_Rn.go (t := am_t134) rfl 6 rfl ⟨trivial, trivial, trivial, trivial, (by first | exact am_inb_lit rfl | exact am_inb_of (by omega) (by omega)), trivial, trivial⟩ ?_
          refine am_Rn.brF (by first | exact fun q => absurd ((am_le (by omega) (by omega)).mp q) (by omega) | exact fun q => absurd ((am_le (i := 9) (by omega) (by omega)).mp q) (by omega) | exact fun q => absurd ((am_le (i := 10) (by omega) (by omega)).mp q) (by omega) | exact fun q => absurd ((am_le (i := 80) (by omega) (by omega)).mp q) (by omega) | exact (am_lt (by omega) (by omega)).mpr hiP | exact fun q => absurd ((am_lt (by omega) (by omega)).mp q) (by omega)) ?_
          refine am_Rn.go (t := am_t134) rfl 3 rfl ⟨trivial, trivial, trivial, trivial⟩ ?_
          refine am_Rn.brF (fun z : Int32.ofNat q = -9 => by have := congrArg Int32.toInt z; rw [am_ofN q (by omega)] at this; rw [show (-9 : Int32).toInt = -9 from rfl] at this; omega) ?_
          refine am_Rn.go (t := am_t134) rfl 13 rfl ⟨trivial, trivial, trivial, trivial, trivial, (by exact am_inb6N (by omega)), trivial, trivial, trivial, trivial, trivial, (by exact am_inb6N (i := q) (by omega)), trivial, trivial⟩ ?_
          refine am_Rn.brT (by rw [eB, eQ]; exact Int32.not_lt.mp h3) ?_
          refine am_Rn.go (t := am_t134) rfl 4 rfl ⟨trivial, trivial, trivial, trivial, trivial⟩ ?_
          have g := ih (i + 1) (by omega)
          rw [am_fold_succ, hF, sp_bestB_F (show ¬ (true && sp_over bo (some q) i) = true by unfold sp_over; simp [h3]), ← am_inc] at g
          exact g
  refine am_Rn.go (t := am_t134) rfl 4 rfl ⟨trivial, trivial, trivial, trivial, trivial⟩ ?_
  exact L rn 0 (by omega)
theorem mm_peak1 (sc : am_Sc) (rn : Nat) (hr : rn ≤ 20) (tr : Int64) (ty nx tk pl va fa dp cm : Int32) (tx nu dn la me tc ts ps : Nat → Int32) (P : Nat) (pr pv sa pd lo : Int32) (bo co sh se si er of_ sp ke ik bi bt so nr ou ho cl : Nat → Int32) (B0 B1 B2 B3 B4 B5 B6 B7 B8 B9 B10 B11 B12 : List am_E) (Bs : am_M) : am_Rn sc 134 (0, am_entry 134 [.ref 416, .int 1], [], B0 :: B1 :: B2 :: B3 :: B4 :: B5 :: B6 :: B7 :: B8 :: B9 :: B10 :: B11 :: B12 :: bkModel tr ty nx tk pl va fa (Int32.ofNat P) dp cm tx (mp_ru nu dn) (mp_ps (mp_q la me tc ts) ps) (mp_s (Int32.ofNat rn) pr pv sa pd lo bo co sh se si er of_) sp ke ik bi bt so nr ou ho cl :: Bs) (fun r M' => r = some (.int (am_on (-9) (sp_pk bo rn))) ∧ M' = B0 :: B1 :: B2 :: B3 :: B4 :: B5 :: B6 :: B7 :: B8 :: B9 :: B10 :: B11 :: B12 :: bkModel tr ty nx tk pl va fa (Int32.ofNat P) dp cm tx (mp_ru nu dn) (mp_ps (mp_q la me tc ts) ps) (mp_s (Int32.ofNat rn) pr pv sa pd lo bo co sh se si er of_) sp ke ik bi bt so nr ou ho cl :: Bs) := by
  show am_Rn sc 134 (0, [some (.ref 416), some (.int 1), none, none], [], _) _
  have L : ∀ (d i : Nat), i + d = rn → am_Rn sc 134 (4, [some (.ref 416), some (.int 1), some (.int (am_on (-9) (am_fold i (sp_bestB (fun _ => true) bo) none))), some (.int (Int32.ofNat i))], [], B0 :: B1 :: B2 :: B3 :: B4 :: B5 :: B6 :: B7 :: B8 :: B9 :: B10 :: B11 :: B12 :: bkModel tr ty nx tk pl va fa (Int32.ofNat P) dp cm tx (mp_ru nu dn) (mp_ps (mp_q la me tc ts) ps) (mp_s (Int32.ofNat rn) pr pv sa pd lo bo co sh se si er of_) sp ke ik bi bt so nr ou ho cl :: Bs) (fun r M' => r = some (.int (am_on (-9) (sp_pk bo rn))) ∧ M' = B0 :: B1 :: B2 :: B3 :: B4 :: B5 :: B6 :: B7 :: B8 :: B9 :: B10 :: B11 :: B12 :: bkModel tr ty nx tk pl va fa (Int32.ofNat P) dp cm tx (mp_ru nu dn) (mp_ps (mp_q la me tc ts) ps) (mp_s (Int32.ofNat rn) pr pv sa pd lo bo co sh se si er of_) sp ke ik bi bt so nr ou ho cl :: Bs) := by
    intro d
    induction d with
    | zero =>
      intro i hi
      have hiP : i = rn := by omega
      subst i
      refine am_Rn.go (t := am_t134) rfl 6 rfl ⟨trivial, trivial, trivial, trivial, (by first | exact am_inb_lit rfl | exact am_inb_of (by omega) (by omega)), trivial, trivial⟩ ?_
      refine am_Rn.brT (by first | exact (am_le (by omega) (by omega)).mpr (Nat.le_refl _) | exact fun q => absurd ((am_lt (by omega) (by omega)).mp q) (Nat.lt_irrefl _) | exact (am_lt (by omega) (by omega)).mpr (by omega) | decide) ?_
      refine am_Rn.go (t := am_t134) rfl 2 rfl ⟨trivial, trivial, trivial⟩ ?_
      refine am_Rn.brF (by decide) ?_
      refine am_Rn.go (t := am_t134) rfl 2 rfl ⟨trivial, trivial, trivial⟩ ?_
      refine am_Rn.ret (t := am_t134) rfl rfl trivial ?_
      exact ⟨rfl, rfl⟩
    | succ d ih =>
      intro i hi
      have hiP : i < rn := by omega
      have e1 : (Int32.ofNat i).toNatClampNeg = i := am_tn i (by omega)
      have hq := sp_bestB_lt (fun _ => true) bo i
      generalize hF : (am_fold i (sp_bestB (fun _ => true) bo) none) = o at hq ⊢
      rcases o with _ | q
      · skip
        refine am_Rn.go (t := am_t134) rfl 6 rfl ⟨trivial, trivial, trivial, trivial, (by first | exact am_inb_lit rfl | exact am_inb_of (by omega) (by omega)), trivial, trivial⟩ ?_
        refine am_Rn.brF (by first | exact fun q => absurd ((am_le (by omega) (by omega)).mp q) (by omega) | exact fun q => absurd ((am_le (i := 9) (by omega) (by omega)).mp q) (by omega) | exact fun q => absurd ((am_le (i := 10) (by omega) (by omega)).mp q) (by omega) | exact fun q => absurd ((am_le (i := 80) (by omega) (by omega)).mp q) (by omega) | exact (am_lt (by omega) (by omega)).mpr hiP | exact fun q => absurd ((am_lt (by omega) (by omega)).mp q) (by omega)) ?_
        refine am_Rn.go (t := am_t134) rfl 3 rfl ⟨trivial, trivial, trivial, trivial⟩ ?_
        refine am_Rn.brT rfl ?_
        refine am_Rn.go (t := am_t134) rfl 5 rfl ⟨trivial, trivial, trivial, trivial, trivial, trivial⟩ ?_
        have g := ih (i + 1) (by omega)
        rw [am_fold_succ, hF, sp_bestB_T (show (true && sp_over bo none i) = true from rfl), ← am_inc] at g
        exact g
      · skip
        have hq1 := hq q rfl
        have eB : (mp_s (Int32.ofNat rn) pr pv sa pd lo bo co sh se si er of_) (6 + Int32.ofNat i).toNatClampNeg = bo i := mp_boardN _ _ _ _ _ _ _ _ _ _ _ _ _ (by omega)
        have eQ : (mp_s (Int32.ofNat rn) pr pv sa pd lo bo co sh se si er of_) (6 + am_on (-9) (some q)).toNatClampNeg = bo q := mp_boardN _ _ _ _ _ _ _ _ _ _ _ _ _ (show q < 20 by omega)
        rcases Classical.em (bo q < bo i) with h3 | h3
        · skip
          refine am_Rn.go (t := am_t134) rfl 6 rfl ⟨trivial, trivial, trivial, trivial, (by first | exact am_inb_lit rfl | exact am_inb_of (by omega) (by omega)), trivial, trivial⟩ ?_
          refine am_Rn.brF (by first | exact fun q => absurd ((am_le (by omega) (by omega)).mp q) (by omega) | exact fun q => absurd ((am_le (i := 9) (by omega) (by omega)).mp q) (by omega) | exact fun q => absurd ((am_le (i := 10) (by omega) (by omega)).mp q) (by omega) | exact fun q => absurd ((am_le (i := 80) (by omega) (by omega)).mp q) (by omega) | exact (am_lt (by omega) (by omega)).mpr hiP | exact fun q => absurd ((am_lt (by omega) (by omega)).mp q) (by omega)) ?_
          refine am_Rn.go (t := am_t134) rfl 3 rfl ⟨trivial, trivial, trivial, trivial⟩ ?_
          refine am_Rn.brF (fun z : Int32.ofNat q = -9 => by have := congrArg Int32.toInt z; rw [am_ofN q (by omega)] at this; rw [show (-9 : Int32).toInt = -9 from rfl] at this; omega) ?_
          refine am_Rn.go (t := am_t134) rfl 13 rfl ⟨trivial, trivial, trivial, trivial, trivial, (by exact am_inb6N (by omega)), trivial, trivial, trivial, trivial, trivial, (by exact am_inb6N (i := q) (by omega)), trivial, trivial⟩ ?_
          refine am_Rn.brF (by rw [eB, eQ]; exact Int32.not_le.mpr h3) ?_
          refine am_Rn.go (t := am_t134) rfl 5 rfl ⟨trivial, trivial, trivial, trivial, trivial, trivial⟩ ?_
          have g := ih (i + 1) (by omega)
          rw [am_fold_succ, hF, sp_bestB_T (show (true && sp_over bo (some q) i) = true by unfold sp_over; simp [h3]), ← am_inc] at g
          exact g
        · skip
          refine am_Rn.go (t := am_t134) rfl 6 rfl ⟨trivial, trivial, trivial, trivial, (by first | exact am_inb_lit rfl | exact am_inb_of (by omega) (by omega)), trivial, trivial⟩ ?_
          refine am_Rn.brF (by first | exact fun q => absurd ((am_le (by omega) (by omega)).mp q) (by omega) | exact fun q => absurd ((am_le (i := 9) (by omega) (by omega)).mp q) (by omega) | exact fun q => absurd ((am_le (i := 10) (by omega) (by omega)).mp q) (by omega) | exact fun q => absurd ((am_le (i := 80) (by omega) (by omega)).mp q) (by omega) | exact (am_lt (by omega) (by omega)).mpr hiP | exact fun q => absurd ((am_lt (by omega) (by omega)).mp q) (by omega)) ?_
          refine am_Rn.go (t := am_t134) rfl 3 rfl ⟨trivial, trivial, trivial, trivial⟩ ?_
          refine am_Rn.brF (fun z : Int32.ofNat q = -9 => by have := congrArg Int32.toInt z; rw [am_ofN q (by omega)] at this; rw [show (-9 : Int32).toInt = -9 from rfl] at this; omega) ?_
          refine am_Rn.go (t := am_t134) rfl 13 rfl ⟨trivial, trivial, trivial, trivial, trivial, (by exact am_inb6N (by omega)), trivial, trivial, trivial, trivial, trivial, (by exact am_inb6N (i := q) (by omega)), trivial, trivial⟩ ?_
          refine am_Rn.brT (by rw [eB, eQ]; exact Int32.not_lt.mp h3) ?_
          refine am_Rn.go (t := am_t134) rfl 4 rfl ⟨trivial, trivial, trivial, trivial, trivial⟩ ?_
          have g := ih (i + 1) (by omega)
          rw [am_fold_succ, hF, sp_bestB_F (show ¬ (true && sp_over bo (some q) i) = true by unfold sp_over; simp [h3]), ← am_inc] at g
          exact g
  refine am_Rn.go (t := am_t134) rfl 4 rfl ⟨trivial, trivial, trivial, trivial, trivial⟩ ?_
  exact L rn 0 (by omega)
theorem mm_bubble (sc : am_Sc) (rn : Nat) (hr : rn ≤ 20) (tr : Int64) (ty nx tk pl va fa dp cm : Int32) (tx nu dn la me tc ts ps : Nat → Int32) (P : Nat) (pr pv sa pd lo : Int32) (bo co sh se si er of_ sp ke ik bi bt so nr ou ho cl : Nat → Int32) (B0 B1 B2 B3 B4 B5 B6 B7 B8 B9 B10 B11 B12 : List am_E) (Bs : am_M) : am_Rn sc 136 (0, am_entry 136 [.ref 416], [], B0 :: B1 :: B2 :: B3 :: B4 :: B5 :: B6 :: B7 :: B8 :: B9 :: B10 :: B11 :: B12 :: bkModel tr ty nx tk pl va fa (Int32.ofNat P) dp cm tx (mp_ru nu dn) (mp_ps (mp_q la me tc ts) ps) (mp_s (Int32.ofNat rn) pr pv sa pd lo bo co sh se si er of_) sp ke ik bi bt so nr ou ho cl :: Bs) (fun r M' => r = some (.int (am_fold rn (sp_bubOne nu bo) 0)) ∧ M' = B0 :: B1 :: B2 :: B3 :: B4 :: B5 :: B6 :: B7 :: B8 :: B9 :: B10 :: B11 :: B12 :: bkModel tr ty nx tk pl va fa (Int32.ofNat P) dp cm tx (mp_ru nu dn) (mp_ps (mp_q la me tc ts) ps) (mp_s (Int32.ofNat rn) pr pv sa pd lo bo co sh se si er of_) sp ke ik bi bt so nr ou ho cl :: Bs) := by
  show am_Rn sc 136 (0, [some (.ref 416), none, none, none], [], _) _
  have L : ∀ (d i : Nat) (x3 : Option Value), i + d = rn → am_Rn sc 136 (4, [some (.ref 416), some (.int (am_fold i (sp_bubOne nu bo) 0)), some (.int (Int32.ofNat i)), x3], [], B0 :: B1 :: B2 :: B3 :: B4 :: B5 :: B6 :: B7 :: B8 :: B9 :: B10 :: B11 :: B12 :: bkModel tr ty nx tk pl va fa (Int32.ofNat P) dp cm tx (mp_ru nu dn) (mp_ps (mp_q la me tc ts) ps) (mp_s (Int32.ofNat rn) pr pv sa pd lo bo co sh se si er of_) sp ke ik bi bt so nr ou ho cl :: Bs) (fun r M' => r = some (.int (am_fold rn (sp_bubOne nu bo) 0)) ∧ M' = B0 :: B1 :: B2 :: B3 :: B4 :: B5 :: B6 :: B7 :: B8 :: B9 :: B10 :: B11 :: B12 :: bkModel tr ty nx tk pl va fa (Int32.ofNat P) dp cm tx (mp_ru nu dn) (mp_ps (mp_q la me tc ts) ps) (mp_s (Int32.ofNat rn) pr pv sa pd lo bo co sh se si er of_) sp ke ik bi bt so nr ou ho cl :: Bs) := by
    intro d
    induction d with
    | zero =>
      intro i x3 hi
      have hiP : i = rn := by omega
      subst i
      refine am_Rn.go (t := am_t136) rfl 6 rfl ⟨trivial, trivial, trivial, trivial, (by first | exact am_inb_lit rfl | exact am_inb_of (by omega) (by omega)), trivial, trivial⟩ ?_
      refine am_Rn.brT (by first | exact (am_le (by omega) (by omega)).mpr (Nat.le_refl _) | exact fun q => absurd ((am_lt (by omega) (by omega)).mp q) (Nat.lt_irrefl _) | exact (am_lt (by omega) (by omega)).mpr (by omega) | decide) ?_
      refine am_Rn.go (t := am_t136) rfl 1 rfl ⟨trivial, trivial⟩ ?_
      refine am_Rn.ret (t := am_t136) rfl rfl trivial ?_
      exact ⟨rfl, rfl⟩
    | succ d ih =>
      intro i x3 hi
      have hiP : i < rn := by omega
      have e1 : (Int32.ofNat i).toNatClampNeg = i := am_tn i (by omega)
      have g := ih (i + 1) (some (.int (2 * bo i - sp_halves nu (Int32.ofNat i)))) (by omega)
      rw [am_fold_succ, ← am_inc] at g
      generalize hX : (am_fold i (sp_bubOne nu bo) 0) = X at g ⊢
      have eB : (mp_s (Int32.ofNat rn) pr pv sa pd lo bo co sh se si er of_) (6 + Int32.ofNat i).toNatClampNeg = bo i := mp_boardN _ _ _ _ _ _ _ _ _ _ _ _ _ (by omega)
      rcases Classical.em (0 < 2 * bo i - sp_halves nu (Int32.ofNat i)) with h3 | h3
      · skip
        rw [show sp_bubOne nu bo i X = X + (2 * bo i - sp_halves nu (Int32.ofNat i)) by unfold sp_bubOne; rw [if_pos h3]] at g
        refine am_Rn.go (t := am_t136) rfl 6 rfl ⟨trivial, trivial, trivial, trivial, (by first | exact am_inb_lit rfl | exact am_inb_of (by omega) (by omega)), trivial, trivial⟩ ?_
        refine am_Rn.brF (by first | exact fun q => absurd ((am_le (by omega) (by omega)).mp q) (by omega) | exact fun q => absurd ((am_le (i := 9) (by omega) (by omega)).mp q) (by omega) | exact fun q => absurd ((am_le (i := 10) (by omega) (by omega)).mp q) (by omega) | exact fun q => absurd ((am_le (i := 80) (by omega) (by omega)).mp q) (by omega) | exact (am_lt (by omega) (by omega)).mpr hiP | exact fun q => absurd ((am_lt (by omega) (by omega)).mp q) (by omega)) ?_
        refine am_Rn.go (t := am_t136) rfl 10 rfl ⟨trivial, trivial, trivial, trivial, trivial, trivial, (by exact am_inb6N (by omega)), trivial, trivial, trivial, trivial⟩ ?_
        refine am_Rn.call (t := am_t136) rfl rfl (mm_halvesIn ..) ?_
        rintro _ _ ⟨rfl, rfl⟩
        refine am_Rn.go (t := am_t136) rfl 5 rfl ⟨trivial, trivial, trivial, trivial, trivial, trivial⟩ ?_
        refine am_Rn.brF (by rw [eB]; exact Int32.not_le.mpr h3) ?_
        refine am_Rn.go (t := am_t136) rfl 6 rfl ⟨trivial, trivial, trivial, trivial, trivial, trivial, trivial⟩ ?_
        rw [eB]
        exact g
      · skip
        rw [show sp_bubOne nu bo i X = X + 0 by unfold sp_bubOne; rw [if_neg h3]] at g
        refine am_Rn.go (t := am_t136) rfl 6 rfl ⟨trivial, trivial, trivial, trivial, (by first | exact am_inb_lit rfl | exact am_inb_of (by omega) (by omega)), trivial, trivial⟩ ?_
        refine am_Rn.brF (by first | exact fun q => absurd ((am_le (by omega) (by omega)).mp q) (by omega) | exact fun q => absurd ((am_le (i := 9) (by omega) (by omega)).mp q) (by omega) | exact fun q => absurd ((am_le (i := 10) (by omega) (by omega)).mp q) (by omega) | exact fun q => absurd ((am_le (i := 80) (by omega) (by omega)).mp q) (by omega) | exact (am_lt (by omega) (by omega)).mpr hiP | exact fun q => absurd ((am_lt (by omega) (by omega)).mp q) (by omega)) ?_
        refine am_Rn.go (t := am_t136) rfl 10 rfl ⟨trivial, trivial, trivial, trivial, trivial, trivial, (by exact am_inb6N (by omega)), trivial, trivial, trivial, trivial⟩ ?_
        refine am_Rn.call (t := am_t136) rfl rfl (mm_halvesIn ..) ?_
        rintro _ _ ⟨rfl, rfl⟩
        refine am_Rn.go (t := am_t136) rfl 5 rfl ⟨trivial, trivial, trivial, trivial, trivial, trivial⟩ ?_
        refine am_Rn.brT (by rw [eB]; exact Int32.not_lt.mp h3) ?_
        refine am_Rn.go (t := am_t136) rfl 5 rfl ⟨trivial, trivial, trivial, trivial, trivial, trivial⟩ ?_
        rw [eB]
        exact g
  refine am_Rn.go (t := am_t136) rfl 4 rfl ⟨trivial, trivial, trivial, trivial, trivial⟩ ?_
  exact L rn 0 _ (by omega)
theorem mm_falls (sc : am_Sc) (rn : Nat) (hr : rn ≤ 20) (tr : Int64) (ty nx tk pl va fa dp cm : Int32) (tx nu dn la me tc ts ps : Nat → Int32) (P : Nat) (pr pv sa pd lo : Int32) (bo co sh se si er of_ sp ke ik bi bt so nr ou ho cl : Nat → Int32) (B0 B1 B2 B3 B4 B5 B6 B7 B8 B9 B10 B11 B12 : List am_E) (Bs : am_M) : am_Rn sc 135 (0, am_entry 135 [.ref 416], [], B0 :: B1 :: B2 :: B3 :: B4 :: B5 :: B6 :: B7 :: B8 :: B9 :: B10 :: B11 :: B12 :: bkModel tr ty nx tk pl va fa (Int32.ofNat P) dp cm tx (mp_ru nu dn) (mp_ps (mp_q la me tc ts) ps) (mp_s (Int32.ofNat rn) pr pv sa pd lo bo co sh se si er of_) sp ke ik bi bt so nr ou ho cl :: Bs) (fun r M' => r = some (.int (am_on (-9) (am_fold rn (sp_fallOne nu bo) (none, 0)).1)) ∧ M' = B0 :: B1 :: B2 :: B3 :: B4 :: B5 :: B6 :: B7 :: B8 :: B9 :: B10 :: B11 :: B12 :: bkModel tr ty nx tk pl va fa (Int32.ofNat P) dp cm tx (mp_ru nu dn) (mp_ps (mp_q la me tc ts) ps) (mp_s (Int32.ofNat rn) pr pv sa pd lo bo co sh se si er of_) sp ke ik bi bt so nr ou ho cl :: Bs) := by
  show am_Rn sc 135 (0, [some (.ref 416), none, none, none, none], [], _) _
  have L : ∀ (d i : Nat) (x4 : Option Value), i + d = rn → am_Rn sc 135 (6, [some (.ref 416), some (.int (am_on (-9) (am_fold i (sp_fallOne nu bo) (none, 0)).1)), some (.int (am_fold i (sp_fallOne nu bo) (none, 0)).2), some (.int (Int32.ofNat i)), x4], [], B0 :: B1 :: B2 :: B3 :: B4 :: B5 :: B6 :: B7 :: B8 :: B9 :: B10 :: B11 :: B12 :: bkModel tr ty nx tk pl va fa (Int32.ofNat P) dp cm tx (mp_ru nu dn) (mp_ps (mp_q la me tc ts) ps) (mp_s (Int32.ofNat rn) pr pv sa pd lo bo co sh se si er of_) sp ke ik bi bt so nr ou ho cl :: Bs) (fun r M' => r = some (.int (am_on (-9) (am_fold rn (sp_fallOne nu bo) (none, 0)).1)) ∧ M' = B0 :: B1 :: B2 :: B3 :: B4 :: B5 :: B6 :: B7 :: B8 :: B9 :: B10 :: B11 :: B12 :: bkModel tr ty nx tk pl va fa (Int32.ofNat P) dp cm tx (mp_ru nu dn) (mp_ps (mp_q la me tc ts) ps) (mp_s (Int32.ofNat rn) pr pv sa pd lo bo co sh se si er of_) sp ke ik bi bt so nr ou ho cl :: Bs) := by
    intro d
    induction d with
    | zero =>
      intro i x4 hi
      have hiP : i = rn := by omega
      subst i
      refine am_Rn.go (t := am_t135) rfl 6 rfl ⟨trivial, trivial, trivial, trivial, (by first | exact am_inb_lit rfl | exact am_inb_of (by omega) (by omega)), trivial, trivial⟩ ?_
      refine am_Rn.brT (by first | exact (am_le (by omega) (by omega)).mpr (Nat.le_refl _) | exact fun q => absurd ((am_lt (by omega) (by omega)).mp q) (Nat.lt_irrefl _) | exact (am_lt (by omega) (by omega)).mpr (by omega) | decide) ?_
      refine am_Rn.go (t := am_t135) rfl 1 rfl ⟨trivial, trivial⟩ ?_
      refine am_Rn.ret (t := am_t135) rfl rfl trivial ?_
      exact ⟨rfl, rfl⟩
    | succ d ih =>
      intro i x4 hi
      have hiP : i < rn := by omega
      have e1 : (Int32.ofNat i).toNatClampNeg = i := am_tn i (by omega)
      rcases i with _ | i0
      · skip
        have eB : (mp_s (Int32.ofNat rn) pr pv sa pd lo bo co sh se si er of_) (6 + Int32.ofNat 0).toNatClampNeg = bo 0 := mp_boardN _ _ _ _ _ _ _ _ _ _ _ _ _ (by omega)
        have g := ih (0 + 1) (some (.int (sp_fall nu bo 0))) (by omega)
        rw [am_fold_succ, ← am_inc] at g
        generalize hX : (am_fold 0 (sp_fallOne nu bo) (none, 0)) = X at g ⊢
        rcases Classical.em (sp_fall nu bo 0 ≤ X.2) with h3 | h3
        · skip
          rw [show sp_fallOne nu bo 0 X = X from if_pos h3] at g
          refine am_Rn.go (t := am_t135) rfl 6 rfl ⟨trivial, trivial, trivial, trivial, (by first | exact am_inb_lit rfl | exact am_inb_of (by omega) (by omega)), trivial, trivial⟩ ?_
          refine am_Rn.brF (by first | exact fun q => absurd ((am_le (by omega) (by omega)).mp q) (by omega) | exact fun q => absurd ((am_le (i := 9) (by omega) (by omega)).mp q) (by omega) | exact fun q => absurd ((am_le (i := 10) (by omega) (by omega)).mp q) (by omega) | exact fun q => absurd ((am_le (i := 80) (by omega) (by omega)).mp q) (by omega) | exact (am_lt (by omega) (by omega)).mpr hiP | exact fun q => absurd ((am_lt (by omega) (by omega)).mp q) (by omega)) ?_
          refine am_Rn.go (t := am_t135) rfl 2 rfl ⟨trivial, trivial, trivial⟩ ?_
          refine am_Rn.brT rfl ?_
          refine am_Rn.go (t := am_t135) rfl 16 rfl ⟨trivial, trivial, trivial, (by first | exact am_inb_lit rfl | exact am_inb_of (by omega) (by omega)), trivial, trivial, trivial, trivial, trivial, trivial, (by exact am_inb6N (by omega)), trivial, trivial, trivial, trivial, trivial, trivial⟩ ?_
          refine am_Rn.brT (by rw [eB]; exact h3) ?_
          refine am_Rn.go (t := am_t135) rfl 5 rfl ⟨trivial, trivial, trivial, trivial, trivial, trivial⟩ ?_
          refine am_Rn.brT (by rw [eB]; exact h3) ?_
          refine am_Rn.go (t := am_t135) rfl 4 rfl ⟨trivial, trivial, trivial, trivial, trivial⟩ ?_
          rw [eB]
          exact g
        · skip
          rw [show sp_fallOne nu bo 0 X = (some 0, sp_fall nu bo 0) from if_neg h3] at g
          refine am_Rn.go (t := am_t135) rfl 6 rfl ⟨trivial, trivial, trivial, trivial, (by first | exact am_inb_lit rfl | exact am_inb_of (by omega) (by omega)), trivial, trivial⟩ ?_
          refine am_Rn.brF (by first | exact fun q => absurd ((am_le (by omega) (by omega)).mp q) (by omega) | exact fun q => absurd ((am_le (i := 9) (by omega) (by omega)).mp q) (by omega) | exact fun q => absurd ((am_le (i := 10) (by omega) (by omega)).mp q) (by omega) | exact fun q => absurd ((am_le (i := 80) (by omega) (by omega)).mp q) (by omega) | exact (am_lt (by omega) (by omega)).mpr hiP | exact fun q => absurd ((am_lt (by omega) (by omega)).mp q) (by omega)) ?_
          refine am_Rn.go (t := am_t135) rfl 2 rfl ⟨trivial, trivial, trivial⟩ ?_
          refine am_Rn.brT rfl ?_
          refine am_Rn.go (t := am_t135) rfl 16 rfl ⟨trivial, trivial, trivial, (by first | exact am_inb_lit rfl | exact am_inb_of (by omega) (by omega)), trivial, trivial, trivial, trivial, trivial, trivial, (by exact am_inb6N (by omega)), trivial, trivial, trivial, trivial, trivial, trivial⟩ ?_
          refine am_Rn.brF (by rw [eB]; exact h3) ?_
          refine am_Rn.go (t := am_t135) rfl 6 rfl ⟨trivial, trivial, trivial, trivial, trivial, trivial, trivial⟩ ?_
          refine am_Rn.brF (by rw [eB]; exact h3) ?_
          refine am_Rn.go (t := am_t135) rfl 5 rfl ⟨trivial, trivial, trivial, trivial, trivial, trivial⟩ ?_
          rw [eB]
          exact g
      · skip
        have eB : (mp_s (Int32.ofNat rn) pr pv sa pd lo bo co sh se si er of_) (6 + Int32.ofNat (i0 + 1)).toNatClampNeg = bo (i0 + 1) := mp_boardN _ _ _ _ _ _ _ _ _ _ _ _ _ (by omega)
        have e7 : 6 + Int32.ofNat (i0 + 1) - 1 = 6 + Int32.ofNat i0 := by
          rw [am_6N, am_6N]
          exact dec_ofNat (6 + i0)
        have eA : (mp_s (Int32.ofNat rn) pr pv sa pd lo bo co sh se si er of_) (6 + Int32.ofNat (i0 + 1) - 1).toNatClampNeg = bo i0 := by
          rw [e7]
          exact mp_boardN _ _ _ _ _ _ _ _ _ _ _ _ _ (by omega)
        have g := ih ((i0 + 1) + 1) (some (.int (sp_fall nu bo (i0 + 1)))) (by omega)
        rw [am_fold_succ, ← am_inc] at g
        generalize hX : (am_fold (i0 + 1) (sp_fallOne nu bo) (none, 0)) = X at g ⊢
        rcases Classical.em (sp_fall nu bo (i0 + 1) ≤ X.2) with h3 | h3
        · skip
          rw [show sp_fallOne nu bo (i0 + 1) X = X from if_pos h3] at g
          refine am_Rn.go (t := am_t135) rfl 6 rfl ⟨trivial, trivial, trivial, trivial, (by first | exact am_inb_lit rfl | exact am_inb_of (by omega) (by omega)), trivial, trivial⟩ ?_
          refine am_Rn.brF (by first | exact fun q => absurd ((am_le (by omega) (by omega)).mp q) (by omega) | exact fun q => absurd ((am_le (i := 9) (by omega) (by omega)).mp q) (by omega) | exact fun q => absurd ((am_le (i := 10) (by omega) (by omega)).mp q) (by omega) | exact fun q => absurd ((am_le (i := 80) (by omega) (by omega)).mp q) (by omega) | exact (am_lt (by omega) (by omega)).mpr hiP | exact fun q => absurd ((am_lt (by omega) (by omega)).mp q) (by omega)) ?_
          refine am_Rn.go (t := am_t135) rfl 2 rfl ⟨trivial, trivial, trivial⟩ ?_
          refine am_Rn.brF (fun q => absurd ((am_eqi (j := 0) (by omega) (by omega)).mp q) (by omega)) ?_
          refine am_Rn.go (t := am_t135) rfl 19 rfl ⟨trivial, trivial, trivial, trivial, trivial, trivial, trivial, (by rw [e7]; exact am_inb6N (by omega)), trivial, trivial, trivial, trivial, trivial, (by exact am_inb6N (by omega)), trivial, trivial, trivial, trivial, trivial, trivial⟩ ?_
          refine am_Rn.brT (by rw [eA, eB]; exact h3) ?_
          refine am_Rn.go (t := am_t135) rfl 5 rfl ⟨trivial, trivial, trivial, trivial, trivial, trivial⟩ ?_
          refine am_Rn.brT (by rw [eA, eB]; exact h3) ?_
          refine am_Rn.go (t := am_t135) rfl 4 rfl ⟨trivial, trivial, trivial, trivial, trivial⟩ ?_
          rw [eA, eB]
          exact g
        · skip
          rw [show sp_fallOne nu bo (i0 + 1) X = (some (i0 + 1), sp_fall nu bo (i0 + 1)) from if_neg h3] at g
          refine am_Rn.go (t := am_t135) rfl 6 rfl ⟨trivial, trivial, trivial, trivial, (by first | exact am_inb_lit rfl | exact am_inb_of (by omega) (by omega)), trivial, trivial⟩ ?_
          refine am_Rn.brF (by first | exact fun q => absurd ((am_le (by omega) (by omega)).mp q) (by omega) | exact fun q => absurd ((am_le (i := 9) (by omega) (by omega)).mp q) (by omega) | exact fun q => absurd ((am_le (i := 10) (by omega) (by omega)).mp q) (by omega) | exact fun q => absurd ((am_le (i := 80) (by omega) (by omega)).mp q) (by omega) | exact (am_lt (by omega) (by omega)).mpr hiP | exact fun q => absurd ((am_lt (by omega) (by omega)).mp q) (by omega)) ?_
          refine am_Rn.go (t := am_t135) rfl 2 rfl ⟨trivial, trivial, trivial⟩ ?_
          refine am_Rn.brF (fun q => absurd ((am_eqi (j := 0) (by omega) (by omega)).mp q) (by omega)) ?_
          refine am_Rn.go (t := am_t135) rfl 19 rfl ⟨trivial, trivial, trivial, trivial, trivial, trivial, trivial, (by rw [e7]; exact am_inb6N (by omega)), trivial, trivial, trivial, trivial, trivial, (by exact am_inb6N (by omega)), trivial, trivial, trivial, trivial, trivial, trivial⟩ ?_
          refine am_Rn.brF (by rw [eA, eB]; exact h3) ?_
          refine am_Rn.go (t := am_t135) rfl 6 rfl ⟨trivial, trivial, trivial, trivial, trivial, trivial, trivial⟩ ?_
          refine am_Rn.brF (by rw [eA, eB]; exact h3) ?_
          refine am_Rn.go (t := am_t135) rfl 5 rfl ⟨trivial, trivial, trivial, trivial, trivial, trivial⟩ ?_
          rw [eA, eB]
          exact g
  refine am_Rn.go (t := am_t135) rfl 6 rfl ⟨trivial, trivial, trivial, trivial, trivial, trivial, trivial⟩ ?_
  exact L rn 0 _ (by omega)
theorem mm_sets1 (sc : am_Sc) (s : Nat → Int32) (tr : Int64) (ty nx tk pl va fa dp cm : Int32) (tx nu dn la me tc ts ps : Nat → Int32) (P : Nat) (sp ke ik bi bt so nr ou ho cl : Nat → Int32) (B0 B1 B2 B3 B4 B5 B6 B7 B8 B9 B10 B11 B12 : List am_E) (Bs : am_M) : am_Rn sc 141 (0, am_entry 141 [.ref 416, .int 1], [], B0 :: B1 :: B2 :: B3 :: B4 :: B5 :: B6 :: B7 :: B8 :: B9 :: B10 :: B11 :: B12 :: bkModel tr ty nx tk pl va fa (Int32.ofNat P) dp cm tx (mp_ru nu dn) (mp_ps (mp_q la me tc ts) ps) s sp ke ik bi bt so nr ou ho cl :: Bs) (fun r M' => r = none ∧ M' = B0 :: B1 :: B2 :: B3 :: B4 :: B5 :: B6 :: B7 :: B8 :: B9 :: B10 :: B11 :: B12 :: bkModel tr ty nx tk pl va fa (Int32.ofNat P) dp cm tx (mp_ru nu dn) (mp_ps (mp_q la me tc ts) ps) s (sp_cov 80 s sp) ke ik bi bt so nr ou ho cl :: Bs) := by
  show am_Rn sc 141 (0, [some (.ref 416), some (.int 1), none], [], _) _
  have L : ∀ (d i : Nat), i + d = 80 → am_Rn sc 141 (2, [some (.ref 416), some (.int 1), some (.int (Int32.ofNat i))], [], B0 :: B1 :: B2 :: B3 :: B4 :: B5 :: B6 :: B7 :: B8 :: B9 :: B10 :: B11 :: B12 :: bkModel tr ty nx tk pl va fa (Int32.ofNat P) dp cm tx (mp_ru nu dn) (mp_ps (mp_q la me tc ts) ps) s (am_fold i (fun k h => upd h k (s k)) sp) ke ik bi bt so nr ou ho cl :: Bs) (fun r M' => r = none ∧ M' = B0 :: B1 :: B2 :: B3 :: B4 :: B5 :: B6 :: B7 :: B8 :: B9 :: B10 :: B11 :: B12 :: bkModel tr ty nx tk pl va fa (Int32.ofNat P) dp cm tx (mp_ru nu dn) (mp_ps (mp_q la me tc ts) ps) s (sp_cov 80 s sp) ke ik bi bt so nr ou ho cl :: Bs) := by
    intro d
    induction d with
    | zero =>
      intro i  hi
      have hiP : i = 80 := by omega
      subst i
      rw [sp_covfold]
      refine am_Rn.go (t := am_t141) rfl 3 rfl ⟨trivial, trivial, trivial, trivial⟩ ?_
      refine am_Rn.brT (by first | exact (am_le (by omega) (by omega)).mpr (Nat.le_refl _) | exact fun q => absurd ((am_lt (by omega) (by omega)).mp q) (Nat.lt_irrefl _) | exact (am_lt (by omega) (by omega)).mpr (by omega) | decide) ?_
      refine am_Rn.ret (t := am_t141) rfl rfl trivial ?_
      exact ⟨rfl, rfl⟩
    | succ d ih =>
      intro i  hi
      have hiP : i < 80 := by omega
      have e1 : (Int32.ofNat i).toNatClampNeg = i := am_tn i (by omega)
      have g := ih (i + 1) (by omega)
      rw [am_fold_succ, ← am_inc] at g
      generalize hX : (am_fold i (fun k h => upd h k (s k)) sp) = X at g ⊢
      refine am_Rn.go (t := am_t141) rfl 3 rfl ⟨trivial, trivial, trivial, trivial⟩ ?_
      refine am_Rn.brF (by first | exact fun q => absurd ((am_le (by omega) (by omega)).mp q) (by omega) | exact fun q => absurd ((am_le (i := 9) (by omega) (by omega)).mp q) (by omega) | exact fun q => absurd ((am_le (i := 10) (by omega) (by omega)).mp q) (by omega) | exact fun q => absurd ((am_le (i := 80) (by omega) (by omega)).mp q) (by omega) | exact (am_lt (by omega) (by omega)).mpr hiP | exact fun q => absurd ((am_lt (by omega) (by omega)).mp q) (by omega)) ?_
      refine am_Rn.go (t := am_t141) rfl 2 rfl ⟨trivial, trivial, trivial⟩ ?_
      refine am_Rn.brF (by decide) ?_
      refine am_Rn.go (t := am_t141) rfl 11 rfl ⟨trivial, trivial, trivial, trivial, trivial, trivial, (by first | exact am_inb_lit rfl | exact am_inb_of (by omega) (by omega)), (by first | exact am_inb_lit rfl | exact am_inb_of (by omega) (by omega)), trivial, trivial, trivial, trivial⟩ ?_
      rw [e1]
      exact g
  refine am_Rn.go (t := am_t141) rfl 2 rfl ⟨trivial, trivial, trivial⟩ ?_
  exact L 80 0 (by omega)
theorem mm_sets0 (sc : am_Sc) (s : Nat → Int32) (tr : Int64) (ty nx tk pl va fa dp cm : Int32) (tx nu dn la me tc ts ps : Nat → Int32) (P : Nat) (sp ke ik bi bt so nr ou ho cl : Nat → Int32) (B0 B1 B2 B3 B4 B5 B6 B7 B8 B9 B10 B11 B12 : List am_E) (Bs : am_M) : am_Rn sc 141 (0, am_entry 141 [.ref 416, .int 0], [], B0 :: B1 :: B2 :: B3 :: B4 :: B5 :: B6 :: B7 :: B8 :: B9 :: B10 :: B11 :: B12 :: bkModel tr ty nx tk pl va fa (Int32.ofNat P) dp cm tx (mp_ru nu dn) (mp_ps (mp_q la me tc ts) ps) s sp ke ik bi bt so nr ou ho cl :: Bs) (fun r M' => r = none ∧ M' = B0 :: B1 :: B2 :: B3 :: B4 :: B5 :: B6 :: B7 :: B8 :: B9 :: B10 :: B11 :: B12 :: bkModel tr ty nx tk pl va fa (Int32.ofNat P) dp cm tx (mp_ru nu dn) (mp_ps (mp_q la me tc ts) ps) (sp_cov 80 sp s) sp ke ik bi bt so nr ou ho cl :: Bs) := by
  show am_Rn sc 141 (0, [some (.ref 416), some (.int 0), none], [], _) _
  have L : ∀ (d i : Nat), i + d = 80 → am_Rn sc 141 (2, [some (.ref 416), some (.int 0), some (.int (Int32.ofNat i))], [], B0 :: B1 :: B2 :: B3 :: B4 :: B5 :: B6 :: B7 :: B8 :: B9 :: B10 :: B11 :: B12 :: bkModel tr ty nx tk pl va fa (Int32.ofNat P) dp cm tx (mp_ru nu dn) (mp_ps (mp_q la me tc ts) ps) (am_fold i (fun k h => upd h k (sp k)) s) sp ke ik bi bt so nr ou ho cl :: Bs) (fun r M' => r = none ∧ M' = B0 :: B1 :: B2 :: B3 :: B4 :: B5 :: B6 :: B7 :: B8 :: B9 :: B10 :: B11 :: B12 :: bkModel tr ty nx tk pl va fa (Int32.ofNat P) dp cm tx (mp_ru nu dn) (mp_ps (mp_q la me tc ts) ps) (sp_cov 80 sp s) sp ke ik bi bt so nr ou ho cl :: Bs) := by
    intro d
    induction d with
    | zero =>
      intro i  hi
      have hiP : i = 80 := by omega
      subst i
      rw [sp_covfold]
      refine am_Rn.go (t := am_t141) rfl 3 rfl ⟨trivial, trivial, trivial, trivial⟩ ?_
      refine am_Rn.brT (by first | exact (am_le (by omega) (by omega)).mpr (Nat.le_refl _) | exact fun q => absurd ((am_lt (by omega) (by omega)).mp q) (Nat.lt_irrefl _) | exact (am_lt (by omega) (by omega)).mpr (by omega) | decide) ?_
      refine am_Rn.ret (t := am_t141) rfl rfl trivial ?_
      exact ⟨rfl, rfl⟩
    | succ d ih =>
      intro i  hi
      have hiP : i < 80 := by omega
      have e1 : (Int32.ofNat i).toNatClampNeg = i := am_tn i (by omega)
      have g := ih (i + 1) (by omega)
      rw [am_fold_succ, ← am_inc] at g
      generalize hX : (am_fold i (fun k h => upd h k (sp k)) s) = X at g ⊢
      refine am_Rn.go (t := am_t141) rfl 3 rfl ⟨trivial, trivial, trivial, trivial⟩ ?_
      refine am_Rn.brF (by first | exact fun q => absurd ((am_le (by omega) (by omega)).mp q) (by omega) | exact fun q => absurd ((am_le (i := 9) (by omega) (by omega)).mp q) (by omega) | exact fun q => absurd ((am_le (i := 10) (by omega) (by omega)).mp q) (by omega) | exact fun q => absurd ((am_le (i := 80) (by omega) (by omega)).mp q) (by omega) | exact (am_lt (by omega) (by omega)).mpr hiP | exact fun q => absurd ((am_lt (by omega) (by omega)).mp q) (by omega)) ?_
      refine am_Rn.go (t := am_t141) rfl 2 rfl ⟨trivial, trivial, trivial⟩ ?_
      refine am_Rn.brT (by decide) ?_
      refine am_Rn.go (t := am_t141) rfl 10 rfl ⟨trivial, trivial, trivial, trivial, trivial, trivial, (by first | exact am_inb_lit rfl | exact am_inb_of (by omega) (by omega)), (by first | exact am_inb_lit rfl | exact am_inb_of (by omega) (by omega)), trivial, trivial, trivial⟩ ?_
      rw [e1]
      exact g
  refine am_Rn.go (t := am_t141) rfl 2 rfl ⟨trivial, trivial, trivial⟩ ?_
  exact L 80 0 (by omega)
