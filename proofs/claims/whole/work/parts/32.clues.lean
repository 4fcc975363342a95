theorem sx_clueAdd_T (sc : am_Sc) (v : Int32) (C : Nat) (hC : C < 12) (cl : Nat → Int32) (bw br le : Int32) (B0 B1 B2 B3 B4 B5 B6 B7 B8 B9 B10 B11 : List am_E) (Bs : am_M) : am_Rn sc 1 (0, am_entry 1 [.ref 384, .int v], [], B0 :: B1 :: B2 :: B3 :: B4 :: B5 :: B6 :: B7 :: B8 :: B9 :: B10 :: B11 :: bkClues cl (Int32.ofNat C) bw br le :: Bs) (fun r M' => r = some (.int 1) ∧ M' = B0 :: B1 :: B2 :: B3 :: B4 :: B5 :: B6 :: B7 :: B8 :: B9 :: B10 :: B11 :: bkClues (upd cl C v) (Int32.ofNat (C + 1)) bw br le :: Bs) := by
  show am_Rn sc 1 (0, [some (.ref 384), some (.int v)], [], _) _
  have e1 : (Int32.ofNat C).toNatClampNeg = C := am_tn C (by omega)
  have e2 := am_inc C
  refine am_Rn.go (t := am_t1) rfl 3 rfl ⟨trivial, trivial, trivial, trivial⟩ ?_
  refine am_Rn.brF (fun q => absurd ((am_lt (j := 0) (by omega) (by omega)).mp q) (by omega)) ?_
  refine am_Rn.go (t := am_t1) rfl 4 rfl ⟨trivial, trivial, trivial, trivial, trivial⟩ ?_
  refine am_Rn.brT ((am_lt (j := 12) (by omega) (by omega)).mpr hC) ?_
  refine am_Rn.go (t := am_t1) rfl 13 rfl ⟨trivial, trivial, trivial, trivial, trivial, (by first | exact am_inb_lit rfl | exact am_inb_of (by omega) (by omega)), trivial, trivial, trivial, trivial, trivial, trivial, trivial, trivial⟩ ?_
  refine am_Rn.ret (t := am_t1) rfl rfl (by first | exact Or.inl rfl | exact Or.inr rfl | exact am_b01 _) ?_
  refine ⟨rfl, ?_⟩
  rw [show upd cl C v = upd cl (Int32.ofNat C).toNatClampNeg v by rw [e1], ← e2]
  rfl
theorem sx_clueAdd_F (sc : am_Sc) (v : Int32) (C : Nat) (hC : C = 12) (cl : Nat → Int32) (bw br le : Int32) (B0 B1 B2 B3 B4 B5 B6 B7 B8 B9 B10 B11 : List am_E) (Bs : am_M) : am_Rn sc 1 (0, am_entry 1 [.ref 384, .int v], [], B0 :: B1 :: B2 :: B3 :: B4 :: B5 :: B6 :: B7 :: B8 :: B9 :: B10 :: B11 :: bkClues cl (Int32.ofNat C) bw br le :: Bs) (fun r M' => r = some (.int 0) ∧ M' = B0 :: B1 :: B2 :: B3 :: B4 :: B5 :: B6 :: B7 :: B8 :: B9 :: B10 :: B11 :: bkClues cl (Int32.ofNat C) bw br le :: Bs) := by
  show am_Rn sc 1 (0, [some (.ref 384), some (.int v)], [], _) _
  have e1 : (Int32.ofNat C).toNatClampNeg = C := am_tn C (by omega)
  have e2 := am_inc C
  refine am_Rn.go (t := am_t1) rfl 3 rfl ⟨trivial, trivial, trivial, trivial⟩ ?_
  refine am_Rn.brF (fun q => absurd ((am_lt (j := 0) (by omega) (by omega)).mp q) (by omega)) ?_
  refine am_Rn.go (t := am_t1) rfl 4 rfl ⟨trivial, trivial, trivial, trivial, trivial⟩ ?_
  refine am_Rn.brF (fun q => absurd ((am_lt (j := 12) (by omega) (by omega)).mp q) (by omega)) ?_
  refine am_Rn.go (t := am_t1) rfl 1 rfl ⟨trivial, trivial⟩ ?_
  refine am_Rn.ret (t := am_t1) rfl rfl (by first | exact Or.inl rfl | exact Or.inr rfl | exact am_b01 _) ?_
  exact ⟨rfl, rfl⟩
theorem sx_errorsBy (sc : am_Sc) (a b v : Int32) (C : Nat) (hC : 2 ≤ C) (hC2 : C ≤ 12) (nu la me tc ts : Nat → Int32) (pe : Int32) (cl : Nat → Int32) (bw br le : Int32) (B0 B2 B3 B4 B5 B6 B7 B8 B9 B10 B11 : List am_E) (Bs : am_M) : am_Rn sc 3 (0, am_entry 3 [.ref 384, .ref 32, .int a, .int b, .int v], [], B0 :: bkRules 32 nu la me tc ts pe :: B2 :: B3 :: B4 :: B5 :: B6 :: B7 :: B8 :: B9 :: B10 :: B11 :: bkClues cl (Int32.ofNat C) bw br le :: Bs) (fun r M' => r = some (.int (sp_err nu cl C a b v)) ∧ M' = B0 :: bkRules 32 nu la me tc ts pe :: B2 :: B3 :: B4 :: B5 :: B6 :: B7 :: B8 :: B9 :: B10 :: B11 :: bkClues cl (Int32.ofNat C) bw br le :: Bs) := by
  show am_Rn sc 3 (0, [some (.ref 384), some (.ref 32), some (.int a), some (.int b), some (.int v), none, none, none, none], [], _) _
  have L : ∀ (d i : Nat) (h2 : 2 ≤ i) (x7 x8 : Option Value), i + d = C → am_Rn sc 3 (4, [some (.ref 384), some (.ref 32), some (.int a), some (.int b), some (.int v), some (.int (am_fold i (sp_errOne nu cl a b v) 0)), some (.int (Int32.ofNat i)), x7, x8], [], B0 :: bkRules 32 nu la me tc ts pe :: B2 :: B3 :: B4 :: B5 :: B6 :: B7 :: B8 :: B9 :: B10 :: B11 :: bkClues cl (Int32.ofNat C) bw br le :: Bs) (fun r M' => r = some (.int (sp_err nu cl C a b v)) ∧ M' = B0 :: bkRules 32 nu la me tc ts pe :: B2 :: B3 :: B4 :: B5 :: B6 :: B7 :: B8 :: B9 :: B10 :: B11 :: bkClues cl (Int32.ofNat C) bw br le :: Bs) := by
    intro d
    induction d with
    | zero =>
      intro i h2 x7 x8 hi
      obtain rfl : i = C := by omega
      refine am_Rn.go (t := am_t3) rfl 4 rfl ⟨trivial, trivial, trivial, trivial, trivial⟩ ?_
      refine am_Rn.brT (by first | exact (am_le (by omega) (by omega)).mpr (Nat.le_refl _) | exact fun q => absurd ((am_lt (by omega) (by omega)).mp q) (Nat.lt_irrefl _) | exact (am_lt (by omega) (by omega)).mpr (by omega) | decide) ?_
      refine am_Rn.go (t := am_t3) rfl 1 rfl ⟨trivial, trivial⟩ ?_
      refine am_Rn.ret (t := am_t3) rfl rfl trivial ?_
      exact ⟨rfl, rfl⟩
    | succ d ih =>
      intro i h2 x7 x8 hi
      have hiP : i < C := by omega
      have e1 : (Int32.ofNat i).toNatClampNeg = i := am_tn i (by omega)
      have e5 : Int32.ofNat i - 1 = Int32.ofNat (i - 1) := am_sub_ofN (j := 1) (by omega) (by omega)
      have e6 : Int32.ofNat i - 2 = Int32.ofNat (i - 2) := am_sub_ofN (j := 2) (by omega) (by omega)
      refine am_Rn.go (t := am_t3) rfl 4 rfl ⟨trivial, trivial, trivial, trivial, trivial⟩ ?_
      refine am_Rn.brF (by first | exact fun q => absurd ((am_le (by omega) (by omega)).mp q) (by omega) | exact fun q => absurd ((am_le (i := 9) (by omega) (by omega)).mp q) (by omega) | exact fun q => absurd ((am_le (i := 10) (by omega) (by omega)).mp q) (by omega) | exact (am_lt (by omega) (by omega)).mpr hiP | exact fun q => absurd ((am_lt (by omega) (by omega)).mp q) (by omega)) ?_
      refine am_Rn.go (t := am_t3) rfl 3 rfl ⟨trivial, trivial, trivial, trivial⟩ ?_
      refine am_Rn.brF (fun q => absurd ((am_le (i := 12) (by omega) (by omega)).mp q) (by omega)) ?_
      refine am_Rn.go (t := am_t3) rfl 7 rfl ⟨trivial, trivial, trivial, trivial, trivial, (by first | exact am_inb_lit rfl | exact am_inb_of (by omega) (by omega)), trivial, trivial⟩ ?_
      refine am_Rn.call (t := am_t3) rfl rfl (sx_worthIn_t ..) ?_
      rintro _ _ ⟨rfl, rfl⟩
      refine am_Rn.go (t := am_t3) rfl 40 rfl ⟨trivial, trivial, trivial, trivial, trivial, trivial, trivial, (by rw [e5]; exact am_inb_of (by omega) (by omega)), trivial, trivial, trivial, trivial, trivial, trivial, (by rw [e6]; exact am_inb_of (by omega) (by omega)), trivial, trivial, trivial, trivial, trivial, trivial, trivial, trivial, trivial, trivial, trivial, trivial, trivial, trivial, trivial, trivial, trivial, trivial, trivial, trivial, trivial, trivial, (by first | exact am_inb_lit rfl | exact am_inb_of (by omega) (by omega)), trivial, trivial, trivial⟩ ?_
      refine am_Rn.go (t := am_t3) rfl 5 rfl ⟨trivial, trivial, trivial, trivial, trivial, trivial⟩ ?_
      have g := ih (i + 1) (by omega) (some (.int (sp_worth nu (if nu 0 < Int32.ofNat i then nu 0 else Int32.ofNat i)))) (some (.int (2 * cl (i - 1) - cl (i - 2)))) (by omega)
      rw [am_fold_succ, sp_errOne_ge h2, ← am_inc] at g
      rw [e5, e6, e1, am_tn (i - 1) (by omega), am_tn (i - 2) (by omega)]
      exact g
  refine am_Rn.go (t := am_t3) rfl 4 rfl ⟨trivial, trivial, trivial, trivial, trivial⟩ ?_
  exact L (C - 2) 2 (by omega) _ _ (by omega)
theorem sx_seekShares (sc : am_Sc) (v : Int32) (C : Nat) (hC : 3 ≤ C) (hC2 : C ≤ 12) (nu la me tc ts : Nat → Int32) (pe : Int32) (cl : Nat → Int32) (bw br le : Int32) (B0 B2 B3 B4 B5 B6 B7 B8 B9 B10 B11 : List am_E) (Bs : am_M) : am_Rn sc 2 (0, am_entry 2 [.ref 384, .ref 32, .int v], [], B0 :: bkRules 32 nu la me tc ts pe :: B2 :: B3 :: B4 :: B5 :: B6 :: B7 :: B8 :: B9 :: B10 :: B11 :: bkClues cl (Int32.ofNat C) bw br le :: Bs) (fun r M' => r = none ∧ M' = B0 :: bkRules 32 nu la me tc ts pe :: B2 :: B3 :: B4 :: B5 :: B6 :: B7 :: B8 :: B9 :: B10 :: B11 :: bkClues cl (Int32.ofNat C) (am_down 10 (sp_fitRow nu cl C v) (-1, bw, br)).2.1 (am_down 10 (sp_fitRow nu cl C v) (-1, bw, br)).2.2 (am_down 10 (sp_fitRow nu cl C v) (-1, bw, br)).1 :: Bs) := by
  show am_Rn sc 2 (0, [some (.ref 384), some (.ref 32), some (.int v), none, none, none], [], _) _
  have LB : ∀ (A : Nat) (hA : A ≤ 10) (K : Option Value → am_M → Prop) (B : Nat), B ≤ 10 → ∀ (X : sp_F3) (x5 : Option Value), (∀ x5 : Option Value, am_Rn sc 2 (38, [some (.ref 384), some (.ref 32), some (.int v), some (.int (Int32.ofNat A)), some (.int (-1)), x5], [], B0 :: bkRules 32 nu la me tc ts pe :: B2 :: B3 :: B4 :: B5 :: B6 :: B7 :: B8 :: B9 :: B10 :: B11 :: bkClues cl (Int32.ofNat C) (am_down B (sp_fitOne nu cl C v A) X).2.1 (am_down B (sp_fitOne nu cl C v A) X).2.2 (am_down B (sp_fitOne nu cl C v A) X).1 :: Bs) K) → am_Rn sc 2 (11, [some (.ref 384), some (.ref 32), some (.int v), some (.int (Int32.ofNat A)), some (.int (Int32.ofNat B)), x5], [], B0 :: bkRules 32 nu la me tc ts pe :: B2 :: B3 :: B4 :: B5 :: B6 :: B7 :: B8 :: B9 :: B10 :: B11 :: bkClues cl (Int32.ofNat C) X.2.1 X.2.2 X.1 :: Bs) K := by
    intro A hA K B
    induction B with
    | zero =>
      intro hB X x5 hk
      refine am_Rn.go (t := am_t2) rfl 2 rfl ⟨trivial, trivial, trivial⟩ ?_
      refine am_Rn.brF (fun q => absurd ((am_lt (i := 0) (j := 0) (by omega) (by omega)).mp q) (by omega)) ?_
      refine am_Rn.go (t := am_t2) rfl 5 rfl ⟨trivial, trivial, trivial, trivial, trivial, trivial⟩ ?_
      refine am_Rn.call (t := am_t2) rfl rfl (sx_errorsBy sc _ _ _ C (by omega) hC2 ..) ?_
      rintro _ _ ⟨rfl, rfl⟩
      refine am_Rn.go (t := am_t2) rfl 4 rfl ⟨trivial, trivial, trivial, trivial, trivial⟩ ?_
      refine am_Rn.br (fun h2 => ?_) (fun h2 => ?_)
      · skip
        refine am_Rn.go (t := am_t2) rfl 11 rfl ⟨trivial, trivial, trivial, trivial, trivial, trivial, trivial, trivial, trivial, trivial, trivial, trivial⟩ ?_
        refine am_Rn.go (t := am_t2) rfl 2 rfl ⟨trivial, trivial, trivial⟩ ?_
        refine am_Rn.brT (by decide) ?_
        first
          | (have g : _ := hk (some (.int (sp_err nu cl C (Int32.ofNat A) (Int32.ofNat 0) v)))
             rw [show am_down 0 (sp_fitOne nu cl C v A) X = sp_fitOne nu cl C v A 0 X from rfl, sp_fitOne_T (by first | exact Or.inl (by assumption) | exact Or.inr (Int32.not_le.mp (by assumption)))] at g
             skip
             exact g)
          | (have g : _ := hk (some (.int (sp_err nu cl C (Int32.ofNat A) (Int32.ofNat 0) v)))
             rw [show am_down 0 (sp_fitOne nu cl C v A) X = sp_fitOne nu cl C v A 0 X from rfl, sp_fitOne_F (fun q => q.elim (by assumption) (fun q => Int32.not_le.mpr q (by assumption)))] at g
             skip
             exact g)
      · skip
        refine am_Rn.go (t := am_t2) rfl 4 rfl ⟨trivial, trivial, trivial, trivial, trivial⟩ ?_
        refine am_Rn.br (fun h3 => ?_) (fun h3 => ?_)
        · skip
          refine am_Rn.go (t := am_t2) rfl 2 rfl ⟨trivial, trivial, trivial⟩ ?_
          refine am_Rn.go (t := am_t2) rfl 2 rfl ⟨trivial, trivial, trivial⟩ ?_
          refine am_Rn.brT (by decide) ?_
          first
            | (have g : _ := hk (some (.int (sp_err nu cl C (Int32.ofNat A) (Int32.ofNat 0) v)))
               rw [show am_down 0 (sp_fitOne nu cl C v A) X = sp_fitOne nu cl C v A 0 X from rfl, sp_fitOne_T (by first | exact Or.inl (by assumption) | exact Or.inr (Int32.not_le.mp (by assumption)))] at g
               skip
               exact g)
            | (have g : _ := hk (some (.int (sp_err nu cl C (Int32.ofNat A) (Int32.ofNat 0) v)))
               rw [show am_down 0 (sp_fitOne nu cl C v A) X = sp_fitOne nu cl C v A 0 X from rfl, sp_fitOne_F (fun q => q.elim (by assumption) (fun q => Int32.not_le.mpr q (by assumption)))] at g
               skip
               exact g)
        · skip
          refine am_Rn.go (t := am_t2) rfl 11 rfl ⟨trivial, trivial, trivial, trivial, trivial, trivial, trivial, trivial, trivial, trivial, trivial, trivial⟩ ?_
          refine am_Rn.go (t := am_t2) rfl 2 rfl ⟨trivial, trivial, trivial⟩ ?_
          refine am_Rn.brT (by decide) ?_
          first
            | (have g : _ := hk (some (.int (sp_err nu cl C (Int32.ofNat A) (Int32.ofNat 0) v)))
               rw [show am_down 0 (sp_fitOne nu cl C v A) X = sp_fitOne nu cl C v A 0 X from rfl, sp_fitOne_T (by first | exact Or.inl (by assumption) | exact Or.inr (Int32.not_le.mp (by assumption)))] at g
               skip
               exact g)
            | (have g : _ := hk (some (.int (sp_err nu cl C (Int32.ofNat A) (Int32.ofNat 0) v)))
               rw [show am_down 0 (sp_fitOne nu cl C v A) X = sp_fitOne nu cl C v A 0 X from rfl, sp_fitOne_F (fun q => q.elim (by assumption) (fun q => Int32.not_le.mpr q (by assumption)))] at g
               skip
               exact g)
    | succ B ih =>
      intro hB X x5 hk
      have e6 := am_decN B
      refine am_Rn.go (t := am_t2) rfl 2 rfl ⟨trivial, trivial, trivial⟩ ?_
      refine am_Rn.brF (fun q => absurd ((am_lt (i := B + 1) (j := 0) (by omega) (by omega)).mp q) (by omega)) ?_
      refine am_Rn.go (t := am_t2) rfl 5 rfl ⟨trivial, trivial, trivial, trivial, trivial, trivial⟩ ?_
      refine am_Rn.call (t := am_t2) rfl rfl (sx_errorsBy sc _ _ _ C (by omega) hC2 ..) ?_
      rintro _ _ ⟨rfl, rfl⟩
      refine am_Rn.go (t := am_t2) rfl 4 rfl ⟨trivial, trivial, trivial, trivial, trivial⟩ ?_
      refine am_Rn.br (fun h2 => ?_) (fun h2 => ?_)
      · skip
        refine am_Rn.go (t := am_t2) rfl 11 rfl ⟨trivial, trivial, trivial, trivial, trivial, trivial, trivial, trivial, trivial, trivial, trivial, trivial⟩ ?_
        first
          | (have g := ih (by omega) (sp_fitOne nu cl C v A (B + 1) X) (some (.int (sp_err nu cl C (Int32.ofNat A) (Int32.ofNat (B + 1)) v))) hk
             rw [sp_fitOne_T (by first | exact Or.inl (by assumption) | exact Or.inr (Int32.not_le.mp (by assumption)))] at g
             rw [← e6] at g
             exact g)
          | (have g := ih (by omega) (sp_fitOne nu cl C v A (B + 1) X) (some (.int (sp_err nu cl C (Int32.ofNat A) (Int32.ofNat (B + 1)) v))) hk
             rw [sp_fitOne_F (fun q => q.elim (by assumption) (fun q => Int32.not_le.mpr q (by assumption)))] at g
             rw [← e6] at g
             exact g)
      · skip
        refine am_Rn.go (t := am_t2) rfl 4 rfl ⟨trivial, trivial, trivial, trivial, trivial⟩ ?_
        refine am_Rn.br (fun h3 => ?_) (fun h3 => ?_)
        · skip
          refine am_Rn.go (t := am_t2) rfl 2 rfl ⟨trivial, trivial, trivial⟩ ?_
          first
            | (have g := ih (by omega) (sp_fitOne nu cl C v A (B + 1) X) (some (.int (sp_err nu cl C (Int32.ofNat A) (Int32.ofNat (B + 1)) v))) hk
               rw [sp_fitOne_T (by first | exact Or.inl (by assumption) | exact Or.inr (Int32.not_le.mp (by assumption)))] at g
               rw [← e6] at g
               exact g)
            | (have g := ih (by omega) (sp_fitOne nu cl C v A (B + 1) X) (some (.int (sp_err nu cl C (Int32.ofNat A) (Int32.ofNat (B + 1)) v))) hk
               rw [sp_fitOne_F (fun q => q.elim (by assumption) (fun q => Int32.not_le.mpr q (by assumption)))] at g
               rw [← e6] at g
               exact g)
        · skip
          refine am_Rn.go (t := am_t2) rfl 11 rfl ⟨trivial, trivial, trivial, trivial, trivial, trivial, trivial, trivial, trivial, trivial, trivial, trivial⟩ ?_
          first
            | (have g := ih (by omega) (sp_fitOne nu cl C v A (B + 1) X) (some (.int (sp_err nu cl C (Int32.ofNat A) (Int32.ofNat (B + 1)) v))) hk
               rw [sp_fitOne_T (by first | exact Or.inl (by assumption) | exact Or.inr (Int32.not_le.mp (by assumption)))] at g
               rw [← e6] at g
               exact g)
            | (have g := ih (by omega) (sp_fitOne nu cl C v A (B + 1) X) (some (.int (sp_err nu cl C (Int32.ofNat A) (Int32.ofNat (B + 1)) v))) hk
               rw [sp_fitOne_F (fun q => q.elim (by assumption) (fun q => Int32.not_le.mpr q (by assumption)))] at g
               rw [← e6] at g
               exact g)
  have LA : ∀ (A : Nat), A ≤ 10 → ∀ (X : sp_F3) (x4 x5 : Option Value), am_Rn sc 2 (5, [some (.ref 384), some (.ref 32), some (.int v), some (.int (Int32.ofNat A)), x4, x5], [], B0 :: bkRules 32 nu la me tc ts pe :: B2 :: B3 :: B4 :: B5 :: B6 :: B7 :: B8 :: B9 :: B10 :: B11 :: bkClues cl (Int32.ofNat C) X.2.1 X.2.2 X.1 :: Bs) (fun r M' => r = none ∧ M' = B0 :: bkRules 32 nu la me tc ts pe :: B2 :: B3 :: B4 :: B5 :: B6 :: B7 :: B8 :: B9 :: B10 :: B11 :: bkClues cl (Int32.ofNat C) (am_down A (sp_fitRow nu cl C v) X).2.1 (am_down A (sp_fitRow nu cl C v) X).2.2 (am_down A (sp_fitRow nu cl C v) X).1 :: Bs) := by
    intro A
    induction A with
    | zero =>
      intro hA X x4 x5
      refine am_Rn.go (t := am_t2) rfl 2 rfl ⟨trivial, trivial, trivial⟩ ?_
      refine am_Rn.brF (fun q => absurd ((am_lt (i := 0) (j := 0) (by omega) (by omega)).mp q) (by omega)) ?_
      refine am_Rn.go (t := am_t2) rfl 4 rfl ⟨trivial, trivial, trivial, trivial, trivial⟩ ?_
      rw [show (10 : Int32) - Int32.ofNat (0) = Int32.ofNat (10 - (0)) from am_sub_ofN (i := 10) (by omega) (by omega)]
      refine LB (0) (by omega) _ (10 - (0)) (by omega) X x5 (fun x5 => ?_)
      rw [show am_down (10 - (0)) (sp_fitOne nu cl C v (0)) X = sp_fitRow nu cl C v (0) X from rfl]
      refine am_Rn.go (t := am_t2) rfl 4 rfl ⟨trivial, trivial, trivial, trivial, trivial⟩ ?_
      refine am_Rn.brT (by decide) ?_
      refine am_Rn.ret (t := am_t2) rfl rfl trivial ?_
      refine ⟨rfl, ?_⟩
      rw [am_down_zero]
    | succ A ih =>
      intro hA X x4 x5
      have e6 := am_decN A
      refine am_Rn.go (t := am_t2) rfl 2 rfl ⟨trivial, trivial, trivial⟩ ?_
      refine am_Rn.brF (fun q => absurd ((am_lt (i := A + 1) (j := 0) (by omega) (by omega)).mp q) (by omega)) ?_
      refine am_Rn.go (t := am_t2) rfl 4 rfl ⟨trivial, trivial, trivial, trivial, trivial⟩ ?_
      rw [show (10 : Int32) - Int32.ofNat (A + 1) = Int32.ofNat (10 - (A + 1)) from am_sub_ofN (i := 10) (by omega) (by omega)]
      refine LB (A + 1) (by omega) _ (10 - (A + 1)) (by omega) X x5 (fun x5 => ?_)
      rw [show am_down (10 - (A + 1)) (sp_fitOne nu cl C v (A + 1)) X = sp_fitRow nu cl C v (A + 1) X from rfl]
      refine am_Rn.go (t := am_t2) rfl 2 rfl ⟨trivial, trivial, trivial⟩ ?_
      rw [e6]
      exact ih (by omega) (sp_fitRow nu cl C v (A + 1) X) _ _
  refine am_Rn.go (t := am_t2) rfl 5 rfl ⟨trivial, trivial, trivial, trivial, trivial, trivial⟩ ?_
  exact LA 10 (by omega) (-1, bw, br) _ _
