def sp_outOne (nr ho : Nat → Int32) (r : Nat) (X : Int32 × Int32) : Int32 × Int32 := if X.2 < sp_mean nr ho r then (Int32.ofNat r, sp_mean nr ho r) else X
theorem sp_out_eq {nr ho : Nat → Int32} (h : (-1 : Int32) < sp_mean nr ho 0) : ∀ n : Nat, am_fold (n + 1) (sp_outOne nr ho) (0, -1) = (Int32.ofNat (am_fold (n + 1) (sp_bestOne nr ho) 0), sp_mean nr ho (am_fold (n + 1) (sp_bestOne nr ho) 0)) := by
  intro n
  induction n with
  | zero =>
    show sp_outOne nr ho 0 (0, -1) = (Int32.ofNat (sp_bestOne nr ho 0 0), sp_mean nr ho (sp_bestOne nr ho 0 0))
    unfold sp_outOne sp_bestOne
    rw [if_pos h, if_pos rfl]
  | succ n ih =>
    rw [am_fold_succ (n + 1), am_fold_succ (n + 1), ih]
    generalize am_fold (n + 1) (sp_bestOne nr ho) 0 = b
    unfold sp_outOne sp_bestOne
    rw [if_neg (show ¬ n + 1 = 0 by omega)]
    by_cases hc : sp_mean nr ho (n + 1) ≤ sp_mean nr ho b
    · rw [if_pos hc, if_neg (Int32.not_lt.mpr hc)]
    · rw [if_neg hc, if_pos (Int32.not_le.mp hc)]
theorem am_size0 (x : Int32) : (if x < 0 then -x else x) = sp_abs x := by
  unfold sp_abs
  by_cases h : x < 0
  · rw [if_pos h, if_neg (Int32.not_le.mpr h), Int32.zero_sub]
  · rw [if_neg h, if_pos (Int32.not_lt.mp h)]
theorem am_subNN {i j : Nat} (h : j ≤ i) (hi : i < 2147483648) : Int32.ofNat i - Int32.ofNat j = Int32.ofNat (i - j) := am_sub_ofN h hi
theorem mm_out_T (sc : am_Sc) (w : Int32) (hw : 0 ≤ w ∧ w ≤ 1) (nr ho : Nat → Int32) (h0 : (-1 : Int32) < sp_mean nr ho 0) (tr : Int64) (ty nx tk pl va fa dp cm : Int32) (tx nu dn la me tc ts ps : Nat → Int32) (P : Nat) (rd pr pv sa pd lo : Int32) (bo co sh se si er of_ sp ke ik bi bt so ou cl : Nat → Int32) (B0 B1 B2 B3 B4 B5 B6 B7 B8 B9 B10 B11 B12 : List am_E) (Bs : am_M) : am_Rn sc 152 (0, am_entry 152 [.ref 416, .int w], [], B0 :: B1 :: B2 :: B3 :: B4 :: B5 :: B6 :: B7 :: B8 :: B9 :: B10 :: B11 :: B12 :: bkModel tr ty nx tk pl va fa (Int32.ofNat P) dp cm tx (mp_ru nu dn) (mp_ps (mp_q la me tc ts) ps) (mp_s rd pr pv sa pd lo bo co sh se si er of_) sp ke ik bi bt so nr ou ho cl :: Bs) (fun r M' => r = some (.int (an_out nr ho w)) ∧ M' = B0 :: B1 :: B2 :: B3 :: B4 :: B5 :: B6 :: B7 :: B8 :: B9 :: B10 :: B11 :: B12 :: bkModel tr ty nx tk pl va fa (Int32.ofNat P) dp cm tx (mp_ru nu dn) (mp_ps (mp_q la me tc ts) ps) (mp_s rd pr pv sa pd lo bo co sh se si er of_) sp ke ik bi bt so nr ou ho cl :: Bs) := by
  show am_Rn sc 152 (0, [some (.ref 416), some (.int w), none, none, none, none, none], [], _) _
  have LJ : ∀ (i : Nat), i < 10 → ∀ (Z : Int32 × Int32) (K : Option Value → am_M → Prop), am_Rn sc 152 (58, [some (.ref 416), some (.int w), some (.int Z.1), some (.int Z.2), some (.int (Int32.ofNat i)), some (.int (am_fold 10 (sp_meanOne nr ho i) 0)), some (.int (Int32.ofNat 10))], [], B0 :: B1 :: B2 :: B3 :: B4 :: B5 :: B6 :: B7 :: B8 :: B9 :: B10 :: B11 :: B12 :: bkModel tr ty nx tk pl va fa (Int32.ofNat P) dp cm tx (mp_ru nu dn) (mp_ps (mp_q la me tc ts) ps) (mp_s rd pr pv sa pd lo bo co sh se si er of_) sp ke ik bi bt so nr ou ho cl :: Bs) K → ∀ (d j : Nat), j + d = 10 → am_Rn sc 152 (23, [some (.ref 416), some (.int w), some (.int Z.1), some (.int Z.2), some (.int (Int32.ofNat i)), some (.int (am_fold j (sp_meanOne nr ho i) 0)), some (.int (Int32.ofNat j))], [], B0 :: B1 :: B2 :: B3 :: B4 :: B5 :: B6 :: B7 :: B8 :: B9 :: B10 :: B11 :: B12 :: bkModel tr ty nx tk pl va fa (Int32.ofNat P) dp cm tx (mp_ru nu dn) (mp_ps (mp_q la me tc ts) ps) (mp_s rd pr pv sa pd lo bo co sh se si er of_) sp ke ik bi bt so nr ou ho cl :: Bs) K := by
    intro i hi10 Z K hk d
    induction d with
    | zero =>
      intro j hj
      have hjP : j = 10 := by omega
      subst j
      refine am_Rn.go (t := am_t152) rfl 3 rfl ⟨trivial, trivial, trivial, trivial⟩ ?_
      refine am_Rn.brT (by decide) ?_
      exact hk
    | succ d ih =>
      intro j hj
      have e1 : (Int32.ofNat j).toNatClampNeg = j := am_tn j (by omega)
      have g := ih (j + 1) (by omega)
      rw [am_fold_succ j (sp_meanOne nr ho i), ← am_inc] at g
      generalize hX : (am_fold j (sp_meanOne nr ho i) 0) = Y at g ⊢
      rcases Classical.em (i < j) with h1 | h1
      · skip
        have e5 : sp_meanOne nr ho i j Y = Y + ho j * (2 * sp_price nr (Int32.ofNat i)) := by unfold sp_meanOne; rw [if_pos h1]
        rw [e5] at g
        refine am_Rn.go (t := am_t152) rfl 3 rfl ⟨trivial, trivial, trivial, trivial⟩ ?_
        refine am_Rn.brF (fun q => absurd ((am_le (i := 10) (by omega) (by omega)).mp q) (by omega)) ?_
        refine am_Rn.go (t := am_t152) rfl 8 rfl ⟨trivial, trivial, trivial, trivial, (by exact am_inb_of (by omega) (by omega)), trivial, trivial, trivial, trivial⟩ ?_
        refine am_Rn.brF (fun q => absurd ((am_le (by omega) (by omega)).mp q) (by omega)) ?_
        refine am_Rn.go (t := am_t152) rfl 3 rfl ⟨trivial, trivial, trivial, trivial⟩ ?_
        refine am_Rn.call (t := am_t152) rfl rfl (mm_priceAt ..) ?_
        rintro _ _ ⟨rfl, rfl⟩
        refine am_Rn.go (t := am_t152) rfl 7 rfl ⟨trivial, trivial, trivial, trivial, trivial, trivial, trivial, trivial⟩ ?_
        rw [e1]
        exact g
      · skip
        rcases Classical.em (i = j) with h2 | h2
        · skip
          have h3 : Int32.ofNat j = Int32.ofNat i := by rw [h2]
          have e5 : sp_meanOne nr ho i j Y = Y + ho j * (sp_price nr (Int32.ofNat i)) := by unfold sp_meanOne; rw [if_neg h1, if_pos h2]
          rw [e5] at g
          refine am_Rn.go (t := am_t152) rfl 3 rfl ⟨trivial, trivial, trivial, trivial⟩ ?_
          refine am_Rn.brF (fun q => absurd ((am_le (i := 10) (by omega) (by omega)).mp q) (by omega)) ?_
          refine am_Rn.go (t := am_t152) rfl 8 rfl ⟨trivial, trivial, trivial, trivial, (by exact am_inb_of (by omega) (by omega)), trivial, trivial, trivial, trivial⟩ ?_
          refine am_Rn.brT ((am_le (by omega) (by omega)).mpr (by omega)) ?_
          refine am_Rn.go (t := am_t152) rfl 3 rfl ⟨trivial, trivial, trivial, trivial⟩ ?_
          refine am_Rn.brT h3 ?_
          refine am_Rn.go (t := am_t152) rfl 2 rfl ⟨trivial, trivial, trivial⟩ ?_
          refine am_Rn.call (t := am_t152) rfl rfl (mm_priceAt ..) ?_
          rintro _ _ ⟨rfl, rfl⟩
          refine am_Rn.go (t := am_t152) rfl 6 rfl ⟨trivial, trivial, trivial, trivial, trivial, trivial, trivial⟩ ?_
          rw [e1]
          exact g
        · skip
          have e5 : sp_meanOne nr ho i j Y = Y + ho j * (2 * nr 2) := by unfold sp_meanOne; rw [if_neg h1, if_neg h2]
          rw [e5] at g
          refine am_Rn.go (t := am_t152) rfl 3 rfl ⟨trivial, trivial, trivial, trivial⟩ ?_
          refine am_Rn.brF (fun q => absurd ((am_le (i := 10) (by omega) (by omega)).mp q) (by omega)) ?_
          refine am_Rn.go (t := am_t152) rfl 8 rfl ⟨trivial, trivial, trivial, trivial, (by exact am_inb_of (by omega) (by omega)), trivial, trivial, trivial, trivial⟩ ?_
          refine am_Rn.brT ((am_le (by omega) (by omega)).mpr (by omega)) ?_
          refine am_Rn.go (t := am_t152) rfl 3 rfl ⟨trivial, trivial, trivial, trivial⟩ ?_
          refine am_Rn.brF (fun q => absurd ((am_eqi (by omega) (by omega)).mp q) (by omega)) ?_
          refine am_Rn.go (t := am_t152) rfl 11 rfl ⟨trivial, trivial, trivial, trivial, (by first | exact am_inb_lit rfl | exact am_inb_of (by omega) (by omega)), trivial, trivial, trivial, trivial, trivial, trivial, trivial⟩ ?_
          rw [e1]
          exact g
  have L : ∀ (d i : Nat) (x5 x6 : Option Value), i + d = 10 → am_Rn sc 152 (16, [some (.ref 416), some (.int w), some (.int (am_fold i (sp_outOne nr ho) (0, -1)).1), some (.int (am_fold i (sp_outOne nr ho) (0, -1)).2), some (.int (Int32.ofNat i)), x5, x6], [], B0 :: B1 :: B2 :: B3 :: B4 :: B5 :: B6 :: B7 :: B8 :: B9 :: B10 :: B11 :: B12 :: bkModel tr ty nx tk pl va fa (Int32.ofNat P) dp cm tx (mp_ru nu dn) (mp_ps (mp_q la me tc ts) ps) (mp_s rd pr pv sa pd lo bo co sh se si er of_) sp ke ik bi bt so nr ou ho cl :: Bs) (fun r M' => r = some (.int (an_out nr ho w)) ∧ M' = B0 :: B1 :: B2 :: B3 :: B4 :: B5 :: B6 :: B7 :: B8 :: B9 :: B10 :: B11 :: B12 :: bkModel tr ty nx tk pl va fa (Int32.ofNat P) dp cm tx (mp_ru nu dn) (mp_ps (mp_q la me tc ts) ps) (mp_s rd pr pv sa pd lo bo co sh se si er of_) sp ke ik bi bt so nr ou ho cl :: Bs) := by
    intro d
    induction d with
    | zero =>
      intro i x5 x6 hi
      have hiP : i = 10 := by omega
      subst i
      have hz : (am_fold 10 (sp_outOne nr ho) (0, -1)) = (Int32.ofNat (am_fold 10 (sp_bestOne nr ho) 0), sp_mean nr ho (am_fold 10 (sp_bestOne nr ho) 0)) := sp_out_eq h0 9
      rw [hz]
      refine am_Rn.go (t := am_t152) rfl 3 rfl ⟨trivial, trivial, trivial, trivial⟩ ?_
      refine am_Rn.brT (by decide) ?_
      refine am_Rn.go (t := am_t152) rfl 2 rfl ⟨trivial, trivial, trivial⟩ ?_
      refine am_Rn.br (fun h2 => ?_) (fun h2 => ?_)
      · skip
        have kw : w = 0 := h2
        refine am_Rn.go (t := am_t152) rfl 2 rfl ⟨trivial, trivial, trivial⟩ ?_
        refine am_Rn.ret (t := am_t152) rfl rfl trivial ?_
        refine ⟨congrArg (fun z => some (Value.int z)) ?_, rfl⟩
        unfold an_out
        rw [if_pos hw]
        first
          | (rw [if_pos kw]; done)
          | (rw [if_neg kw]; done)
      · skip
        have kw : ¬ w = 0 := h2
        refine am_Rn.go (t := am_t152) rfl 1 rfl ⟨trivial, trivial⟩ ?_
        refine am_Rn.ret (t := am_t152) rfl rfl trivial ?_
        refine ⟨congrArg (fun z => some (Value.int z)) ?_, rfl⟩
        unfold an_out
        rw [if_pos hw]
        first
          | (rw [if_pos kw]; done)
          | (rw [if_neg kw]; done)
    | succ d ih =>
      intro i x5 x6 hi
      have hiP : i < 10 := by omega
      have e1 : (Int32.ofNat i).toNatClampNeg = i := am_tn i (by omega)
      have g := ih (i + 1) (some (.int (sp_mean nr ho i))) (some (.int (Int32.ofNat 10))) (by omega)
      rw [am_fold_succ i (sp_outOne nr ho), ← am_inc] at g
      generalize hX : (am_fold i (sp_outOne nr ho) (0, -1)) = Z at g ⊢
      rcases Classical.em (Z.2 < sp_mean nr ho i) with h3 | h3
      · skip
        rw [show sp_outOne nr ho i Z = (Int32.ofNat i, sp_mean nr ho i) from if_pos h3] at g
        refine am_Rn.go (t := am_t152) rfl 3 rfl ⟨trivial, trivial, trivial, trivial⟩ ?_
        refine am_Rn.brF (fun q => absurd ((am_le (i := 10) (by omega) (by omega)).mp q) (by omega)) ?_
        refine am_Rn.go (t := am_t152) rfl 4 rfl ⟨trivial, trivial, trivial, trivial, trivial⟩ ?_
        refine LJ i (by omega) Z _ ?_ 10 0 (by omega)
        refine am_Rn.go (t := am_t152) rfl 3 rfl ⟨trivial, trivial, trivial, trivial⟩ ?_
        refine am_Rn.brF (Int32.not_le.mpr h3) ?_
        refine am_Rn.go (t := am_t152) rfl 6 rfl ⟨trivial, trivial, trivial, trivial, trivial, trivial, trivial⟩ ?_
        refine am_Rn.brF (Int32.not_le.mpr h3) ?_
        refine am_Rn.go (t := am_t152) rfl 5 rfl ⟨trivial, trivial, trivial, trivial, trivial, trivial⟩ ?_
        exact g
      · skip
        rw [show sp_outOne nr ho i Z = Z from if_neg h3] at g
        refine am_Rn.go (t := am_t152) rfl 3 rfl ⟨trivial, trivial, trivial, trivial⟩ ?_
        refine am_Rn.brF (fun q => absurd ((am_le (i := 10) (by omega) (by omega)).mp q) (by omega)) ?_
        refine am_Rn.go (t := am_t152) rfl 4 rfl ⟨trivial, trivial, trivial, trivial, trivial⟩ ?_
        refine LJ i (by omega) Z _ ?_ 10 0 (by omega)
        refine am_Rn.go (t := am_t152) rfl 3 rfl ⟨trivial, trivial, trivial, trivial⟩ ?_
        refine am_Rn.brT (Int32.not_lt.mp h3) ?_
        refine am_Rn.go (t := am_t152) rfl 5 rfl ⟨trivial, trivial, trivial, trivial, trivial, trivial⟩ ?_
        refine am_Rn.brT (Int32.not_lt.mp h3) ?_
        refine am_Rn.go (t := am_t152) rfl 4 rfl ⟨trivial, trivial, trivial, trivial, trivial⟩ ?_
        exact g
  refine am_Rn.go (t := am_t152) rfl 6 rfl ⟨trivial, trivial, trivial, trivial, trivial, trivial, trivial⟩ ?_
  refine am_Rn.call (t := am_t152) rfl rfl (sx_in ..) ?_
  rintro _ _ ⟨rfl, rfl⟩
  refine am_Rn.go (t := am_t152) rfl 1 rfl ⟨trivial, trivial⟩ ?_
  refine am_Rn.brF (fun z => am_b0.mp z hw) ?_
  refine am_Rn.go (t := am_t152) rfl 6 rfl ⟨trivial, trivial, trivial, trivial, trivial, trivial, trivial⟩ ?_
  exact L 10 0 _ _ (by omega)
theorem mm_out_F (sc : am_Sc) (w : Int32) (hw : ¬ (0 ≤ w ∧ w ≤ 1)) (tr : Int64) (ty nx tk pl va fa dp cm : Int32) (tx nu dn la me tc ts ps : Nat → Int32) (P : Nat) (rd pr pv sa pd lo : Int32) (bo co sh se si er of_ sp ke ik bi bt so nr ou ho cl : Nat → Int32) (B0 B1 B2 B3 B4 B5 B6 B7 B8 B9 B10 B11 B12 : List am_E) (Bs : am_M) : am_Rn sc 152 (0, am_entry 152 [.ref 416, .int w], [], B0 :: B1 :: B2 :: B3 :: B4 :: B5 :: B6 :: B7 :: B8 :: B9 :: B10 :: B11 :: B12 :: bkModel tr ty nx tk pl va fa (Int32.ofNat P) dp cm tx (mp_ru nu dn) (mp_ps (mp_q la me tc ts) ps) (mp_s rd pr pv sa pd lo bo co sh se si er of_) sp ke ik bi bt so nr ou ho cl :: Bs) (fun r M' => r = some (.int (-1)) ∧ M' = B0 :: B1 :: B2 :: B3 :: B4 :: B5 :: B6 :: B7 :: B8 :: B9 :: B10 :: B11 :: B12 :: bkModel tr ty nx tk pl va fa (Int32.ofNat P) dp cm tx (mp_ru nu dn) (mp_ps (mp_q la me tc ts) ps) (mp_s rd pr pv sa pd lo bo co sh se si er of_) sp ke ik bi bt so nr ou ho cl :: Bs) := by
  show am_Rn sc 152 (0, [some (.ref 416), some (.int w), none, none, none, none, none], [], _) _
  refine am_Rn.go (t := am_t152) rfl 6 rfl ⟨trivial, trivial, trivial, trivial, trivial, trivial, trivial⟩ ?_
  refine am_Rn.call (t := am_t152) rfl rfl (sx_in ..) ?_
  rintro _ _ ⟨rfl, rfl⟩
  refine am_Rn.go (t := am_t152) rfl 1 rfl ⟨trivial, trivial⟩ ?_
  refine am_Rn.brT (am_b0.mpr hw) ?_
  refine am_Rn.go (t := am_t152) rfl 1 rfl ⟨trivial, trivial⟩ ?_
  refine am_Rn.ret (t := am_t152) rfl rfl trivial ?_
  exact ⟨rfl, rfl⟩
theorem mm_errors (sc : am_Sc) (a b c v : Int32) (hc : c = 10 - a - b) (C : Nat) (hC2 : 2 ≤ C) (hC : C ≤ 12) (tr : Int64) (ty nx tk pl va fa dp : Int32) (tx nu dn la me tc ts ps : Nat → Int32) (P : Nat) (rd pr pv sa pd lo : Int32) (bo co sh se si er of_ sp ke ik bi bt so nr ou ho cl : Nat → Int32) (B0 B1 B2 B3 B4 B5 B6 B7 B8 B9 B10 B11 B12 : List am_E) (Bs : am_M) : am_Rn sc 154 (0, am_entry 154 [.ref 416, .int a, .int b, .int c, .int v], [], B0 :: B1 :: B2 :: B3 :: B4 :: B5 :: B6 :: B7 :: B8 :: B9 :: B10 :: B11 :: B12 :: bkModel tr ty nx tk pl va fa (Int32.ofNat P) dp (Int32.ofNat C) tx (mp_ru nu dn) (mp_ps (mp_q la me tc ts) ps) (mp_s rd pr pv sa pd lo bo co sh se si er of_) sp ke ik bi bt so nr ou ho cl :: Bs) (fun r M' => r = some (.int (sp_err nu cl C a b v)) ∧ M' = B0 :: B1 :: B2 :: B3 :: B4 :: B5 :: B6 :: B7 :: B8 :: B9 :: B10 :: B11 :: B12 :: bkModel tr ty nx tk pl va fa (Int32.ofNat P) dp (Int32.ofNat C) tx (mp_ru nu dn) (mp_ps (mp_q la me tc ts) ps) (mp_s rd pr pv sa pd lo bo co sh se si er of_) sp ke ik bi bt so nr ou ho cl :: Bs) := by
  show am_Rn sc 154 (0, [some (.ref 416), some (.int a), some (.int b), some (.int c), some (.int v), none, none, none], [], _) _
  have L : ∀ (d i : Nat) (x7 : Option Value), i + d = C → 2 ≤ i → am_Rn sc 154 (4, [some (.ref 416), some (.int a), some (.int b), some (.int c), some (.int v), some (.int (am_fold i (sp_errOne nu cl a b v) 0)), some (.int (Int32.ofNat i)), x7], [], B0 :: B1 :: B2 :: B3 :: B4 :: B5 :: B6 :: B7 :: B8 :: B9 :: B10 :: B11 :: B12 :: bkModel tr ty nx tk pl va fa (Int32.ofNat P) dp (Int32.ofNat C) tx (mp_ru nu dn) (mp_ps (mp_q la me tc ts) ps) (mp_s rd pr pv sa pd lo bo co sh se si er of_) sp ke ik bi bt so nr ou ho cl :: Bs) (fun r M' => r = some (.int (sp_err nu cl C a b v)) ∧ M' = B0 :: B1 :: B2 :: B3 :: B4 :: B5 :: B6 :: B7 :: B8 :: B9 :: B10 :: B11 :: B12 :: bkModel tr ty nx tk pl va fa (Int32.ofNat P) dp (Int32.ofNat C) tx (mp_ru nu dn) (mp_ps (mp_q la me tc ts) ps) (mp_s rd pr pv sa pd lo bo co sh se si er of_) sp ke ik bi bt so nr ou ho cl :: Bs) := by
    intro d
    induction d with
    | zero =>
      intro i x7 hi hi2
      have hiP : i = C := by omega
      subst i
      refine am_Rn.go (t := am_t154) rfl 4 rfl ⟨trivial, trivial, trivial, trivial, trivial⟩ ?_
      refine am_Rn.brT (by first | exact (am_le (by omega) (by omega)).mpr (Nat.le_refl _) | exact fun q => absurd ((am_lt (by omega) (by omega)).mp q) (Nat.lt_irrefl _) | exact (am_lt (by omega) (by omega)).mpr (by omega) | decide) ?_
      refine am_Rn.go (t := am_t154) rfl 1 rfl ⟨trivial, trivial⟩ ?_
      refine am_Rn.ret (t := am_t154) rfl rfl trivial ?_
      exact ⟨rfl, rfl⟩
    | succ d ih =>
      intro i x7 hi hi2
      have hiP : i < C := by omega
      have e1 : (Int32.ofNat i).toNatClampNeg = i := am_tn i (by omega)
      have h2i : 2 ≤ i := by omega
      have e3 : Int32.ofNat i - 1 = Int32.ofNat (i - 1) := am_sub_ofN (j := 1) (by omega) (by omega)
      have e4 : Int32.ofNat i - 2 = Int32.ofNat (i - 2) := am_sub_ofN (j := 2) (by omega) (by omega)
      have e5 : (Int32.ofNat i - 1).toNatClampNeg = i - 1 := by rw [e3]; exact am_tn _ (by omega)
      have e6 : (Int32.ofNat i - 2).toNatClampNeg = i - 2 := by rw [e4]; exact am_tn _ (by omega)
      rcases Classical.em (Int32.ofNat i < nu 0) with h3 | h3
      · skip
        have hu : (if nu 0 < Int32.ofNat i then nu 0 else Int32.ofNat i) = Int32.ofNat i := if_neg (fun q => Int32.lt_irrefl (Int32.lt_trans q h3))
        have g := ih (i + 1) (some (.int (sp_worth nu (Int32.ofNat i)))) (by omega) (by omega)
        rw [am_fold_succ i (sp_errOne nu cl a b v), ← am_inc, sp_errOne_ge h2i] at g
        generalize hX : (am_fold i (sp_errOne nu cl a b v) 0) = X at g ⊢
        rw [hu, ← hc] at g
        refine am_Rn.go (t := am_t154) rfl 4 rfl ⟨trivial, trivial, trivial, trivial, trivial⟩ ?_
        refine am_Rn.brF (by first | exact fun q => absurd ((am_le (by omega) (by omega)).mp q) (by omega) | exact fun q => absurd ((am_le (i := 9) (by omega) (by omega)).mp q) (by omega) | exact fun q => absurd ((am_le (i := 10) (by omega) (by omega)).mp q) (by omega) | exact fun q => absurd ((am_le (i := 80) (by omega) (by omega)).mp q) (by omega) | exact (am_lt (by omega) (by omega)).mpr hiP | exact fun q => absurd ((am_lt (by omega) (by omega)).mp q) (by omega)) ?_
        refine am_Rn.go (t := am_t154) rfl 7 rfl ⟨trivial, trivial, trivial, trivial, trivial, (by first | exact am_inb_lit rfl | exact am_inb_of (by omega) (by omega)), trivial, trivial⟩ ?_
        refine am_Rn.brF (Int32.not_le.mpr h3) ?_
        refine am_Rn.go (t := am_t154) rfl 2 rfl ⟨trivial, trivial, trivial⟩ ?_
        refine am_Rn.call (t := am_t154) rfl rfl (mm_worthIn ..) ?_
        rintro _ _ ⟨rfl, rfl⟩
        refine am_Rn.go (t := am_t154) rfl 34 rfl ⟨trivial, trivial, trivial, trivial, trivial, trivial, trivial, trivial, trivial, trivial, trivial, trivial, (by rw [e3]; exact am_inb_of (by omega) (by omega)), trivial, trivial, trivial, trivial, trivial, trivial, (by rw [e4]; exact am_inb_of (by omega) (by omega)), trivial, trivial, trivial, trivial, trivial, trivial, trivial, trivial, trivial, trivial, trivial, (by exact am_inb_of (by omega) (by omega)), trivial, trivial, trivial⟩ ?_
        refine am_Rn.call (t := am_t154) rfl rfl (sx_size ..) ?_
        rintro _ _ ⟨rfl, rfl⟩
        rw [am_size0, e1, e5, e6]
        refine am_Rn.go (t := am_t154) rfl 4 rfl ⟨trivial, trivial, trivial, trivial, trivial⟩ ?_
        exact g
      · skip
        have hu : (if nu 0 < Int32.ofNat i then nu 0 else Int32.ofNat i) = nu 0 := by
          split
          · rfl
          · next q => exact Int32.le_antisymm (Int32.not_lt.mp q) (Int32.not_lt.mp h3)
        have g := ih (i + 1) (some (.int (sp_worth nu (nu 0)))) (by omega) (by omega)
        rw [am_fold_succ i (sp_errOne nu cl a b v), ← am_inc, sp_errOne_ge h2i] at g
        generalize hX : (am_fold i (sp_errOne nu cl a b v) 0) = X at g ⊢
        rw [hu, ← hc] at g
        refine am_Rn.go (t := am_t154) rfl 4 rfl ⟨trivial, trivial, trivial, trivial, trivial⟩ ?_
        refine am_Rn.brF (by first | exact fun q => absurd ((am_le (by omega) (by omega)).mp q) (by omega) | exact fun q => absurd ((am_le (i := 9) (by omega) (by omega)).mp q) (by omega) | exact fun q => absurd ((am_le (i := 10) (by omega) (by omega)).mp q) (by omega) | exact fun q => absurd ((am_le (i := 80) (by omega) (by omega)).mp q) (by omega) | exact (am_lt (by omega) (by omega)).mpr hiP | exact fun q => absurd ((am_lt (by omega) (by omega)).mp q) (by omega)) ?_
        refine am_Rn.go (t := am_t154) rfl 7 rfl ⟨trivial, trivial, trivial, trivial, trivial, (by first | exact am_inb_lit rfl | exact am_inb_of (by omega) (by omega)), trivial, trivial⟩ ?_
        refine am_Rn.brT (Int32.not_lt.mp h3) ?_
        refine am_Rn.go (t := am_t154) rfl 4 rfl ⟨trivial, trivial, trivial, (by first | exact am_inb_lit rfl | exact am_inb_of (by omega) (by omega)), trivial⟩ ?_
        refine am_Rn.call (t := am_t154) rfl rfl (mm_worthIn ..) ?_
        rintro _ _ ⟨rfl, rfl⟩
        refine am_Rn.go (t := am_t154) rfl 34 rfl ⟨trivial, trivial, trivial, trivial, trivial, trivial, trivial, trivial, trivial, trivial, trivial, trivial, (by rw [e3]; exact am_inb_of (by omega) (by omega)), trivial, trivial, trivial, trivial, trivial, trivial, (by rw [e4]; exact am_inb_of (by omega) (by omega)), trivial, trivial, trivial, trivial, trivial, trivial, trivial, trivial, trivial, trivial, trivial, (by exact am_inb_of (by omega) (by omega)), trivial, trivial, trivial⟩ ?_
        refine am_Rn.call (t := am_t154) rfl rfl (sx_size ..) ?_
        rintro _ _ ⟨rfl, rfl⟩
        rw [am_size0, e1, e5, e6]
        refine am_Rn.go (t := am_t154) rfl 4 rfl ⟨trivial, trivial, trivial, trivial, trivial⟩ ?_
        exact g
  refine am_Rn.go (t := am_t154) rfl 4 rfl ⟨trivial, trivial, trivial, trivial, trivial⟩ ?_
  exact L (C - 2) 2 none (by omega) (by omega)
theorem mm_fit_T (sc : am_Sc) (v w : Int32) (C : Nat) (hC3 : 3 ≤ C) (hC : C ≤ 12) (nu cl : Nat → Int32) (hE : ∀ A B : Nat, A ≤ 10 → B ≤ 10 → 0 ≤ sp_err nu cl C (Int32.ofNat A) (Int32.ofNat B) v) (hv : 0 ≤ v ∧ v ≤ 99) (hw : 0 ≤ w ∧ w ≤ 3) (tr : Int64) (ty nx tk pl va fa dp : Int32) (tx dn la me tc ts ps : Nat → Int32) (P : Nat) (rd pr pv sa pd lo : Int32) (bo co sh se si er of_ sp ke ik bi bt so nr ou ho : Nat → Int32) (B0 B1 B2 B3 B4 B5 B6 B7 B8 B9 B10 B11 B12 : List am_E) (Bs : am_M) : am_Rn sc 155 (0, am_entry 155 [.ref 416, .int v, .int w], [], B0 :: B1 :: B2 :: B3 :: B4 :: B5 :: B6 :: B7 :: B8 :: B9 :: B10 :: B11 :: B12 :: bkModel tr ty nx tk pl va fa (Int32.ofNat P) dp (Int32.ofNat C) tx (mp_ru nu dn) (mp_ps (mp_q la me tc ts) ps) (mp_s rd pr pv sa pd lo bo co sh se si er of_) sp ke ik bi bt so nr ou ho cl :: Bs) (fun r M' => r = some (.int (an_fit (am_down 9 (sp_fitRow nu cl C v) (sp_err nu cl C (Int32.ofNat 10) (Int32.ofNat 0) v, Int32.ofNat 10, Int32.ofNat 0)) w)) ∧ M' = B0 :: B1 :: B2 :: B3 :: B4 :: B5 :: B6 :: B7 :: B8 :: B9 :: B10 :: B11 :: B12 :: bkModel tr ty nx tk pl va fa (Int32.ofNat P) dp (Int32.ofNat C) tx (mp_ru nu dn) (mp_ps (mp_q la me tc ts) ps) (mp_s rd pr pv sa pd lo bo co sh se si er of_) sp ke ik bi bt so nr ou ho cl :: Bs) := by
  show am_Rn sc 155 (0, [some (.ref 416), some (.int v), some (.int w), none, none, none, none, none, none], [], _) _
  have LB : ∀ (A : Nat), A ≤ 9 → ∀ (K : Option Value → am_M → Prop) (B : Nat), B ≤ 10 → ∀ (X : sp_F3) (x8 : Option Value), 0 ≤ X.1 → (∀ (x7 x8 : Option Value), 0 ≤ (am_down B (sp_fitOne nu cl C v A) X).1 → am_Rn sc 155 (64, [some (.ref 416), some (.int v), some (.int w), some (.int (am_down B (sp_fitOne nu cl C v A) X).2.1), some (.int (am_down B (sp_fitOne nu cl C v A) X).2.2), some (.int (am_down B (sp_fitOne nu cl C v A) X).1), some (.int (Int32.ofNat A)), x7, x8], [], B0 :: B1 :: B2 :: B3 :: B4 :: B5 :: B6 :: B7 :: B8 :: B9 :: B10 :: B11 :: B12 :: bkModel tr ty nx tk pl va fa (Int32.ofNat P) dp (Int32.ofNat C) tx (mp_ru nu dn) (mp_ps (mp_q la me tc ts) ps) (mp_s rd pr pv sa pd lo bo co sh se si er of_) sp ke ik bi bt so nr ou ho cl :: Bs) K) → am_Rn sc 155 (40, [some (.ref 416), some (.int v), some (.int w), some (.int X.2.1), some (.int X.2.2), some (.int X.1), some (.int (Int32.ofNat A)), some (.int (Int32.ofNat B)), x8], [], B0 :: B1 :: B2 :: B3 :: B4 :: B5 :: B6 :: B7 :: B8 :: B9 :: B10 :: B11 :: B12 :: bkModel tr ty nx tk pl va fa (Int32.ofNat P) dp (Int32.ofNat C) tx (mp_ru nu dn) (mp_ps (mp_q la me tc ts) ps) (mp_s rd pr pv sa pd lo bo co sh se si er of_) sp ke ik bi bt so nr ou ho cl :: Bs) K := by
    intro A hA K B
    induction B with
    | zero =>
      intro hB X x8 hX hk
      have hk := hk (some (.int (-1)))
      rw [am_down_zero] at hk
      generalize hBB : (0 : Nat) = B at hk ⊢
      rcases Classical.em (sp_err nu cl C (Int32.ofNat A) (Int32.ofNat B) v < X.1) with h3 | h3
      · skip
        have e5 : sp_fitOne nu cl C v A B X = (sp_err nu cl C (Int32.ofNat A) (Int32.ofNat B) v, Int32.ofNat A, Int32.ofNat B) := sp_fitOne_T (Or.inr h3)
        refine am_Rn.go (t := am_t155) rfl 2 rfl ⟨trivial, trivial, trivial⟩ ?_
        refine am_Rn.brF (fun q => absurd ((am_lt (i := B) (j := 0) (by omega) (by omega)).mp q) (by omega)) ?_
        refine am_Rn.go (t := am_t155) rfl 9 rfl ⟨trivial, trivial, trivial, trivial, trivial, trivial, trivial, trivial, trivial, trivial⟩ ?_
        refine am_Rn.call (t := am_t155) rfl rfl (mm_errors sc (Int32.ofNat A) (Int32.ofNat B) _ v rfl C (by omega) hC ..) ?_
        rintro _ _ ⟨rfl, rfl⟩
        refine am_Rn.go (t := am_t155) rfl 4 rfl ⟨trivial, trivial, trivial, trivial, trivial⟩ ?_
        refine am_Rn.brF (Int32.not_le.mpr h3) ?_
        refine am_Rn.go (t := am_t155) rfl 8 rfl ⟨trivial, trivial, trivial, trivial, trivial, trivial, trivial, trivial, trivial⟩ ?_
        rw [e5] at hk
        have g := hk (some (.int (sp_err nu cl C (Int32.ofNat A) (Int32.ofNat B) v))) (hE A B (by omega) (by omega))
        rw [show Int32.ofNat B + -1 = -1 by rw [← hBB]; rfl]
        refine am_Rn.go (t := am_t155) rfl 2 rfl ⟨trivial, trivial, trivial⟩ ?_
        refine am_Rn.brT (by decide) ?_
        exact g
      · skip
        have e5 : sp_fitOne nu cl C v A B X = X := sp_fitOne_F (fun q => q.elim (fun z => Int32.not_lt.mpr hX z) h3)
        refine am_Rn.go (t := am_t155) rfl 2 rfl ⟨trivial, trivial, trivial⟩ ?_
        refine am_Rn.brF (fun q => absurd ((am_lt (i := B) (j := 0) (by omega) (by omega)).mp q) (by omega)) ?_
        refine am_Rn.go (t := am_t155) rfl 9 rfl ⟨trivial, trivial, trivial, trivial, trivial, trivial, trivial, trivial, trivial, trivial⟩ ?_
        refine am_Rn.call (t := am_t155) rfl rfl (mm_errors sc (Int32.ofNat A) (Int32.ofNat B) _ v rfl C (by omega) hC ..) ?_
        rintro _ _ ⟨rfl, rfl⟩
        refine am_Rn.go (t := am_t155) rfl 4 rfl ⟨trivial, trivial, trivial, trivial, trivial⟩ ?_
        refine am_Rn.brT (Int32.not_lt.mp h3) ?_
        refine am_Rn.go (t := am_t155) rfl 2 rfl ⟨trivial, trivial, trivial⟩ ?_
        rw [e5] at hk
        have g := hk (some (.int (sp_err nu cl C (Int32.ofNat A) (Int32.ofNat B) v))) hX
        rw [show Int32.ofNat B + -1 = -1 by rw [← hBB]; rfl]
        refine am_Rn.go (t := am_t155) rfl 2 rfl ⟨trivial, trivial, trivial⟩ ?_
        refine am_Rn.brT (by decide) ?_
        exact g
    | succ B ih =>
      intro hB X x8 hX hk
      have ih := ih (by omega)
      have eD := am_decN B
      have e7 : (am_down (B + 1) (sp_fitOne nu cl C v A) X) = am_down B (sp_fitOne nu cl C v A) (sp_fitOne nu cl C v A (B + 1) X) := rfl
      rw [e7] at hk
      generalize hBB : B + 1 = B1 at *
      rcases Classical.em (sp_err nu cl C (Int32.ofNat A) (Int32.ofNat B1) v < X.1) with h3 | h3
      · skip
        have e5 : sp_fitOne nu cl C v A B1 X = (sp_err nu cl C (Int32.ofNat A) (Int32.ofNat B1) v, Int32.ofNat A, Int32.ofNat B1) := sp_fitOne_T (Or.inr h3)
        refine am_Rn.go (t := am_t155) rfl 2 rfl ⟨trivial, trivial, trivial⟩ ?_
        refine am_Rn.brF (fun q => absurd ((am_lt (i := B1) (j := 0) (by omega) (by omega)).mp q) (by omega)) ?_
        refine am_Rn.go (t := am_t155) rfl 9 rfl ⟨trivial, trivial, trivial, trivial, trivial, trivial, trivial, trivial, trivial, trivial⟩ ?_
        refine am_Rn.call (t := am_t155) rfl rfl (mm_errors sc (Int32.ofNat A) (Int32.ofNat B1) _ v rfl C (by omega) hC ..) ?_
        rintro _ _ ⟨rfl, rfl⟩
        refine am_Rn.go (t := am_t155) rfl 4 rfl ⟨trivial, trivial, trivial, trivial, trivial⟩ ?_
        refine am_Rn.brF (Int32.not_le.mpr h3) ?_
        refine am_Rn.go (t := am_t155) rfl 8 rfl ⟨trivial, trivial, trivial, trivial, trivial, trivial, trivial, trivial, trivial⟩ ?_
        rw [eD]
        rw [e5] at hk
        exact ih (sp_err nu cl C (Int32.ofNat A) (Int32.ofNat B1) v, Int32.ofNat A, Int32.ofNat B1) (some (.int (sp_err nu cl C (Int32.ofNat A) (Int32.ofNat B1) v))) (hE A B1 (by omega) (by omega)) hk
      · skip
        have e5 : sp_fitOne nu cl C v A B1 X = X := sp_fitOne_F (fun q => q.elim (fun z => Int32.not_lt.mpr hX z) h3)
        refine am_Rn.go (t := am_t155) rfl 2 rfl ⟨trivial, trivial, trivial⟩ ?_
        refine am_Rn.brF (fun q => absurd ((am_lt (i := B1) (j := 0) (by omega) (by omega)).mp q) (by omega)) ?_
        refine am_Rn.go (t := am_t155) rfl 9 rfl ⟨trivial, trivial, trivial, trivial, trivial, trivial, trivial, trivial, trivial, trivial⟩ ?_
        refine am_Rn.call (t := am_t155) rfl rfl (mm_errors sc (Int32.ofNat A) (Int32.ofNat B1) _ v rfl C (by omega) hC ..) ?_
        rintro _ _ ⟨rfl, rfl⟩
        refine am_Rn.go (t := am_t155) rfl 4 rfl ⟨trivial, trivial, trivial, trivial, trivial⟩ ?_
        refine am_Rn.brT (Int32.not_lt.mp h3) ?_
        refine am_Rn.go (t := am_t155) rfl 2 rfl ⟨trivial, trivial, trivial⟩ ?_
        rw [eD]
        rw [e5] at hk
        exact ih X (some (.int (sp_err nu cl C (Int32.ofNat A) (Int32.ofNat B1) v))) hX hk
  have L66 : ∀ (X : sp_F3) (xA : Int32) (x7 x8 : Option Value), am_Rn sc 155 (66, [some (.ref 416), some (.int v), some (.int w), some (.int X.2.1), some (.int X.2.2), some (.int X.1), some (.int xA), x7, x8], [], B0 :: B1 :: B2 :: B3 :: B4 :: B5 :: B6 :: B7 :: B8 :: B9 :: B10 :: B11 :: B12 :: bkModel tr ty nx tk pl va fa (Int32.ofNat P) dp (Int32.ofNat C) tx (mp_ru nu dn) (mp_ps (mp_q la me tc ts) ps) (mp_s rd pr pv sa pd lo bo co sh se si er of_) sp ke ik bi bt so nr ou ho cl :: Bs) (fun r M' => r = some (.int (an_fit X w)) ∧ M' = B0 :: B1 :: B2 :: B3 :: B4 :: B5 :: B6 :: B7 :: B8 :: B9 :: B10 :: B11 :: B12 :: bkModel tr ty nx tk pl va fa (Int32.ofNat P) dp (Int32.ofNat C) tx (mp_ru nu dn) (mp_ps (mp_q la me tc ts) ps) (mp_s rd pr pv sa pd lo bo co sh se si er of_) sp ke ik bi bt so nr ou ho cl :: Bs) := by
    intro X xA x7 x8
    refine am_Rn.go (t := am_t155) rfl 2 rfl ⟨trivial, trivial, trivial⟩ ?_
    refine am_Rn.br (fun h1 => ?_) (fun h1 => ?_)
    · skip
      refine am_Rn.go (t := am_t155) rfl 2 rfl ⟨trivial, trivial, trivial⟩ ?_
      refine am_Rn.ret (t := am_t155) rfl rfl trivial ?_
      refine ⟨congrArg (fun z => some (Value.int z)) ?_, rfl⟩
      unfold an_fit
      first
        | exact (if_pos (by assumption)).symm
        | (simp [*]; done)
    · skip
      refine am_Rn.go (t := am_t155) rfl 3 rfl ⟨trivial, trivial, trivial, trivial⟩ ?_
      refine am_Rn.br (fun h2 => ?_) (fun h2 => ?_)
      · skip
        refine am_Rn.go (t := am_t155) rfl 2 rfl ⟨trivial, trivial, trivial⟩ ?_
        refine am_Rn.ret (t := am_t155) rfl rfl trivial ?_
        refine ⟨congrArg (fun z => some (Value.int z)) ?_, rfl⟩
        unfold an_fit
        first
          | exact (if_pos (by assumption)).symm
          | (simp [*]; done)
      · skip
        refine am_Rn.go (t := am_t155) rfl 3 rfl ⟨trivial, trivial, trivial, trivial⟩ ?_
        refine am_Rn.br (fun h3 => ?_) (fun h3 => ?_)
        · skip
          refine am_Rn.go (t := am_t155) rfl 6 rfl ⟨trivial, trivial, trivial, trivial, trivial, trivial, trivial⟩ ?_
          refine am_Rn.ret (t := am_t155) rfl rfl trivial ?_
          refine ⟨congrArg (fun z => some (Value.int z)) ?_, rfl⟩
          unfold an_fit
          first
            | exact (if_pos (by assumption)).symm
            | (simp [*]; done)
        · skip
          refine am_Rn.go (t := am_t155) rfl 1 rfl ⟨trivial, trivial⟩ ?_
          refine am_Rn.ret (t := am_t155) rfl rfl trivial ?_
          refine ⟨congrArg (fun z => some (Value.int z)) ?_, rfl⟩
          unfold an_fit
          first
            | exact (if_pos (by assumption)).symm
            | (simp [*]; done)
  have LA : ∀ (A : Nat), A ≤ 9 → ∀ (X : sp_F3) (x7 x8 : Option Value), 0 ≤ X.1 → am_Rn sc 155 (34, [some (.ref 416), some (.int v), some (.int w), some (.int X.2.1), some (.int X.2.2), some (.int X.1), some (.int (Int32.ofNat A)), x7, x8], [], B0 :: B1 :: B2 :: B3 :: B4 :: B5 :: B6 :: B7 :: B8 :: B9 :: B10 :: B11 :: B12 :: bkModel tr ty nx tk pl va fa (Int32.ofNat P) dp (Int32.ofNat C) tx (mp_ru nu dn) (mp_ps (mp_q la me tc ts) ps) (mp_s rd pr pv sa pd lo bo co sh se si er of_) sp ke ik bi bt so nr ou ho cl :: Bs) (fun r M' => r = some (.int (an_fit (am_down A (sp_fitRow nu cl C v) X) w)) ∧ M' = B0 :: B1 :: B2 :: B3 :: B4 :: B5 :: B6 :: B7 :: B8 :: B9 :: B10 :: B11 :: B12 :: bkModel tr ty nx tk pl va fa (Int32.ofNat P) dp (Int32.ofNat C) tx (mp_ru nu dn) (mp_ps (mp_q la me tc ts) ps) (mp_s rd pr pv sa pd lo bo co sh se si er of_) sp ke ik bi bt so nr ou ho cl :: Bs) := by
    intro A
    induction A with
    | zero =>
      intro hA X x7 x8 hX
      refine am_Rn.go (t := am_t155) rfl 2 rfl ⟨trivial, trivial, trivial⟩ ?_
      refine am_Rn.brF (fun q => absurd ((am_lt (i := 0) (j := 0) (by omega) (by omega)).mp q) (by omega)) ?_
      refine am_Rn.go (t := am_t155) rfl 4 rfl ⟨trivial, trivial, trivial, trivial, trivial⟩ ?_
      rw [show (10 : Int32) - Int32.ofNat 0 = Int32.ofNat (10 - 0) from am_sub_ofN (i := 10) (by omega) (by omega)]
      refine LB 0 (by omega) _ (10 - 0) (by omega) X _ hX (fun x7 x8 hX2 => ?_)
      refine am_Rn.go (t := am_t155) rfl 2 rfl ⟨trivial, trivial, trivial⟩ ?_
      show am_Rn sc 155 (34, _, _, _) _
      refine am_Rn.go (t := am_t155) rfl 2 rfl ⟨trivial, trivial, trivial⟩ ?_
      refine am_Rn.brT (by decide) ?_
      exact L66 _ _ _ _
    | succ A ih =>
      intro hA X x7 x8 hX
      have eD := am_decN A
      refine am_Rn.go (t := am_t155) rfl 2 rfl ⟨trivial, trivial, trivial⟩ ?_
      refine am_Rn.brF (fun q => absurd ((am_lt (i := (A + 1)) (j := 0) (by omega) (by omega)).mp q) (by omega)) ?_
      refine am_Rn.go (t := am_t155) rfl 4 rfl ⟨trivial, trivial, trivial, trivial, trivial⟩ ?_
      rw [show (10 : Int32) - Int32.ofNat (A + 1) = Int32.ofNat (10 - (A + 1)) from am_sub_ofN (i := 10) (by omega) (by omega)]
      refine LB (A + 1) (by omega) _ (10 - (A + 1)) (by omega) X _ hX (fun x7 x8 hX2 => ?_)
      refine am_Rn.go (t := am_t155) rfl 2 rfl ⟨trivial, trivial, trivial⟩ ?_
      rw [eD]
      exact ih (by omega) _ x7 x8 hX2
  refine am_Rn.go (t := am_t155) rfl 6 rfl ⟨trivial, trivial, trivial, trivial, trivial, trivial, trivial⟩ ?_
  refine am_Rn.call (t := am_t155) rfl rfl (sx_in ..) ?_
  rintro _ _ ⟨rfl, rfl⟩
  refine am_Rn.go (t := am_t155) rfl 1 rfl ⟨trivial, trivial⟩ ?_
  refine am_Rn.brF (fun z => am_b0.mp z hv) ?_
  refine am_Rn.go (t := am_t155) rfl 3 rfl ⟨trivial, trivial, trivial, trivial⟩ ?_
  refine am_Rn.call (t := am_t155) rfl rfl (sx_in ..) ?_
  rintro _ _ ⟨rfl, rfl⟩
  refine am_Rn.go (t := am_t155) rfl 1 rfl ⟨trivial, trivial⟩ ?_
  refine am_Rn.brF (fun z => am_b0.mp z hw) ?_
  refine am_Rn.go (t := am_t155) rfl 4 rfl ⟨trivial, trivial, trivial, trivial, trivial⟩ ?_
  refine am_Rn.brT ((am_le (i := 3) (by omega) (by omega)).mpr (by omega)) ?_
  refine am_Rn.go (t := am_t155) rfl 9 rfl ⟨trivial, trivial, trivial, trivial, trivial, trivial, trivial, trivial, trivial, trivial⟩ ?_
  refine am_Rn.call (t := am_t155) rfl rfl (mm_errors sc (Int32.ofNat 10) (Int32.ofNat 0) 0 v rfl C (by omega) hC ..) ?_
  rintro _ _ ⟨rfl, rfl⟩
  refine am_Rn.go (t := am_t155) rfl 3 rfl ⟨trivial, trivial, trivial, trivial⟩ ?_
  have g := LA 9 (by omega) (sp_err nu cl C (Int32.ofNat 10) (Int32.ofNat 0) v, Int32.ofNat 10, Int32.ofNat 0) none none (hE 10 0 (by omega) (by omega))
  exact g
theorem mm_fit_S (sc : am_Sc) (v w : Int32) (C : Nat) (hC3 : C < 3) (hv : 0 ≤ v ∧ v ≤ 99) (hw : 0 ≤ w ∧ w ≤ 3) (tr : Int64) (ty nx tk pl va fa dp : Int32) (tx nu dn la me tc ts ps : Nat → Int32) (P : Nat) (rd pr pv sa pd lo : Int32) (bo co sh se si er of_ sp ke ik bi bt so nr ou ho cl : Nat → Int32) (B0 B1 B2 B3 B4 B5 B6 B7 B8 B9 B10 B11 B12 : List am_E) (Bs : am_M) : am_Rn sc 155 (0, am_entry 155 [.ref 416, .int v, .int w], [], B0 :: B1 :: B2 :: B3 :: B4 :: B5 :: B6 :: B7 :: B8 :: B9 :: B10 :: B11 :: B12 :: bkModel tr ty nx tk pl va fa (Int32.ofNat P) dp (Int32.ofNat C) tx (mp_ru nu dn) (mp_ps (mp_q la me tc ts) ps) (mp_s rd pr pv sa pd lo bo co sh se si er of_) sp ke ik bi bt so nr ou ho cl :: Bs) (fun r M' => r = some (.int (-2)) ∧ M' = B0 :: B1 :: B2 :: B3 :: B4 :: B5 :: B6 :: B7 :: B8 :: B9 :: B10 :: B11 :: B12 :: bkModel tr ty nx tk pl va fa (Int32.ofNat P) dp (Int32.ofNat C) tx (mp_ru nu dn) (mp_ps (mp_q la me tc ts) ps) (mp_s rd pr pv sa pd lo bo co sh se si er of_) sp ke ik bi bt so nr ou ho cl :: Bs) := by
  show am_Rn sc 155 (0, [some (.ref 416), some (.int v), some (.int w), none, none, none, none, none, none], [], _) _
  refine am_Rn.go (t := am_t155) rfl 6 rfl ⟨trivial, trivial, trivial, trivial, trivial, trivial, trivial⟩ ?_
  refine am_Rn.call (t := am_t155) rfl rfl (sx_in ..) ?_
  rintro _ _ ⟨rfl, rfl⟩
  refine am_Rn.go (t := am_t155) rfl 1 rfl ⟨trivial, trivial⟩ ?_
  refine am_Rn.brF (fun z => am_b0.mp z hv) ?_
  refine am_Rn.go (t := am_t155) rfl 3 rfl ⟨trivial, trivial, trivial, trivial⟩ ?_
  refine am_Rn.call (t := am_t155) rfl rfl (sx_in ..) ?_
  rintro _ _ ⟨rfl, rfl⟩
  refine am_Rn.go (t := am_t155) rfl 1 rfl ⟨trivial, trivial⟩ ?_
  refine am_Rn.brF (fun z => am_b0.mp z hw) ?_
  refine am_Rn.go (t := am_t155) rfl 4 rfl ⟨trivial, trivial, trivial, trivial, trivial⟩ ?_
  refine am_Rn.brF (fun q => absurd ((am_le (i := 3) (by omega) (by omega)).mp q) (by omega)) ?_
  refine am_Rn.go (t := am_t155) rfl 1 rfl ⟨trivial, trivial⟩ ?_
  refine am_Rn.ret (t := am_t155) rfl rfl trivial ?_
  exact ⟨rfl, rfl⟩
theorem mm_fit_F (sc : am_Sc) (v w : Int32) (hw : ¬ ((0 ≤ v ∧ v ≤ 99) ∧ (0 ≤ w ∧ w ≤ 3))) (tr : Int64) (ty nx tk pl va fa dp cm : Int32) (tx nu dn la me tc ts ps : Nat → Int32) (P : Nat) (rd pr pv sa pd lo : Int32) (bo co sh se si er of_ sp ke ik bi bt so nr ou ho cl : Nat → Int32) (B0 B1 B2 B3 B4 B5 B6 B7 B8 B9 B10 B11 B12 : List am_E) (Bs : am_M) : am_Rn sc 155 (0, am_entry 155 [.ref 416, .int v, .int w], [], B0 :: B1 :: B2 :: B3 :: B4 :: B5 :: B6 :: B7 :: B8 :: B9 :: B10 :: B11 :: B12 :: bkModel tr ty nx tk pl va fa (Int32.ofNat P) dp cm tx (mp_ru nu dn) (mp_ps (mp_q la me tc ts) ps) (mp_s rd pr pv sa pd lo bo co sh se si er of_) sp ke ik bi bt so nr ou ho cl :: Bs) (fun r M' => r = some (.int (-1)) ∧ M' = B0 :: B1 :: B2 :: B3 :: B4 :: B5 :: B6 :: B7 :: B8 :: B9 :: B10 :: B11 :: B12 :: bkModel tr ty nx tk pl va fa (Int32.ofNat P) dp cm tx (mp_ru nu dn) (mp_ps (mp_q la me tc ts) ps) (mp_s rd pr pv sa pd lo bo co sh se si er of_) sp ke ik bi bt so nr ou ho cl :: Bs) := by
  show am_Rn sc 155 (0, [some (.ref 416), some (.int v), some (.int w), none, none, none, none, none, none], [], _) _
  refine am_Rn.go (t := am_t155) rfl 6 rfl ⟨trivial, trivial, trivial, trivial, trivial, trivial, trivial⟩ ?_
  refine am_Rn.call (t := am_t155) rfl rfl (sx_in ..) ?_
  rintro _ _ ⟨rfl, rfl⟩
  refine am_Rn.go (t := am_t155) rfl 1 rfl ⟨trivial, trivial⟩ ?_
  refine am_Rn.brB (fun h1 => ?_) (fun h1 => ?_)
  · skip
    refine am_Rn.go (t := am_t155) rfl 1 rfl ⟨trivial, trivial⟩ ?_
    refine am_Rn.ret (t := am_t155) rfl rfl trivial ?_
    exact ⟨rfl, rfl⟩
  · skip
    refine am_Rn.go (t := am_t155) rfl 3 rfl ⟨trivial, trivial, trivial, trivial⟩ ?_
    refine am_Rn.call (t := am_t155) rfl rfl (sx_in ..) ?_
    rintro _ _ ⟨rfl, rfl⟩
    refine am_Rn.go (t := am_t155) rfl 1 rfl ⟨trivial, trivial⟩ ?_
    refine am_Rn.brB (fun h2 => ?_) (fun h2 => ?_)
    · skip
      refine am_Rn.go (t := am_t155) rfl 1 rfl ⟨trivial, trivial⟩ ?_
      refine am_Rn.ret (t := am_t155) rfl rfl trivial ?_
      exact ⟨rfl, rfl⟩
    · skip
      exact absurd ⟨(by assumption), (by assumption)⟩ hw
