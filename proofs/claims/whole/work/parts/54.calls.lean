theorem am_succ64 {i : Nat} (h : i < 2147483647) : ¬ (Int32.ofNat i + 1).toInt64 = 0 := fun z => am_succ_ne h (Int32.toInt_inj.mp (by
  have e := congrArg Int64.toInt z
  rw [Int32.toInt_toInt64] at e
  exact e))
def sp_wayOne (D i : Nat) (w : Int64) : Int64 := w * (Int32.ofNat D - Int32.ofNat i).toInt64 / (Int32.ofNat i + 1).toInt64
def sp_ways (D i : Nat) : Int64 := am_fold i (sp_wayOne D) 1
def sp_wchkOne (D i : Nat) (X : Int64 × Int32 × Bool) : Int64 × Int32 × Bool := (sp_wayOne D i X.1, X.2.1 * (Int32.ofNat D - Int32.ofNat i) / (Int32.ofNat i + 1), X.2.2 && decide (X.1.toInt32 = X.2.1))
theorem sp_wchk_all : ∀ D : Nat, D < 21 → (am_fold 22 (sp_wchkOne D) (1, 1, true)).2.2 = true := by decide +kernel
theorem sp_wchk_fst (nu : Nat → Int32) (k : Int32) (D : Nat) : ∀ n : Nat, (am_fold n (sp_wchkOne D) (1, 1, true)).1 = sp_ways D n ∧ (am_fold n (sp_wchkOne D) (1, 1, true)).2.1 = (am_fold n (sp_oddOne nu D k) (0, 1)).2 := by
  intro n
  induction n with
  | zero => exact ⟨rfl, rfl⟩
  | succ n ih =>
    unfold sp_ways at ih ⊢
    rw [am_fold_succ, am_fold_succ, am_fold_succ]
    refine ⟨congrArg (sp_wayOne D n) ih.1, ?_⟩
    show _ * _ / _ = _
    rw [ih.2]
    rfl
theorem sp_wchk_ok (D : Nat) : ∀ d n : Nat, (am_fold (n + d) (sp_wchkOne D) (1, 1, true)).2.2 = true → (am_fold n (sp_wchkOne D) (1, 1, true)).2.2 = true := by
  intro d
  induction d with
  | zero => intro n h; exact h
  | succ d ih =>
    intro n h
    refine ih n ?_
    have h' : ((am_fold (n + d) (sp_wchkOne D) (1, 1, true)).2.2 && decide ((am_fold (n + d) (sp_wchkOne D) (1, 1, true)).1.toInt32 = (am_fold (n + d) (sp_wchkOne D) (1, 1, true)).2.1)) = true := h
    exact (Bool.and_eq_true_iff.mp h').1
theorem sp_ways32 (nu : Nat → Int32) (k : Int32) {D i : Nat} (hD : D ≤ 20) (hi : i ≤ 21) : (sp_ways D i).toInt32 = (am_fold i (sp_oddOne nu D k) (0, 1)).2 := by
  rw [← (sp_wchk_fst nu k D i).1, ← (sp_wchk_fst nu k D i).2]
  have h := sp_wchk_ok D (21 - i) (i + 1) (by rw [show i + 1 + (21 - i) = 22 by omega]; exact sp_wchk_all D (by omega))
  have h' : ((am_fold i (sp_wchkOne D) (1, 1, true)).2.2 && decide ((am_fold i (sp_wchkOne D) (1, 1, true)).1.toInt32 = (am_fold i (sp_wchkOne D) (1, 1, true)).2.1)) = true := h
  exact of_decide_eq_true (Bool.and_eq_true_iff.mp h').2
def sp_typeM (v : Int64) (i : Nat) (X : (Nat → Int32) × Nat) : (Nat → Int32) × Nat := (upd X.1 X.2 ((v >>> ((8 * Int32.ofNat i).toInt64 &&& 63)) &&& 255).toInt32, X.2 + 1)
def sp_ink (m : Nat) (f ke : Nat → Int32) : Nat → Int32 := fun j => if 80 * m ≤ j ∧ j < 80 * m + 80 then f (j - 80 * m) else ke j
theorem am_80 (m i : Nat) : 80 * Int32.ofNat m + Int32.ofNat i = Int32.ofNat (80 * m + i) := by
  show Int32.ofNat 80 * Int32.ofNat m + Int32.ofNat i = _
  rw [am_mulN, am_addN]
theorem sp_inkfold (m : Nat) (f ke : Nat → Int32) : am_fold 80 (fun k h => upd h (80 * m + k) (f k)) ke = sp_ink m f ke := by
  have h : ∀ n : Nat, am_fold n (fun k h => upd h (80 * m + k) (f k)) ke = fun j => if 80 * m ≤ j ∧ j < 80 * m + n then f (j - 80 * m) else ke j := by
    intro n
    induction n with
    | zero => funext j; exact (if_neg (by omega)).symm
    | succ n ih =>
      rw [am_fold_succ, ih]
      funext j
      unfold upd
      by_cases h : j = 80 * m + n
      · rw [if_pos h, if_pos (by omega), show j - 80 * m = n by omega]
      · rw [if_neg h]
        show (if 80 * m ≤ j ∧ j < 80 * m + n then _ else _) = _
        by_cases h2 : 80 * m ≤ j ∧ j < 80 * m + n
        · rw [if_pos h2, if_pos (by omega)]
        · rw [if_neg h2, if_neg (by omega)]
  exact h 80
theorem mm_odds_T (sc : am_Sc) (r0 k0 : Int32) (D : Nat) (hD : D ≤ 20) (nu : Nat → Int32) (hDD : nu 0 - r0 = Int32.ofNat D) (h1 : 0 ≤ r0 ∧ r0 ≤ nu 0) (h2 : 0 ≤ k0 ∧ k0 ≤ 279) (tr : Int64) (ty nx tk pl va fa dp cm : Int32) (tx dn la me tc ts ps : Nat → Int32) (P : Nat) (rd pr pv sa pd lo : Int32) (bo co sh se si er of_ sp ke ik bi bt so nr ou ho cl : Nat → Int32) (B0 B1 B2 B3 B4 B5 B6 B7 B8 B9 B10 B11 B12 : List am_E) (Bs : am_M) : am_Rn sc 124 (0, am_entry 124 [.ref 416, .int r0, .int k0], [], B0 :: B1 :: B2 :: B3 :: B4 :: B5 :: B6 :: B7 :: B8 :: B9 :: B10 :: B11 :: B12 :: bkModel tr ty nx tk pl va fa (Int32.ofNat P) dp cm tx (mp_ru nu dn) (mp_ps (mp_q la me tc ts) ps) (mp_s rd pr pv sa pd lo bo co sh se si er of_) sp ke ik bi bt so nr ou ho cl :: Bs) (fun r M' => r = some (.int (am_fold (D + 1) (sp_oddOne nu D k0) (0, 1)).1) ∧ M' = B0 :: B1 :: B2 :: B3 :: B4 :: B5 :: B6 :: B7 :: B8 :: B9 :: B10 :: B11 :: B12 :: bkModel tr ty nx tk pl va fa (Int32.ofNat P) dp cm tx (mp_ru nu dn) (mp_ps (mp_q la me tc ts) ps) (mp_s rd pr pv sa pd lo bo co sh se si er of_) sp ke ik bi bt so nr ou ho cl :: Bs) := by
  show am_Rn sc 124 (0, [some (.ref 416), some (.int r0), some (.int k0), none, none, none, none, none], [], _) _
  have e1 : nu 0 - r0 = Int32.ofNat D := hDD
  have L : ∀ (d i : Nat), i + d = (D + 1) → am_Rn sc 124 (31, [some (.ref 416), some (.int r0), some (.int k0), some (.int (Int32.ofNat D)), some (.int (am_fold i (sp_oddOne nu D k0) (0, 1)).1), some (.long (sp_ways D i)), none, some (.int (Int32.ofNat i))], [], B0 :: B1 :: B2 :: B3 :: B4 :: B5 :: B6 :: B7 :: B8 :: B9 :: B10 :: B11 :: B12 :: bkModel tr ty nx tk pl va fa (Int32.ofNat P) dp cm tx (mp_ru nu dn) (mp_ps (mp_q la me tc ts) ps) (mp_s rd pr pv sa pd lo bo co sh se si er of_) sp ke ik bi bt so nr ou ho cl :: Bs) (fun r M' => r = some (.int (am_fold (D + 1) (sp_oddOne nu D k0) (0, 1)).1) ∧ M' = B0 :: B1 :: B2 :: B3 :: B4 :: B5 :: B6 :: B7 :: B8 :: B9 :: B10 :: B11 :: B12 :: bkModel tr ty nx tk pl va fa (Int32.ofNat P) dp cm tx (mp_ru nu dn) (mp_ps (mp_q la me tc ts) ps) (mp_s rd pr pv sa pd lo bo co sh se si er of_) sp ke ik bi bt so nr ou ho cl :: Bs) := by
    intro d
    induction d with
    | zero =>
      intro i  hi
      have hiP : i = (D + 1) := by omega
      subst i
      refine am_Rn.go (t := am_t124) rfl 3 rfl ⟨trivial, trivial, trivial, trivial⟩ ?_
      refine am_Rn.brT ((am_lt (by omega) (by omega)).mpr (by omega)) ?_
      refine am_Rn.go (t := am_t124) rfl 1 rfl ⟨trivial, trivial⟩ ?_
      refine am_Rn.ret (t := am_t124) rfl rfl trivial ?_
      exact ⟨rfl, rfl⟩
    | succ d ih =>
      intro i  hi
      have hiP : i < (D + 1) := by omega
      have e1 : (Int32.ofNat i).toNatClampNeg = i := am_tn i (by omega)
      have g := ih (i + 1) (by omega)
      have hw := sp_ways32 nu k0 (D := D) (i := i) hD (by omega)
      rw [show sp_ways D (i + 1) = sp_wayOne D i (sp_ways D i) from rfl, am_fold_succ i (sp_oddOne nu D k0), ← am_inc] at g
      generalize hX : (am_fold i (sp_oddOne nu D k0) (0, 1)) = X at g hw ⊢
      rcases Classical.em (sp_oddPay nu D i = k0) with h3 | h3
      · skip
        rw [sp_oddOne_T h3, ← hw] at g
        refine am_Rn.go (t := am_t124) rfl 3 rfl ⟨trivial, trivial, trivial, trivial⟩ ?_
        refine am_Rn.brF (fun q => absurd ((am_lt (by omega) (by omega)).mp q) (by omega)) ?_
        refine am_Rn.go (t := am_t124) rfl 23 rfl ⟨trivial, trivial, trivial, trivial, trivial, trivial, trivial, (by first | exact am_inb_lit rfl | exact am_inb_of (by omega) (by omega)), trivial, trivial, trivial, trivial, trivial, (by first | exact am_inb_lit rfl | exact am_inb_of (by omega) (by omega)), trivial, trivial, trivial, trivial, trivial, (by first | exact am_inb_lit rfl | exact am_inb_of (by omega) (by omega)), trivial, trivial, trivial, trivial⟩ ?_
        refine am_Rn.brT h3 ?_
        refine am_Rn.go (t := am_t124) rfl 19 rfl ⟨trivial, trivial, trivial, trivial, trivial, trivial, trivial, trivial, trivial, trivial, trivial, trivial, trivial, trivial, trivial, (by exact am_succ64 (by omega)), trivial, trivial, trivial, trivial⟩ ?_
        exact g
      · skip
        rw [sp_oddOne_F h3] at g
        refine am_Rn.go (t := am_t124) rfl 3 rfl ⟨trivial, trivial, trivial, trivial⟩ ?_
        refine am_Rn.brF (fun q => absurd ((am_lt (by omega) (by omega)).mp q) (by omega)) ?_
        refine am_Rn.go (t := am_t124) rfl 23 rfl ⟨trivial, trivial, trivial, trivial, trivial, trivial, trivial, (by first | exact am_inb_lit rfl | exact am_inb_of (by omega) (by omega)), trivial, trivial, trivial, trivial, trivial, (by first | exact am_inb_lit rfl | exact am_inb_of (by omega) (by omega)), trivial, trivial, trivial, trivial, trivial, (by first | exact am_inb_lit rfl | exact am_inb_of (by omega) (by omega)), trivial, trivial, trivial, trivial⟩ ?_
        refine am_Rn.brF h3 ?_
        refine am_Rn.go (t := am_t124) rfl 17 rfl ⟨trivial, trivial, trivial, trivial, trivial, trivial, trivial, trivial, trivial, trivial, trivial, trivial, trivial, (by exact am_succ64 (by omega)), trivial, trivial, trivial, trivial⟩ ?_
        rw [Int32.add_zero]
        exact g
  refine am_Rn.go (t := am_t124) rfl 9 rfl ⟨trivial, trivial, trivial, trivial, trivial, trivial, trivial, trivial, (by first | exact am_inb_lit rfl | exact am_inb_of (by omega) (by omega)), trivial⟩ ?_
  refine am_Rn.call (t := am_t124) rfl rfl (sx_in ..) ?_
  rintro _ _ ⟨rfl, rfl⟩
  refine am_Rn.go (t := am_t124) rfl 1 rfl ⟨trivial, trivial⟩ ?_
  refine am_Rn.brF (fun z => am_b0.mp z h1) ?_
  refine am_Rn.go (t := am_t124) rfl 3 rfl ⟨trivial, trivial, trivial, trivial⟩ ?_
  refine am_Rn.call (t := am_t124) rfl rfl (sx_in ..) ?_
  rintro _ _ ⟨rfl, rfl⟩
  refine am_Rn.go (t := am_t124) rfl 1 rfl ⟨trivial, trivial⟩ ?_
  refine am_Rn.brF (fun z => am_b0.mp z h2) ?_
  refine am_Rn.go (t := am_t124) rfl 13 rfl ⟨trivial, trivial, trivial, (by first | exact am_inb_lit rfl | exact am_inb_of (by omega) (by omega)), trivial, trivial, trivial, trivial, trivial, trivial, trivial, trivial, trivial, trivial⟩ ?_
  rw [show mp_ru nu dn (Int32.toNatClampNeg 0) - r0 = Int32.ofNat D from hDD]
  exact L (D + 1) 0 (by omega)
theorem mm_odds_F (sc : am_Sc) (r0 k0 : Int32) (nu : Nat → Int32) (hw : ¬ ((0 ≤ r0 ∧ r0 ≤ nu 0) ∧ (0 ≤ k0 ∧ k0 ≤ 279))) (tr : Int64) (ty nx tk pl va fa dp cm : Int32) (tx dn la me tc ts ps : Nat → Int32) (P : Nat) (rd pr pv sa pd lo : Int32) (bo co sh se si er of_ sp ke ik bi bt so nr ou ho cl : Nat → Int32) (B0 B1 B2 B3 B4 B5 B6 B7 B8 B9 B10 B11 B12 : List am_E) (Bs : am_M) : am_Rn sc 124 (0, am_entry 124 [.ref 416, .int r0, .int k0], [], B0 :: B1 :: B2 :: B3 :: B4 :: B5 :: B6 :: B7 :: B8 :: B9 :: B10 :: B11 :: B12 :: bkModel tr ty nx tk pl va fa (Int32.ofNat P) dp cm tx (mp_ru nu dn) (mp_ps (mp_q la me tc ts) ps) (mp_s rd pr pv sa pd lo bo co sh se si er of_) sp ke ik bi bt so nr ou ho cl :: Bs) (fun r M' => r = some (.int (-1)) ∧ M' = B0 :: B1 :: B2 :: B3 :: B4 :: B5 :: B6 :: B7 :: B8 :: B9 :: B10 :: B11 :: B12 :: bkModel tr ty nx tk pl va fa (Int32.ofNat P) dp cm tx (mp_ru nu dn) (mp_ps (mp_q la me tc ts) ps) (mp_s rd pr pv sa pd lo bo co sh se si er of_) sp ke ik bi bt so nr ou ho cl :: Bs) := by
  show am_Rn sc 124 (0, [some (.ref 416), some (.int r0), some (.int k0), none, none, none, none, none], [], _) _
  refine am_Rn.go (t := am_t124) rfl 9 rfl ⟨trivial, trivial, trivial, trivial, trivial, trivial, trivial, trivial, (by first | exact am_inb_lit rfl | exact am_inb_of (by omega) (by omega)), trivial⟩ ?_
  refine am_Rn.call (t := am_t124) rfl rfl (sx_in ..) ?_
  rintro _ _ ⟨rfl, rfl⟩
  refine am_Rn.go (t := am_t124) rfl 1 rfl ⟨trivial, trivial⟩ ?_
  refine am_Rn.brB (fun h1 => ?_) (fun h1 => ?_)
  · skip
    refine am_Rn.go (t := am_t124) rfl 1 rfl ⟨trivial, trivial⟩ ?_
    refine am_Rn.ret (t := am_t124) rfl rfl trivial ?_
    exact ⟨rfl, rfl⟩
  · skip
    refine am_Rn.go (t := am_t124) rfl 3 rfl ⟨trivial, trivial, trivial, trivial⟩ ?_
    refine am_Rn.call (t := am_t124) rfl rfl (sx_in ..) ?_
    rintro _ _ ⟨rfl, rfl⟩
    refine am_Rn.go (t := am_t124) rfl 1 rfl ⟨trivial, trivial⟩ ?_
    refine am_Rn.brB (fun h2 => ?_) (fun h2 => ?_)
    · skip
      refine am_Rn.go (t := am_t124) rfl 1 rfl ⟨trivial, trivial⟩ ?_
      refine am_Rn.ret (t := am_t124) rfl rfl trivial ?_
      exact ⟨rfl, rfl⟩
    · skip
      exact absurd ⟨(by assumption), (by assumption)⟩ hw
theorem mm_type_T (sc : am_Sc) (v : Int64) (k0 : Nat) (h1 : 1 ≤ k0) (h8 : k0 ≤ 8) (n : Nat) (hn : n ≤ 400) (hk : n + k0 ≤ 400) (tr : Int64) (nx tk pl va fa dp cm : Int32) (tx nu dn la me tc ts ps : Nat → Int32) (P : Nat) (rd pr pv sa pd lo : Int32) (bo co sh se si er of_ sp ke ik bi bt so nr ou ho cl : Nat → Int32) (B0 B1 B2 B3 B4 B5 B6 B7 B8 B9 B10 B11 B12 : List am_E) (Bs : am_M) : am_Rn sc 96 (0, am_entry 96 [.ref 416, .long v, .int (Int32.ofNat k0)], [], B0 :: B1 :: B2 :: B3 :: B4 :: B5 :: B6 :: B7 :: B8 :: B9 :: B10 :: B11 :: B12 :: bkModel tr (Int32.ofNat n) nx tk pl va fa (Int32.ofNat P) dp cm tx (mp_ru nu dn) (mp_ps (mp_q la me tc ts) ps) (mp_s rd pr pv sa pd lo bo co sh se si er of_) sp ke ik bi bt so nr ou ho cl :: Bs) (fun r M' => r = some (.int (Int32.ofNat (am_down (k0 - 1) (sp_typeM v) (tx, n)).2)) ∧ M' = B0 :: B1 :: B2 :: B3 :: B4 :: B5 :: B6 :: B7 :: B8 :: B9 :: B10 :: B11 :: B12 :: bkModel tr (Int32.ofNat ((am_down (k0 - 1) (sp_typeM v) (tx, n))).2) nx tk pl va fa (Int32.ofNat P) dp cm ((am_down (k0 - 1) (sp_typeM v) (tx, n))).1 (mp_ru nu dn) (mp_ps (mp_q la me tc ts) ps) (mp_s rd pr pv sa pd lo bo co sh se si er of_) sp ke ik bi bt so nr ou ho cl :: Bs) := by
  show am_Rn sc 96 (0, [some (.ref 416), some (.long v), none, some (.int (Int32.ofNat k0)), none], [], _) _
  have L : ∀ (i : Nat) (X : (Nat → Int32) × Nat), i < 8 → X.2 + i + 1 ≤ 400 → am_Rn sc 96 (22, [some (.ref 416), some (.long v), none, some (.int (Int32.ofNat k0)), some (.int (Int32.ofNat i))], [], B0 :: B1 :: B2 :: B3 :: B4 :: B5 :: B6 :: B7 :: B8 :: B9 :: B10 :: B11 :: B12 :: bkModel tr (Int32.ofNat (X).2) nx tk pl va fa (Int32.ofNat P) dp cm (X).1 (mp_ru nu dn) (mp_ps (mp_q la me tc ts) ps) (mp_s rd pr pv sa pd lo bo co sh se si er of_) sp ke ik bi bt so nr ou ho cl :: Bs) (fun r M' => r = some (.int (Int32.ofNat (am_down i (sp_typeM v) X).2)) ∧ M' = B0 :: B1 :: B2 :: B3 :: B4 :: B5 :: B6 :: B7 :: B8 :: B9 :: B10 :: B11 :: B12 :: bkModel tr (Int32.ofNat ((am_down i (sp_typeM v) X)).2) nx tk pl va fa (Int32.ofNat P) dp cm ((am_down i (sp_typeM v) X)).1 (mp_ru nu dn) (mp_ps (mp_q la me tc ts) ps) (mp_s rd pr pv sa pd lo bo co sh se si er of_) sp ke ik bi bt so nr ou ho cl :: Bs) := by
    intro i
    induction i with
    | zero =>
      intro X h8 hX
      have e1 : (Int32.ofNat X.2).toNatClampNeg = X.2 := am_tn X.2 (by omega)
      refine am_Rn.go (t := am_t96) rfl 2 rfl ⟨trivial, trivial, trivial⟩ ?_
      refine am_Rn.brF (fun q => absurd ((am_lt (i := 0) (j := 0) (by omega) (by omega)).mp q) (by omega)) ?_
      refine am_Rn.go (t := am_t96) rfl 19 rfl ⟨trivial, trivial, trivial, trivial, trivial, trivial, trivial, trivial, trivial, trivial, trivial, trivial, (by exact am_inb_of (by omega) (by omega)), trivial, trivial, trivial, trivial, trivial, trivial, trivial⟩ ?_
      show am_Rn sc 96 (43, _, _, B0 :: B1 :: B2 :: B3 :: B4 :: B5 :: B6 :: B7 :: B8 :: B9 :: B10 :: B11 :: B12 :: bkModel tr (Int32.ofNat X.2 + 1) nx tk pl va fa (Int32.ofNat P) dp cm (upd X.1 (Int32.ofNat X.2).toNatClampNeg (((v >>> ((8 * Int32.ofNat 0).toInt64 &&& 63)) &&& 255).toInt32)) (mp_ru nu dn) (mp_ps (mp_q la me tc ts) ps) (mp_s rd pr pv sa pd lo bo co sh se si er of_) sp ke ik bi bt so nr ou ho cl :: Bs) _
      rw [e1, am_inc]
      refine am_Rn.go (t := am_t96) rfl 2 rfl ⟨trivial, trivial, trivial⟩ ?_
      show am_Rn sc 96 (22, _, _, _) _
      refine am_Rn.go (t := am_t96) rfl 2 rfl ⟨trivial, trivial, trivial⟩ ?_
      refine am_Rn.brT (by decide) ?_
      refine am_Rn.go (t := am_t96) rfl 2 rfl ⟨trivial, trivial, trivial⟩ ?_
      refine am_Rn.ret (t := am_t96) rfl rfl trivial ?_
      exact ⟨rfl, rfl⟩
    | succ i ih =>
      intro X h8 hX
      have e1 : (Int32.ofNat X.2).toNatClampNeg = X.2 := am_tn X.2 (by omega)
      have e6 := am_decN i
      have g := ih (sp_typeM v (i + 1) X) (by omega) (by show X.2 + 1 + i + 1 ≤ 400; omega)
      refine am_Rn.go (t := am_t96) rfl 2 rfl ⟨trivial, trivial, trivial⟩ ?_
      refine am_Rn.brF (fun q => absurd ((am_lt (i := i + 1) (j := 0) (by omega) (by omega)).mp q) (by omega)) ?_
      refine am_Rn.go (t := am_t96) rfl 19 rfl ⟨trivial, trivial, trivial, trivial, trivial, trivial, trivial, trivial, trivial, trivial, trivial, trivial, (by exact am_inb_of (by omega) (by omega)), trivial, trivial, trivial, trivial, trivial, trivial, trivial⟩ ?_
      show am_Rn sc 96 (43, _, _, B0 :: B1 :: B2 :: B3 :: B4 :: B5 :: B6 :: B7 :: B8 :: B9 :: B10 :: B11 :: B12 :: bkModel tr (Int32.ofNat X.2 + 1) nx tk pl va fa (Int32.ofNat P) dp cm (upd X.1 (Int32.ofNat X.2).toNatClampNeg (((v >>> ((8 * Int32.ofNat (i + 1)).toInt64 &&& 63)) &&& 255).toInt32)) (mp_ru nu dn) (mp_ps (mp_q la me tc ts) ps) (mp_s rd pr pv sa pd lo bo co sh se si er of_) sp ke ik bi bt so nr ou ho cl :: Bs) _
      rw [e1, am_inc]
      refine am_Rn.go (t := am_t96) rfl 2 rfl ⟨trivial, trivial, trivial⟩ ?_
      rw [e6]
      exact g
  refine am_Rn.go (t := am_t96) rfl 6 rfl ⟨trivial, trivial, trivial, trivial, trivial, trivial, trivial⟩ ?_
  refine am_Rn.call (t := am_t96) rfl rfl (sx_in ..) ?_
  rintro _ _ ⟨rfl, rfl⟩
  refine am_Rn.go (t := am_t96) rfl 1 rfl ⟨trivial, trivial⟩ ?_
  refine am_Rn.brF (fun z => am_b0.mp z ⟨(am_le (i := 1) (by omega) (by omega)).mpr (by omega), (am_le (j := 8) (by omega) (by omega)).mpr (by omega)⟩) ?_
  refine am_Rn.go (t := am_t96) rfl 6 rfl ⟨trivial, trivial, trivial, trivial, trivial, trivial, trivial⟩ ?_
  refine am_Rn.brT (by rw [am_addN]; exact (am_le (j := 400) (by omega) (by omega)).mpr (by omega)) ?_
  refine am_Rn.go (t := am_t96) rfl 4 rfl ⟨trivial, trivial, trivial, trivial, trivial⟩ ?_
  rw [show Int32.ofNat k0 - 1 = Int32.ofNat (k0 - 1) from am_sub_ofN (j := 1) (by omega) (by omega)]
  exact L (k0 - 1) (tx, n) (by omega) (by show n + (k0 - 1) + 1 ≤ 400; omega)
theorem mm_type_U (sc : am_Sc) (v : Int64) (k0 : Nat) (h1 : 1 ≤ k0) (h8 : k0 ≤ 8) (n : Nat) (hn : n ≤ 400) (hk : 400 < n + k0) (tr : Int64) (nx tk pl va fa dp cm : Int32) (tx nu dn la me tc ts ps : Nat → Int32) (P : Nat) (rd pr pv sa pd lo : Int32) (bo co sh se si er of_ sp ke ik bi bt so nr ou ho cl : Nat → Int32) (B0 B1 B2 B3 B4 B5 B6 B7 B8 B9 B10 B11 B12 : List am_E) (Bs : am_M) : am_Rn sc 96 (0, am_entry 96 [.ref 416, .long v, .int (Int32.ofNat k0)], [], B0 :: B1 :: B2 :: B3 :: B4 :: B5 :: B6 :: B7 :: B8 :: B9 :: B10 :: B11 :: B12 :: bkModel tr (Int32.ofNat n) nx tk pl va fa (Int32.ofNat P) dp cm tx (mp_ru nu dn) (mp_ps (mp_q la me tc ts) ps) (mp_s rd pr pv sa pd lo bo co sh se si er of_) sp ke ik bi bt so nr ou ho cl :: Bs) (fun r M' => r = some (.int (-3)) ∧ M' = B0 :: B1 :: B2 :: B3 :: B4 :: B5 :: B6 :: B7 :: B8 :: B9 :: B10 :: B11 :: B12 :: bkModel tr (Int32.ofNat n) nx tk pl va fa (Int32.ofNat P) dp cm tx (mp_ru nu dn) (mp_ps (mp_q la me tc ts) ps) (mp_s rd pr pv sa pd lo bo co sh se si er of_) sp ke ik bi bt so nr ou ho cl :: Bs) := by
  show am_Rn sc 96 (0, [some (.ref 416), some (.long v), none, some (.int (Int32.ofNat k0)), none], [], _) _
  refine am_Rn.go (t := am_t96) rfl 6 rfl ⟨trivial, trivial, trivial, trivial, trivial, trivial, trivial⟩ ?_
  refine am_Rn.call (t := am_t96) rfl rfl (sx_in ..) ?_
  rintro _ _ ⟨rfl, rfl⟩
  refine am_Rn.go (t := am_t96) rfl 1 rfl ⟨trivial, trivial⟩ ?_
  refine am_Rn.brF (fun z => am_b0.mp z ⟨(am_le (i := 1) (by omega) (by omega)).mpr (by omega), (am_le (j := 8) (by omega) (by omega)).mpr (by omega)⟩) ?_
  refine am_Rn.go (t := am_t96) rfl 6 rfl ⟨trivial, trivial, trivial, trivial, trivial, trivial, trivial⟩ ?_
  refine am_Rn.brF (by rw [am_addN]; exact fun q => absurd ((am_le (j := 400) (by omega) (by omega)).mp q) (by omega)) ?_
  refine am_Rn.go (t := am_t96) rfl 1 rfl ⟨trivial, trivial⟩ ?_
  refine am_Rn.ret (t := am_t96) rfl rfl trivial ?_
  exact ⟨rfl, rfl⟩
theorem mm_type_F (sc : am_Sc) (v : Int64) (w : Int32) (hw : ¬ (1 ≤ w ∧ w ≤ 8)) (tr : Int64) (ty nx tk pl va fa dp cm : Int32) (tx nu dn la me tc ts ps : Nat → Int32) (P : Nat) (rd pr pv sa pd lo : Int32) (bo co sh se si er of_ sp ke ik bi bt so nr ou ho cl : Nat → Int32) (B0 B1 B2 B3 B4 B5 B6 B7 B8 B9 B10 B11 B12 : List am_E) (Bs : am_M) : am_Rn sc 96 (0, am_entry 96 [.ref 416, .long v, .int w], [], B0 :: B1 :: B2 :: B3 :: B4 :: B5 :: B6 :: B7 :: B8 :: B9 :: B10 :: B11 :: B12 :: bkModel tr ty nx tk pl va fa (Int32.ofNat P) dp cm tx (mp_ru nu dn) (mp_ps (mp_q la me tc ts) ps) (mp_s rd pr pv sa pd lo bo co sh se si er of_) sp ke ik bi bt so nr ou ho cl :: Bs) (fun r M' => r = some (.int (-1)) ∧ M' = B0 :: B1 :: B2 :: B3 :: B4 :: B5 :: B6 :: B7 :: B8 :: B9 :: B10 :: B11 :: B12 :: bkModel tr ty nx tk pl va fa (Int32.ofNat P) dp cm tx (mp_ru nu dn) (mp_ps (mp_q la me tc ts) ps) (mp_s rd pr pv sa pd lo bo co sh se si er of_) sp ke ik bi bt so nr ou ho cl :: Bs) := by
  show am_Rn sc 96 (0, [some (.ref 416), some (.long v), none, some (.int w), none], [], _) _
  refine am_Rn.go (t := am_t96) rfl 6 rfl ⟨trivial, trivial, trivial, trivial, trivial, trivial, trivial⟩ ?_
  refine am_Rn.call (t := am_t96) rfl rfl (sx_in ..) ?_
  rintro _ _ ⟨rfl, rfl⟩
  refine am_Rn.go (t := am_t96) rfl 1 rfl ⟨trivial, trivial⟩ ?_
  refine am_Rn.brT (am_b0.mpr hw) ?_
  refine am_Rn.go (t := am_t96) rfl 1 rfl ⟨trivial, trivial⟩ ?_
  refine am_Rn.ret (t := am_t96) rfl rfl trivial ?_
  exact ⟨rfl, rfl⟩
theorem mm_keep_T (sc : am_Sc) (m : Nat) (hm : m < 2) (s : Nat → Int32) (tr : Int64) (ty nx tk pl va fa dp cm : Int32) (tx nu dn la me tc ts ps : Nat → Int32) (P : Nat) (sp ke ik bi bt so nr ou ho cl : Nat → Int32) (B0 B1 B2 B3 B4 B5 B6 B7 B8 B9 B10 B11 B12 : List am_E) (Bs : am_M) : am_Rn sc 160 (0, am_entry 160 [.ref 416, .int (Int32.ofNat m)], [], B0 :: B1 :: B2 :: B3 :: B4 :: B5 :: B6 :: B7 :: B8 :: B9 :: B10 :: B11 :: B12 :: bkModel tr ty nx tk pl va fa (Int32.ofNat P) dp cm tx (mp_ru nu dn) (mp_ps (mp_q la me tc ts) ps) s sp ke ik bi bt so nr ou ho cl :: Bs) (fun r M' => r = some (.int (s 0)) ∧ M' = B0 :: B1 :: B2 :: B3 :: B4 :: B5 :: B6 :: B7 :: B8 :: B9 :: B10 :: B11 :: B12 :: bkModel tr ty nx tk pl va fa (Int32.ofNat P) dp cm tx (mp_ru nu dn) (mp_ps (mp_q la me tc ts) ps) s sp (sp_ink m s ke) (upd ik m 1) bi bt so nr ou ho cl :: Bs) := by
  show am_Rn sc 160 (0, [some (.ref 416), some (.int (Int32.ofNat m)), none], [], _) _
  have i80 : ∀ i, i < 80 → am_inb (80 * Int32.ofNat m + Int32.ofNat i) 160 := fun i hi => by rw [am_80]; exact am_inb_of (by omega) (by omega)
  have e80 : ∀ i, i < 80 → (80 * Int32.ofNat m + Int32.ofNat i).toNatClampNeg = 80 * m + i := fun i hi => by rw [am_80]; exact am_tn _ (by omega)
  have em : (Int32.ofNat m).toNatClampNeg = m := am_tn m (by omega)

  have L : ∀ (d i : Nat), i + d = 80 → am_Rn sc 160 (12, [some (.ref 416), some (.int (Int32.ofNat m)), some (.int (Int32.ofNat i))], [], B0 :: B1 :: B2 :: B3 :: B4 :: B5 :: B6 :: B7 :: B8 :: B9 :: B10 :: B11 :: B12 :: bkModel tr ty nx tk pl va fa (Int32.ofNat P) dp cm tx (mp_ru nu dn) (mp_ps (mp_q la me tc ts) ps) s sp (am_fold i (fun k h => upd h (80 * m + k) (s k)) ke) ik bi bt so nr ou ho cl :: Bs) (fun r M' => r = some (.int (s 0)) ∧ M' = B0 :: B1 :: B2 :: B3 :: B4 :: B5 :: B6 :: B7 :: B8 :: B9 :: B10 :: B11 :: B12 :: bkModel tr ty nx tk pl va fa (Int32.ofNat P) dp cm tx (mp_ru nu dn) (mp_ps (mp_q la me tc ts) ps) s sp (sp_ink m s ke) (upd ik m 1) bi bt so nr ou ho cl :: Bs) := by
    intro d
    induction d with
    | zero =>
      intro i  hi
      have hiP : i = 80 := by omega
      subst i
      rw [sp_inkfold]
      refine am_Rn.go (t := am_t160) rfl 3 rfl ⟨trivial, trivial, trivial, trivial⟩ ?_
      refine am_Rn.brT (by first | exact (am_le (by omega) (by omega)).mpr (Nat.le_refl _) | exact fun q => absurd ((am_lt (by omega) (by omega)).mp q) (Nat.lt_irrefl _) | exact (am_lt (by omega) (by omega)).mpr (by omega) | decide) ?_
      refine am_Rn.go (t := am_t160) rfl 9 rfl ⟨trivial, trivial, trivial, trivial, (by exact am_inb_of (by omega) (by omega)), trivial, trivial, trivial, (by first | exact am_inb_lit rfl | exact am_inb_of (by omega) (by omega)), trivial⟩ ?_
      show am_Rn sc 160 (38, _, _, B0 :: B1 :: B2 :: B3 :: B4 :: B5 :: B6 :: B7 :: B8 :: B9 :: B10 :: B11 :: B12 :: bkModel tr ty nx tk pl va fa (Int32.ofNat P) dp cm tx (mp_ru nu dn) (mp_ps (mp_q la me tc ts) ps) s sp (sp_ink m s ke) (upd ik (Int32.ofNat m).toNatClampNeg 1) bi bt so nr ou ho cl :: Bs) _
      rw [em]
      refine am_Rn.ret (t := am_t160) rfl rfl trivial ?_
      exact ⟨rfl, rfl⟩
    | succ d ih =>
      intro i  hi
      have hiP : i < 80 := by omega
      have e1 : (Int32.ofNat i).toNatClampNeg = i := am_tn i (by omega)
      have g := ih (i + 1) (by omega)
      rw [am_fold_succ i, ← am_inc] at g
      generalize hX : (am_fold i (fun k h => upd h (80 * m + k) (s k)) ke) = X at g ⊢
      refine am_Rn.go (t := am_t160) rfl 3 rfl ⟨trivial, trivial, trivial, trivial⟩ ?_
      refine am_Rn.brF (by first | exact fun q => absurd ((am_le (by omega) (by omega)).mp q) (by omega) | exact fun q => absurd ((am_le (i := 9) (by omega) (by omega)).mp q) (by omega) | exact fun q => absurd ((am_le (i := 10) (by omega) (by omega)).mp q) (by omega) | exact fun q => absurd ((am_le (i := 80) (by omega) (by omega)).mp q) (by omega) | exact (am_lt (by omega) (by omega)).mpr hiP | exact fun q => absurd ((am_lt (by omega) (by omega)).mp q) (by omega)) ?_
      refine am_Rn.go (t := am_t160) rfl 14 rfl ⟨trivial, trivial, trivial, trivial, trivial, trivial, trivial, trivial, trivial, trivial, (by first | exact am_inb_lit rfl | exact am_inb_of (by omega) (by omega)), (by exact i80 i (by omega)), trivial, trivial, trivial⟩ ?_
      rw [e80 i (by omega), e1]
      exact g
  refine am_Rn.go (t := am_t160) rfl 6 rfl ⟨trivial, trivial, trivial, trivial, trivial, trivial, trivial⟩ ?_
  refine am_Rn.call (t := am_t160) rfl rfl (sx_in ..) ?_
  rintro _ _ ⟨rfl, rfl⟩
  refine am_Rn.go (t := am_t160) rfl 1 rfl ⟨trivial, trivial⟩ ?_
  refine am_Rn.brF (fun z => am_b0.mp z (am_rng2 (k := 1) (by omega) (by omega))) ?_
  refine am_Rn.go (t := am_t160) rfl 2 rfl ⟨trivial, trivial, trivial⟩ ?_
  exact L 80 0 (by omega)
theorem mm_back_T (sc : am_Sc) (m : Nat) (hm : m < 2) (s ik : Nat → Int32) (hk : ¬ ik m = 0) (tr : Int64) (ty nx tk pl va fa dp cm : Int32) (tx nu dn la me tc ts ps : Nat → Int32) (P : Nat) (sp ke bi bt so nr ou ho cl : Nat → Int32) (B0 B1 B2 B3 B4 B5 B6 B7 B8 B9 B10 B11 B12 : List am_E) (Bs : am_M) : am_Rn sc 161 (0, am_entry 161 [.ref 416, .int (Int32.ofNat m)], [], B0 :: B1 :: B2 :: B3 :: B4 :: B5 :: B6 :: B7 :: B8 :: B9 :: B10 :: B11 :: B12 :: bkModel tr ty nx tk pl va fa (Int32.ofNat P) dp cm tx (mp_ru nu dn) (mp_ps (mp_q la me tc ts) ps) s sp ke ik bi bt so nr ou ho cl :: Bs) (fun r M' => r = some (.int (ke (80 * m))) ∧ M' = B0 :: B1 :: B2 :: B3 :: B4 :: B5 :: B6 :: B7 :: B8 :: B9 :: B10 :: B11 :: B12 :: bkModel tr ty nx tk pl va fa (Int32.ofNat P) dp cm tx (mp_ru nu dn) (mp_ps (mp_q la me tc ts) ps) (sp_cov 80 (fun k => ke (80 * m + k)) s) sp ke ik bi bt so nr ou ho cl :: Bs) := by
  show am_Rn sc 161 (0, [some (.ref 416), some (.int (Int32.ofNat m)), none], [], _) _
  have i80 : ∀ i, i < 80 → am_inb (80 * Int32.ofNat m + Int32.ofNat i) 160 := fun i hi => by rw [am_80]; exact am_inb_of (by omega) (by omega)
  have e80 : ∀ i, i < 80 → (80 * Int32.ofNat m + Int32.ofNat i).toNatClampNeg = 80 * m + i := fun i hi => by rw [am_80]; exact am_tn _ (by omega)
  have em : (Int32.ofNat m).toNatClampNeg = m := am_tn m (by omega)

  have L : ∀ (d i : Nat), i + d = 80 → am_Rn sc 161 (19, [some (.ref 416), some (.int (Int32.ofNat m)), some (.int (Int32.ofNat i))], [], B0 :: B1 :: B2 :: B3 :: B4 :: B5 :: B6 :: B7 :: B8 :: B9 :: B10 :: B11 :: B12 :: bkModel tr ty nx tk pl va fa (Int32.ofNat P) dp cm tx (mp_ru nu dn) (mp_ps (mp_q la me tc ts) ps) (am_fold i (fun k h => upd h k (ke (80 * m + k))) s) sp ke ik bi bt so nr ou ho cl :: Bs) (fun r M' => r = some (.int (ke (80 * m))) ∧ M' = B0 :: B1 :: B2 :: B3 :: B4 :: B5 :: B6 :: B7 :: B8 :: B9 :: B10 :: B11 :: B12 :: bkModel tr ty nx tk pl va fa (Int32.ofNat P) dp cm tx (mp_ru nu dn) (mp_ps (mp_q la me tc ts) ps) (sp_cov 80 (fun k => ke (80 * m + k)) s) sp ke ik bi bt so nr ou ho cl :: Bs) := by
    intro d
    induction d with
    | zero =>
      intro i  hi
      have hiP : i = 80 := by omega
      subst i
      rw [sp_covfold (fun k => ke (80 * m + k)) s]
      refine am_Rn.go (t := am_t161) rfl 3 rfl ⟨trivial, trivial, trivial, trivial⟩ ?_
      refine am_Rn.brT (by first | exact (am_le (by omega) (by omega)).mpr (Nat.le_refl _) | exact fun q => absurd ((am_lt (by omega) (by omega)).mp q) (Nat.lt_irrefl _) | exact (am_lt (by omega) (by omega)).mpr (by omega) | decide) ?_
      refine am_Rn.go (t := am_t161) rfl 4 rfl ⟨trivial, trivial, trivial, (by first | exact am_inb_lit rfl | exact am_inb_of (by omega) (by omega)), trivial⟩ ?_
      refine am_Rn.ret (t := am_t161) rfl rfl trivial ?_
      exact ⟨rfl, rfl⟩
    | succ d ih =>
      intro i  hi
      have hiP : i < 80 := by omega
      have e1 : (Int32.ofNat i).toNatClampNeg = i := am_tn i (by omega)
      have g := ih (i + 1) (by omega)
      rw [am_fold_succ i, ← am_inc] at g
      generalize hX : (am_fold i (fun k h => upd h k (ke (80 * m + k))) s) = X at g ⊢
      refine am_Rn.go (t := am_t161) rfl 3 rfl ⟨trivial, trivial, trivial, trivial⟩ ?_
      refine am_Rn.brF (by first | exact fun q => absurd ((am_le (by omega) (by omega)).mp q) (by omega) | exact fun q => absurd ((am_le (i := 9) (by omega) (by omega)).mp q) (by omega) | exact fun q => absurd ((am_le (i := 10) (by omega) (by omega)).mp q) (by omega) | exact fun q => absurd ((am_le (i := 80) (by omega) (by omega)).mp q) (by omega) | exact (am_lt (by omega) (by omega)).mpr hiP | exact fun q => absurd ((am_lt (by omega) (by omega)).mp q) (by omega)) ?_
      refine am_Rn.go (t := am_t161) rfl 14 rfl ⟨trivial, trivial, trivial, trivial, trivial, trivial, trivial, trivial, trivial, trivial, (by exact i80 i (by omega)), (by first | exact am_inb_lit rfl | exact am_inb_of (by omega) (by omega)), trivial, trivial, trivial⟩ ?_
      rw [e80 i (by omega), e1]
      exact g
  refine am_Rn.go (t := am_t161) rfl 6 rfl ⟨trivial, trivial, trivial, trivial, trivial, trivial, trivial⟩ ?_
  refine am_Rn.call (t := am_t161) rfl rfl (sx_in ..) ?_
  rintro _ _ ⟨rfl, rfl⟩
  refine am_Rn.go (t := am_t161) rfl 1 rfl ⟨trivial, trivial⟩ ?_
  refine am_Rn.brF (fun z => am_b0.mp z (am_rng2 (k := 1) (by omega) (by omega))) ?_
  refine am_Rn.go (t := am_t161) rfl 5 rfl ⟨trivial, trivial, trivial, (by exact am_inb_of (by omega) (by omega)), trivial, trivial⟩ ?_
  refine am_Rn.brF (by rw [em]; exact hk) ?_
  refine am_Rn.go (t := am_t161) rfl 2 rfl ⟨trivial, trivial, trivial⟩ ?_
  exact L 80 0 (by omega)
theorem mm_back_S (sc : am_Sc) (m : Nat) (hm : m < 2) (s ik : Nat → Int32) (hk : ik m = 0) (tr : Int64) (ty nx tk pl va fa dp cm : Int32) (tx nu dn la me tc ts ps : Nat → Int32) (P : Nat) (sp ke bi bt so nr ou ho cl : Nat → Int32) (B0 B1 B2 B3 B4 B5 B6 B7 B8 B9 B10 B11 B12 : List am_E) (Bs : am_M) : am_Rn sc 161 (0, am_entry 161 [.ref 416, .int (Int32.ofNat m)], [], B0 :: B1 :: B2 :: B3 :: B4 :: B5 :: B6 :: B7 :: B8 :: B9 :: B10 :: B11 :: B12 :: bkModel tr ty nx tk pl va fa (Int32.ofNat P) dp cm tx (mp_ru nu dn) (mp_ps (mp_q la me tc ts) ps) s sp ke ik bi bt so nr ou ho cl :: Bs) (fun r M' => r = some (.int (-2)) ∧ M' = B0 :: B1 :: B2 :: B3 :: B4 :: B5 :: B6 :: B7 :: B8 :: B9 :: B10 :: B11 :: B12 :: bkModel tr ty nx tk pl va fa (Int32.ofNat P) dp cm tx (mp_ru nu dn) (mp_ps (mp_q la me tc ts) ps) s sp ke ik bi bt so nr ou ho cl :: Bs) := by
  show am_Rn sc 161 (0, [some (.ref 416), some (.int (Int32.ofNat m)), none], [], _) _
  have em : (Int32.ofNat m).toNatClampNeg = m := am_tn m (by omega)
  refine am_Rn.go (t := am_t161) rfl 6 rfl ⟨trivial, trivial, trivial, trivial, trivial, trivial, trivial⟩ ?_
  refine am_Rn.call (t := am_t161) rfl rfl (sx_in ..) ?_
  rintro _ _ ⟨rfl, rfl⟩
  refine am_Rn.go (t := am_t161) rfl 1 rfl ⟨trivial, trivial⟩ ?_
  refine am_Rn.brF (fun z => am_b0.mp z (am_rng2 (k := 1) (by omega) (by omega))) ?_
  refine am_Rn.go (t := am_t161) rfl 5 rfl ⟨trivial, trivial, trivial, (by exact am_inb_of (by omega) (by omega)), trivial, trivial⟩ ?_
  refine am_Rn.brT (by rw [em]; exact hk) ?_
  refine am_Rn.go (t := am_t161) rfl 1 rfl ⟨trivial, trivial⟩ ?_
  refine am_Rn.ret (t := am_t161) rfl rfl trivial ?_
  exact ⟨rfl, rfl⟩
theorem mm_keep_F (sc : am_Sc) (v : Int32) (hv : ¬ (0 ≤ v ∧ v ≤ 1)) (tr : Int64) (ty nx tk pl va fa dp cm : Int32) (tx nu dn la me tc ts ps : Nat → Int32) (P : Nat) (rd pr pv sa pd lo : Int32) (bo co sh se si er of_ sp ke ik bi bt so nr ou ho cl : Nat → Int32) (B0 B1 B2 B3 B4 B5 B6 B7 B8 B9 B10 B11 B12 : List am_E) (Bs : am_M) : am_Rn sc 160 (0, am_entry 160 [.ref 416, .int v], [], B0 :: B1 :: B2 :: B3 :: B4 :: B5 :: B6 :: B7 :: B8 :: B9 :: B10 :: B11 :: B12 :: bkModel tr ty nx tk pl va fa (Int32.ofNat P) dp cm tx (mp_ru nu dn) (mp_ps (mp_q la me tc ts) ps) (mp_s rd pr pv sa pd lo bo co sh se si er of_) sp ke ik bi bt so nr ou ho cl :: Bs) (fun r M' => r = some (.int (-1)) ∧ M' = B0 :: B1 :: B2 :: B3 :: B4 :: B5 :: B6 :: B7 :: B8 :: B9 :: B10 :: B11 :: B12 :: bkModel tr ty nx tk pl va fa (Int32.ofNat P) dp cm tx (mp_ru nu dn) (mp_ps (mp_q la me tc ts) ps) (mp_s rd pr pv sa pd lo bo co sh se si er of_) sp ke ik bi bt so nr ou ho cl :: Bs) := by
  show am_Rn sc 160 (0, [some (.ref 416), some (.int v), none], [], _) _
  refine am_Rn.go (t := am_t160) rfl 6 rfl ⟨trivial, trivial, trivial, trivial, trivial, trivial, trivial⟩ ?_
  refine am_Rn.call (t := am_t160) rfl rfl (sx_in ..) ?_
  rintro _ _ ⟨rfl, rfl⟩
  refine am_Rn.go (t := am_t160) rfl 1 rfl ⟨trivial, trivial⟩ ?_
  refine am_Rn.brT (am_b0.mpr hv) ?_
  refine am_Rn.go (t := am_t160) rfl 1 rfl ⟨trivial, trivial⟩ ?_
  refine am_Rn.ret (t := am_t160) rfl rfl trivial ?_
  exact ⟨rfl, rfl⟩
theorem mm_back_F (sc : am_Sc) (v : Int32) (hv : ¬ (0 ≤ v ∧ v ≤ 1)) (tr : Int64) (ty nx tk pl va fa dp cm : Int32) (tx nu dn la me tc ts ps : Nat → Int32) (P : Nat) (rd pr pv sa pd lo : Int32) (bo co sh se si er of_ sp ke ik bi bt so nr ou ho cl : Nat → Int32) (B0 B1 B2 B3 B4 B5 B6 B7 B8 B9 B10 B11 B12 : List am_E) (Bs : am_M) : am_Rn sc 161 (0, am_entry 161 [.ref 416, .int v], [], B0 :: B1 :: B2 :: B3 :: B4 :: B5 :: B6 :: B7 :: B8 :: B9 :: B10 :: B11 :: B12 :: bkModel tr ty nx tk pl va fa (Int32.ofNat P) dp cm tx (mp_ru nu dn) (mp_ps (mp_q la me tc ts) ps) (mp_s rd pr pv sa pd lo bo co sh se si er of_) sp ke ik bi bt so nr ou ho cl :: Bs) (fun r M' => r = some (.int (-1)) ∧ M' = B0 :: B1 :: B2 :: B3 :: B4 :: B5 :: B6 :: B7 :: B8 :: B9 :: B10 :: B11 :: B12 :: bkModel tr ty nx tk pl va fa (Int32.ofNat P) dp cm tx (mp_ru nu dn) (mp_ps (mp_q la me tc ts) ps) (mp_s rd pr pv sa pd lo bo co sh se si er of_) sp ke ik bi bt so nr ou ho cl :: Bs) := by
  show am_Rn sc 161 (0, [some (.ref 416), some (.int v), none], [], _) _
  refine am_Rn.go (t := am_t161) rfl 6 rfl ⟨trivial, trivial, trivial, trivial, trivial, trivial, trivial⟩ ?_
  refine am_Rn.call (t := am_t161) rfl rfl (sx_in ..) ?_
  rintro _ _ ⟨rfl, rfl⟩
  refine am_Rn.go (t := am_t161) rfl 1 rfl ⟨trivial, trivial⟩ ?_
  refine am_Rn.brT (am_b0.mpr hv) ?_
  refine am_Rn.go (t := am_t161) rfl 1 rfl ⟨trivial, trivial⟩ ?_
  refine am_Rn.ret (t := am_t161) rfl rfl trivial ?_
  exact ⟨rfl, rfl⟩
theorem mm_truest (sc : am_Sc) (P : Nat) (hP : P ≤ 9) (tr : Int64) (ty nx tk pl va fa dp cm : Int32) (tx nu dn la me tc ts ps : Nat → Int32) (rd pr pv sa pd lo : Int32) (bo co sh se si er of_ sp ke ik bi bt so nr ou ho cl : Nat → Int32) (B0 B1 B2 B3 B4 B5 B6 B7 B8 B9 B10 B11 B12 : List am_E) (Bs : am_M) : am_Rn sc 158 (0, am_entry 158 [.ref 416], [], B0 :: B1 :: B2 :: B3 :: B4 :: B5 :: B6 :: B7 :: B8 :: B9 :: B10 :: B11 :: B12 :: bkModel tr ty nx tk pl va fa (Int32.ofNat P) dp cm tx (mp_ru nu dn) (mp_ps (mp_q la me tc ts) ps) (mp_s rd pr pv sa pd lo bo co sh se si er of_) sp ke ik bi bt so nr ou ho cl :: Bs) (fun r M' => r = some (.int (am_on (-9) (am_fold P (sp_trOne er of_) none))) ∧ M' = B0 :: B1 :: B2 :: B3 :: B4 :: B5 :: B6 :: B7 :: B8 :: B9 :: B10 :: B11 :: B12 :: bkModel tr ty nx tk pl va fa (Int32.ofNat P) dp cm tx (mp_ru nu dn) (mp_ps (mp_q la me tc ts) ps) (mp_s rd pr pv sa pd lo bo co sh se si er of_) sp ke ik bi bt so nr ou ho cl :: Bs) := by
  show am_Rn sc 158 (0, [some (.ref 416), none, none, none], [], _) _
  have L : ∀ (d i : Nat) (x3 : Option Value), i + d = P → am_Rn sc 158 (7, [some (.ref 416), some (.int (am_on (-9) (am_fold i (sp_trOne er of_) none))), some (.int (Int32.ofNat i)), x3], [], B0 :: B1 :: B2 :: B3 :: B4 :: B5 :: B6 :: B7 :: B8 :: B9 :: B10 :: B11 :: B12 :: bkModel tr ty nx tk pl va fa (Int32.ofNat P) dp cm tx (mp_ru nu dn) (mp_ps (mp_q la me tc ts) ps) (mp_s rd pr pv sa pd lo bo co sh se si er of_) sp ke ik bi bt so nr ou ho cl :: Bs) (fun r M' => r = some (.int (am_on (-9) (am_fold P (sp_trOne er of_) none))) ∧ M' = B0 :: B1 :: B2 :: B3 :: B4 :: B5 :: B6 :: B7 :: B8 :: B9 :: B10 :: B11 :: B12 :: bkModel tr ty nx tk pl va fa (Int32.ofNat P) dp cm tx (mp_ru nu dn) (mp_ps (mp_q la me tc ts) ps) (mp_s rd pr pv sa pd lo bo co sh se si er of_) sp ke ik bi bt so nr ou ho cl :: Bs) := by
    intro d
    induction d with
    | zero =>
      intro i x3 hi
      have hiP : i = P := by omega
      subst i
      refine am_Rn.go (t := am_t158) rfl 4 rfl ⟨trivial, trivial, trivial, trivial, trivial⟩ ?_
      refine am_Rn.brT (by first | exact (am_le (by omega) (by omega)).mpr (Nat.le_refl _) | exact fun q => absurd ((am_lt (by omega) (by omega)).mp q) (Nat.lt_irrefl _) | exact (am_lt (by omega) (by omega)).mpr (by omega) | decide) ?_
      refine am_Rn.go (t := am_t158) rfl 1 rfl ⟨trivial, trivial⟩ ?_
      refine am_Rn.ret (t := am_t158) rfl rfl trivial ?_
      exact ⟨rfl, rfl⟩
    | succ d ih =>
      intro i x3 hi
      have hiP : i < P := by omega
      have e1 : (Int32.ofNat i).toNatClampNeg = i := am_tn i (by omega)
      have hq := sp_trOne_lt er of_ i
      generalize hF : (am_fold i (sp_trOne er of_) none) = o at hq ⊢
      rcases Classical.em (0 < of_ i) with h1 | h1
      · skip
        rcases o with _ | q
        · skip
          refine am_Rn.go (t := am_t158) rfl 4 rfl ⟨trivial, trivial, trivial, trivial, trivial⟩ ?_
          refine am_Rn.brF (by first | exact fun q => absurd ((am_le (by omega) (by omega)).mp q) (by omega) | exact fun q => absurd ((am_le (i := 9) (by omega) (by omega)).mp q) (by omega) | exact fun q => absurd ((am_le (i := 10) (by omega) (by omega)).mp q) (by omega) | exact fun q => absurd ((am_le (i := 80) (by omega) (by omega)).mp q) (by omega) | exact (am_lt (by omega) (by omega)).mpr hiP | exact fun q => absurd ((am_lt (by omega) (by omega)).mp q) (by omega)) ?_
          refine am_Rn.go (t := am_t158) rfl 3 rfl ⟨trivial, trivial, trivial, trivial⟩ ?_
          refine am_Rn.call (t := am_t158) rfl rfl (mm_of5 sc i (by omega) ..) ?_
          rintro _ _ ⟨rfl, rfl⟩
          refine am_Rn.go (t := am_t158) rfl 1 rfl ⟨trivial, trivial⟩ ?_
          refine am_Rn.brF (Int32.not_le.mpr h1) ?_
          refine am_Rn.go (t := am_t158) rfl 5 rfl ⟨trivial, trivial, trivial, trivial, trivial, trivial⟩ ?_
          refine am_Rn.brF (by decide) ?_
          refine am_Rn.go (t := am_t158) rfl 3 rfl ⟨trivial, trivial, trivial, trivial⟩ ?_
          refine am_Rn.brT rfl ?_
          refine am_Rn.go (t := am_t158) rfl 5 rfl ⟨trivial, trivial, trivial, trivial, trivial, trivial⟩ ?_
          have g := ih (i + 1) (some (.int 1)) (by omega)
          rw [am_fold_succ, hF, sp_trOne_T (show (decide (0 < of_ i) && sp_trOv er of_ none i) = true by unfold sp_trOv; simp [h1]), ← am_inc] at g
          exact g
        · skip
          have hq1 := hq q rfl
          rcases Classical.em ((er i).toInt64 * (of_ q).toInt64 < (er q).toInt64 * (of_ i).toInt64) with h3 | h3
          · skip
            refine am_Rn.go (t := am_t158) rfl 4 rfl ⟨trivial, trivial, trivial, trivial, trivial⟩ ?_
            refine am_Rn.brF (by first | exact fun q => absurd ((am_le (by omega) (by omega)).mp q) (by omega) | exact fun q => absurd ((am_le (i := 9) (by omega) (by omega)).mp q) (by omega) | exact fun q => absurd ((am_le (i := 10) (by omega) (by omega)).mp q) (by omega) | exact fun q => absurd ((am_le (i := 80) (by omega) (by omega)).mp q) (by omega) | exact (am_lt (by omega) (by omega)).mpr hiP | exact fun q => absurd ((am_lt (by omega) (by omega)).mp q) (by omega)) ?_
            refine am_Rn.go (t := am_t158) rfl 3 rfl ⟨trivial, trivial, trivial, trivial⟩ ?_
            refine am_Rn.call (t := am_t158) rfl rfl (mm_of5 sc i (by omega) ..) ?_
            rintro _ _ ⟨rfl, rfl⟩
            refine am_Rn.go (t := am_t158) rfl 1 rfl ⟨trivial, trivial⟩ ?_
            refine am_Rn.brF (Int32.not_le.mpr h1) ?_
            refine am_Rn.go (t := am_t158) rfl 5 rfl ⟨trivial, trivial, trivial, trivial, trivial, trivial⟩ ?_
            refine am_Rn.brF (by decide) ?_
            refine am_Rn.go (t := am_t158) rfl 3 rfl ⟨trivial, trivial, trivial, trivial⟩ ?_
            refine am_Rn.brF (fun z : Int32.ofNat q = -9 => by have := congrArg Int32.toInt z; rw [am_ofN q (by omega)] at this; rw [show (-9 : Int32).toInt = -9 from rfl] at this; omega) ?_
            refine am_Rn.go (t := am_t158) rfl 3 rfl ⟨trivial, trivial, trivial, trivial⟩ ?_
            refine am_Rn.call (t := am_t158) rfl rfl (mm_of4 sc i (by omega) ..) ?_
            rintro _ _ ⟨rfl, rfl⟩
            refine am_Rn.go (t := am_t158) rfl 4 rfl ⟨trivial, trivial, trivial, trivial, trivial⟩ ?_
            refine am_Rn.call (t := am_t158) rfl rfl (mm_of5 sc q (by omega) ..) ?_
            rintro _ _ ⟨rfl, rfl⟩
            refine am_Rn.go (t := am_t158) rfl 5 rfl ⟨trivial, trivial, trivial, trivial, trivial, trivial⟩ ?_
            refine am_Rn.call (t := am_t158) rfl rfl (mm_of4 sc q (by omega) ..) ?_
            rintro _ _ ⟨rfl, rfl⟩
            refine am_Rn.go (t := am_t158) rfl 4 rfl ⟨trivial, trivial, trivial, trivial, trivial⟩ ?_
            refine am_Rn.call (t := am_t158) rfl rfl (mm_of5 sc i (by omega) ..) ?_
            rintro _ _ ⟨rfl, rfl⟩
            refine am_Rn.go (t := am_t158) rfl 4 rfl ⟨trivial, trivial, trivial, trivial, trivial⟩ ?_
            refine am_Rn.brF (by rw [lg_cmp_ge]; exact Int64.not_le.mpr h3) ?_
            refine am_Rn.go (t := am_t158) rfl 5 rfl ⟨trivial, trivial, trivial, trivial, trivial, trivial⟩ ?_
            have g := ih (i + 1) (some (.int 1)) (by omega)
            rw [am_fold_succ, hF, sp_trOne_T (show (decide (0 < of_ i) && sp_trOv er of_ (some q) i) = true by unfold sp_trOv sp_truer; simp [h1, h3]), ← am_inc] at g
            exact g
          · skip
            refine am_Rn.go (t := am_t158) rfl 4 rfl ⟨trivial, trivial, trivial, trivial, trivial⟩ ?_
            refine am_Rn.brF (by first | exact fun q => absurd ((am_le (by omega) (by omega)).mp q) (by omega) | exact fun q => absurd ((am_le (i := 9) (by omega) (by omega)).mp q) (by omega) | exact fun q => absurd ((am_le (i := 10) (by omega) (by omega)).mp q) (by omega) | exact fun q => absurd ((am_le (i := 80) (by omega) (by omega)).mp q) (by omega) | exact (am_lt (by omega) (by omega)).mpr hiP | exact fun q => absurd ((am_lt (by omega) (by omega)).mp q) (by omega)) ?_
            refine am_Rn.go (t := am_t158) rfl 3 rfl ⟨trivial, trivial, trivial, trivial⟩ ?_
            refine am_Rn.call (t := am_t158) rfl rfl (mm_of5 sc i (by omega) ..) ?_
            rintro _ _ ⟨rfl, rfl⟩
            refine am_Rn.go (t := am_t158) rfl 1 rfl ⟨trivial, trivial⟩ ?_
            refine am_Rn.brF (Int32.not_le.mpr h1) ?_
            refine am_Rn.go (t := am_t158) rfl 5 rfl ⟨trivial, trivial, trivial, trivial, trivial, trivial⟩ ?_
            refine am_Rn.brF (by decide) ?_
            refine am_Rn.go (t := am_t158) rfl 3 rfl ⟨trivial, trivial, trivial, trivial⟩ ?_
            refine am_Rn.brF (fun z : Int32.ofNat q = -9 => by have := congrArg Int32.toInt z; rw [am_ofN q (by omega)] at this; rw [show (-9 : Int32).toInt = -9 from rfl] at this; omega) ?_
            refine am_Rn.go (t := am_t158) rfl 3 rfl ⟨trivial, trivial, trivial, trivial⟩ ?_
            refine am_Rn.call (t := am_t158) rfl rfl (mm_of4 sc i (by omega) ..) ?_
            rintro _ _ ⟨rfl, rfl⟩
            refine am_Rn.go (t := am_t158) rfl 4 rfl ⟨trivial, trivial, trivial, trivial, trivial⟩ ?_
            refine am_Rn.call (t := am_t158) rfl rfl (mm_of5 sc q (by omega) ..) ?_
            rintro _ _ ⟨rfl, rfl⟩
            refine am_Rn.go (t := am_t158) rfl 5 rfl ⟨trivial, trivial, trivial, trivial, trivial, trivial⟩ ?_
            refine am_Rn.call (t := am_t158) rfl rfl (mm_of4 sc q (by omega) ..) ?_
            rintro _ _ ⟨rfl, rfl⟩
            refine am_Rn.go (t := am_t158) rfl 4 rfl ⟨trivial, trivial, trivial, trivial, trivial⟩ ?_
            refine am_Rn.call (t := am_t158) rfl rfl (mm_of5 sc i (by omega) ..) ?_
            rintro _ _ ⟨rfl, rfl⟩
            refine am_Rn.go (t := am_t158) rfl 4 rfl ⟨trivial, trivial, trivial, trivial, trivial⟩ ?_
            refine am_Rn.brT (by rw [lg_cmp_ge]; exact Int64.not_lt.mp h3) ?_
            refine am_Rn.go (t := am_t158) rfl 4 rfl ⟨trivial, trivial, trivial, trivial, trivial⟩ ?_
            have g := ih (i + 1) (some (.int 1)) (by omega)
            rw [am_fold_succ, hF, sp_trOne_F (show ¬ (decide (0 < of_ i) && sp_trOv er of_ (some q) i) = true by unfold sp_trOv sp_truer; simp [h3]), ← am_inc] at g
            exact g
      · skip
        refine am_Rn.go (t := am_t158) rfl 4 rfl ⟨trivial, trivial, trivial, trivial, trivial⟩ ?_
        refine am_Rn.brF (by first | exact fun q => absurd ((am_le (by omega) (by omega)).mp q) (by omega) | exact fun q => absurd ((am_le (i := 9) (by omega) (by omega)).mp q) (by omega) | exact fun q => absurd ((am_le (i := 10) (by omega) (by omega)).mp q) (by omega) | exact fun q => absurd ((am_le (i := 80) (by omega) (by omega)).mp q) (by omega) | exact (am_lt (by omega) (by omega)).mpr hiP | exact fun q => absurd ((am_lt (by omega) (by omega)).mp q) (by omega)) ?_
        refine am_Rn.go (t := am_t158) rfl 3 rfl ⟨trivial, trivial, trivial, trivial⟩ ?_
        refine am_Rn.call (t := am_t158) rfl rfl (mm_of5 sc i (by omega) ..) ?_
        rintro _ _ ⟨rfl, rfl⟩
        refine am_Rn.go (t := am_t158) rfl 1 rfl ⟨trivial, trivial⟩ ?_
        refine am_Rn.brT (Int32.not_lt.mp h1) ?_
        refine am_Rn.go (t := am_t158) rfl 4 rfl ⟨trivial, trivial, trivial, trivial, trivial⟩ ?_
        refine am_Rn.brT (by decide) ?_
        refine am_Rn.go (t := am_t158) rfl 4 rfl ⟨trivial, trivial, trivial, trivial, trivial⟩ ?_
        have g := ih (i + 1) (some (.int 0)) (by omega)
        rw [am_fold_succ, hF, sp_trOne_F (show ¬ (decide (0 < of_ i) && sp_trOv er of_ o i) = true by simp [h1]), ← am_inc] at g
        exact g
  refine am_Rn.go (t := am_t158) rfl 7 rfl ⟨trivial, trivial, trivial, trivial, trivial, trivial, trivial, trivial⟩ ?_
  exact L P 0 _ (by omega)
