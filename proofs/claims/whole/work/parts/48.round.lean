def bkMR (tr : Int64) (ty nx tk pl va fa pe dp cm : Int32) (tx ru ps sp ke ik nr ou ho cl : Nat → Int32) (R : sp_R) : List am_E := match R with
  | (rd, pr, pv, sa, pd, lo, bo, co, sh, se, si, er, of_, bi, bt, so) => bkModel tr ty nx tk pl va fa pe dp cm tx ru ps (mp_s rd pr pv sa pd lo bo co sh se si er of_) sp ke ik bi bt so nr ou ho cl
theorem am_size (a b : Int32) : (if b - a < 0 then -(b - a) else b - a) = sp_abs (a - b) := by
  unfold sp_abs
  rw [show b - a = -(a - b) from (Int32.neg_sub).symm, show (0 : Int32) - (a - b) = -(a - b) from Int32.zero_sub _, show - -(a - b) = a - b from Int32.neg_neg]
  generalize a - b = d
  have hl := Int32.le_toInt d
  have hh := Int32.toInt_lt d
  by_cases hm : d.toInt = -2147483648
  · have e : -d = d := by
      apply Int32.toInt_inj.mp
      rw [Int32.toInt_neg, hm]
      rfl
    rw [e]
    split <;> split <;> rfl
  · have e : (-d).toInt = -d.toInt := by
      rw [Int32.toInt_neg]
      exact Int.bmod_eq_of_le (by omega) (by omega)
    by_cases h0 : 0 ≤ d
    · rw [if_pos h0]
      split
      · rfl
      · next q =>
        rw [Int32.lt_iff_toInt_lt, e] at q
        rw [Int32.le_iff_toInt_le] at h0
        have : (0 : Int32).toInt = 0 := rfl
        apply Int32.toInt_inj.mp
        rw [e]
        omega
    · rw [if_neg h0]
      rw [if_neg]
      rw [Int32.lt_iff_toInt_lt, e]
      rw [Int32.le_iff_toInt_le] at h0
      have : (0 : Int32).toInt = 0 := rfl
      omega
theorem am_parN (n : Nat) (h : n < 65536) : Int32.ofNat n - Int32.ofNat n / 2 * 2 = 0 ↔ Int32.ofNat n &&& 1 = 0 := by
  have e1 : (Int32.ofNat n / 2) = Int32.ofNat (n / 2) := by
    apply Int32.toInt_inj.mp
    rw [Int32.toInt_div, am_ofN n (by omega), am_ofN (n / 2) (by omega)]
    rw [show (2 : Int32).toInt = 2 from rfl, Int.tdiv_eq_ediv_of_nonneg (by omega)]
    rw [Int.bmod_eq_of_le (by omega) (by omega)]
    omega
  have e2 : Int32.ofNat n - Int32.ofNat n / 2 * 2 = Int32.ofNat (n % 2) := by
    rw [e1, show (2 : Int32) = Int32.ofNat 2 from rfl, am_mulN, am_sub_ofN (by omega) (by omega)]
    congr 1
    omega
  have e3 : Int32.ofNat n &&& 1 = Int32.ofNat (n % 2) := by
    apply Int32.toBitVec_inj.mp
    rw [Int32.toBitVec_and]
    apply BitVec.eq_of_toNat_eq
    rw [BitVec.toNat_and]
    show (BitVec.ofNat 32 n).toNat &&& 1 = (BitVec.ofNat 32 (n % 2)).toNat
    rw [BitVec.toNat_ofNat, BitVec.toNat_ofNat, Nat.and_one_is_mod]
    omega
  rw [e2, e3]
theorem am_par (lo : Int32) : (lo.toUInt32 >>> (Int32.toUInt32 16 &&& Int32.toUInt32 31)).toInt32 - (lo.toUInt32 >>> (Int32.toUInt32 16 &&& Int32.toUInt32 31)).toInt32 / 2 * 2 = 0 ↔ (lo.toUInt32 >>> (Int32.toUInt32 16 &&& Int32.toUInt32 31)).toInt32 &&& 1 = 0 := by
  have h : (lo.toUInt32 >>> (Int32.toUInt32 16 &&& Int32.toUInt32 31)).toNat < 65536 := by
    show (lo.toUInt32 >>> (16 : UInt32)).toNat < 65536
    rw [UInt32.toNat_shiftRight]
    rw [show (16 : UInt32).toNat % 32 = 16 from rfl, Nat.shiftRight_eq_div_pow]
    have := lo.toUInt32.toNat_lt
    omega
  generalize lo.toUInt32 >>> (Int32.toUInt32 16 &&& Int32.toUInt32 31) = u at h
  have e : u.toInt32 = Int32.ofNat u.toNat := by
    apply Int32.toBitVec_inj.mp
    show u.toBitVec = BitVec.ofNat 32 u.toNat
    apply BitVec.eq_of_toNat_eq
    rw [BitVec.toNat_ofNat]
    show u.toNat = u.toNat % 2 ^ 32
    omega
  rw [e]
  exact am_parN u.toNat h
set_option maxHeartbeats 4000000 in
theorem mm_goesBy (sc : am_Sc) (P : Nat) (hP : P ≤ 9) (N S rn : Nat) (hN : N ≤ 20) (nu : Nat → Int32) (h0 : nu 0 = Int32.ofNat N) (hS : S ≤ 9) (h9 : nu 9 = Int32.ofNat S) (h7 : 0 ≤ nu 7) (hr : rn < N) (la : Nat → Int32) (hla : ∀ q, q < P → la q = 0 ∨ la q = 1 ∨ la q = 2 ∨ la q = 3 ∨ la q = 4) (tr : Int64) (ty nx tk pl va fa dp cm : Int32) (tx dn me tc ts ps : Nat → Int32) (pr pv sa pd lo : Int32) (bo co sh se si er of_ sp ke ik bi bt so nr ou ho cl : Nat → Int32) (B0 B1 B2 B3 B4 B5 B6 B7 B8 B9 B10 B11 B12 : List am_E) (Bs : am_M) : am_Rn sc 130 (0, am_entry 130 [.ref 416], [], B0 :: B1 :: B2 :: B3 :: B4 :: B5 :: B6 :: B7 :: B8 :: B9 :: B10 :: B11 :: B12 :: bkModel tr ty nx tk pl va fa (Int32.ofNat P) dp cm tx (mp_ru nu dn) (mp_ps (mp_q la me tc ts) ps) (mp_s (Int32.ofNat rn) pr pv sa pd lo bo co sh se si er of_) sp ke ik bi bt so nr ou ho cl :: Bs) (fun r M' => r = none ∧ M' = B0 :: B1 :: B2 :: B3 :: B4 :: B5 :: B6 :: B7 :: B8 :: B9 :: B10 :: B11 :: B12 :: bkMR tr ty nx tk pl va fa (Int32.ofNat P) dp cm tx (mp_ru nu dn) (mp_ps (mp_q la me tc ts) ps) sp ke ik nr ou ho cl (sp_round nu la me P N S rn (Int32.ofNat rn, pr, pv, sa, pd, lo, bo, co, sh, se, si, er, of_, bi, bt, so)) :: Bs) := by
  show am_Rn sc 130 (0, [some (.ref 416), none, none], [], _) _
  have e0 : (Int32.ofNat rn).toNatClampNeg = rn := am_tn rn (by omega)
  have e06 : (6 + Int32.ofNat rn).toNatClampNeg = 6 + rn := by
    rw [show 6 + Int32.ofNat rn = Int32.ofNat (6 + rn) from am_addN 6 rn]
    exact am_tn _ (by omega)
  have i06 : am_inb (6 + Int32.ofNat rn) 80 := by
    rw [show 6 + Int32.ofNat rn = Int32.ofNat (6 + rn) from am_addN 6 rn]
    exact am_inb_of (by omega) (by omega)
  have L80 : ∀ (cnt : Nat) (bi : Nat → Int32) (pv : Int32) (co sh bt so : Nat → Int32) (pr : Int32) (x1 : Int32) (d i : Nat), i + d = P → am_Rn sc 130 (80, [some (.ref 416), some (.int x1), some (.int (Int32.ofNat i))], [], B0 :: B1 :: B2 :: B3 :: B4 :: B5 :: B6 :: B7 :: B8 :: B9 :: B10 :: B11 :: B12 :: bkModel tr ty nx tk pl va fa (Int32.ofNat P) dp cm tx (mp_ru nu dn) (mp_ps (mp_q la me tc ts) ps) (mp_s (Int32.ofNat rn) pr pv (sa + Int32.ofNat cnt) (pd + (sp_die nu (sp_lot lo))) (sp_lot lo) bo (am_fold P (sp_pay sh (sp_die nu (sp_lot lo))) co) sh se (am_fold i (sp_saidOne pr) (si, er, of_)).1 (am_fold i (sp_saidOne pr) (si, er, of_)).2.1 (am_fold i (sp_saidOne pr) (si, er, of_)).2.2) sp ke ik bi bt so nr ou ho cl :: Bs) (fun r M' => r = none ∧ M' = B0 :: B1 :: B2 :: B3 :: B4 :: B5 :: B6 :: B7 :: B8 :: B9 :: B10 :: B11 :: B12 :: bkMR tr ty nx tk pl va fa (Int32.ofNat P) dp cm tx (mp_ru nu dn) (mp_ps (mp_q la me tc ts) ps) sp ke ik nr ou ho cl (sp_tail nu P N rn pv sa pd lo bo se si er of_ bi cnt (co, sh, bt, so, pr)) :: Bs) := by
    intro cnt bi pv co sh bt so pr x1 d
    induction d with
    | zero =>
      intro i hi
      have hiP : i = P := by omega
      subst i
      unfold sp_tail
      dsimp only
      refine am_Rn.go (t := am_t130) rfl 4 rfl ⟨trivial, trivial, trivial, trivial, trivial⟩ ?_
      refine am_Rn.brT (by first | exact (am_le (by omega) (by omega)).mpr (Nat.le_refl _) | exact fun q => absurd ((am_lt (by omega) (by omega)).mp q) (Nat.lt_irrefl _) | exact (am_lt (by omega) (by omega)).mpr (by omega) | decide) ?_
      refine am_Rn.go (t := am_t130) rfl 13 rfl ⟨trivial, trivial, trivial, trivial, trivial, trivial, (by first | exact am_inb_lit rfl | exact am_inb_of (by omega) (by omega)), trivial, trivial, trivial, trivial, (by first | exact am_inb_lit rfl | exact am_inb_of (by omega) (by omega)), i06, trivial⟩ ?_
      show am_Rn sc 130 (139, _, _, B0 :: B1 :: B2 :: B3 :: B4 :: B5 :: B6 :: B7 :: B8 :: B9 :: B10 :: B11 :: B12 :: bkModel tr ty nx tk pl va fa (Int32.ofNat P) dp cm tx (mp_ru nu dn) (mp_ps (mp_q la me tc ts) ps) (upd (mp_s (Int32.ofNat rn) pr pv (sa + Int32.ofNat cnt) (pd + (sp_die nu (sp_lot lo))) (sp_lot lo) bo (am_fold P (sp_pay sh (sp_die nu (sp_lot lo))) co) sh se (am_fold P (sp_saidOne pr) (si, er, of_)).1 (am_fold P (sp_saidOne pr) (si, er, of_)).2.1 (am_fold P (sp_saidOne pr) (si, er, of_)).2.2) (6 + Int32.ofNat rn).toNatClampNeg pr) sp ke ik bi bt so nr ou ho cl :: Bs) _
      rw [e06, mp_setB _ _ _ _ _ _ _ _ _ _ _ _ _ (by omega)]
      refine am_Rn.go (t := am_t130) rfl 8 rfl ⟨trivial, trivial, trivial, trivial, (by first | exact am_inb_lit rfl | exact am_inb_of (by omega) (by omega)), trivial, trivial, (by first | exact am_inb_lit rfl | exact am_inb_of (by omega) (by omega)), trivial⟩ ?_
      show am_Rn sc 130 (147, _, _, B0 :: B1 :: B2 :: B3 :: B4 :: B5 :: B6 :: B7 :: B8 :: B9 :: B10 :: B11 :: B12 :: bkModel tr ty nx tk pl va fa (Int32.ofNat P) dp cm tx (mp_ru nu dn) (mp_ps (mp_q la me tc ts) ps) (upd (mp_s (Int32.ofNat rn) pr pv (sa + Int32.ofNat cnt) (pd + (sp_die nu (sp_lot lo))) (sp_lot lo) (upd bo rn pr) (am_fold P (sp_pay sh (sp_die nu (sp_lot lo))) co) sh se (am_fold P (sp_saidOne pr) (si, er, of_)).1 (am_fold P (sp_saidOne pr) (si, er, of_)).2.1 (am_fold P (sp_saidOne pr) (si, er, of_)).2.2) 0 (Int32.ofNat rn + 1)) sp ke ik bi bt so nr ou ho cl :: Bs) _
      rw [mp_set0]
      refine am_Rn.go (t := am_t130) rfl 1 rfl ⟨trivial, trivial⟩ ?_
      refine am_Rn.call (t := am_t130) rfl rfl (mm_isOver ..) ?_
      rintro _ _ ⟨rfl, rfl⟩
      refine am_Rn.go (t := am_t130) rfl 1 rfl ⟨trivial, trivial⟩ ?_
      refine am_Rn.brB (fun h2 => ?_) (fun h2 => ?_)
      · skip
        have hov : ¬ N ≤ rn + 1 := fun q => h2 (by rw [h0, am_inc]; congr 1; omega)
        rw [if_neg hov]
        refine am_Rn.ret (t := am_t130) rfl rfl trivial ?_
        exact ⟨rfl, rfl⟩
      · skip
        have hov : N ≤ rn + 1 := by
          have h := h2
          rw [h0, am_inc] at h
          have := (am_eqi (by omega) (by omega)).mp h
          omega
        rw [if_pos hov]
        refine am_Rn.go (t := am_t130) rfl 5 rfl ⟨trivial, trivial, trivial, trivial, (by first | exact am_inb_lit rfl | exact am_inb_of (by omega) (by omega)), trivial⟩ ?_
        refine am_Rn.call (t := am_t130) rfl rfl (mm_pays sc P hP ..) ?_
        rintro _ _ ⟨rfl, rfl⟩
        refine am_Rn.ret (t := am_t130) rfl rfl trivial ?_
        exact ⟨rfl, rfl⟩
    | succ d ih =>
      intro i hi
      have hiP : i < P := by omega
      have g := ih (i + 1) (by omega)
      rw [am_fold_succ, ← am_inc] at g
      generalize hX : (am_fold i (sp_saidOne pr) (si, er, of_)) = X at g ⊢
      rcases Classical.em (X.1 i = -9) with hs | hs
      · skip
        refine am_Rn.go (t := am_t130) rfl 4 rfl ⟨trivial, trivial, trivial, trivial, trivial⟩ ?_
        refine am_Rn.brF (by first | exact fun q => absurd ((am_le (by omega) (by omega)).mp q) (by omega) | exact fun q => absurd ((am_le (i := 9) (by omega) (by omega)).mp q) (by omega) | exact fun q => absurd ((am_le (i := 10) (by omega) (by omega)).mp q) (by omega) | exact fun q => absurd ((am_le (i := 80) (by omega) (by omega)).mp q) (by omega) | exact (am_lt (by omega) (by omega)).mpr hiP | exact fun q => absurd ((am_lt (by omega) (by omega)).mp q) (by omega)) ?_
        refine am_Rn.go (t := am_t130) rfl 3 rfl ⟨trivial, trivial, trivial, trivial⟩ ?_
        refine am_Rn.call (t := am_t130) rfl rfl (mm_of3 sc i (by omega) ..) ?_
        rintro _ _ ⟨rfl, rfl⟩
        refine am_Rn.go (t := am_t130) rfl 2 rfl ⟨trivial, trivial, trivial⟩ ?_
        refine am_Rn.brT hs ?_
        refine am_Rn.go (t := am_t130) rfl 2 rfl ⟨trivial, trivial, trivial⟩ ?_
        rw [show sp_saidOne pr i X = X from if_pos hs] at g
        exact g
      · skip
        refine am_Rn.go (t := am_t130) rfl 4 rfl ⟨trivial, trivial, trivial, trivial, trivial⟩ ?_
        refine am_Rn.brF (by first | exact fun q => absurd ((am_le (by omega) (by omega)).mp q) (by omega) | exact fun q => absurd ((am_le (i := 9) (by omega) (by omega)).mp q) (by omega) | exact fun q => absurd ((am_le (i := 10) (by omega) (by omega)).mp q) (by omega) | exact fun q => absurd ((am_le (i := 80) (by omega) (by omega)).mp q) (by omega) | exact (am_lt (by omega) (by omega)).mpr hiP | exact fun q => absurd ((am_lt (by omega) (by omega)).mp q) (by omega)) ?_
        refine am_Rn.go (t := am_t130) rfl 3 rfl ⟨trivial, trivial, trivial, trivial⟩ ?_
        refine am_Rn.call (t := am_t130) rfl rfl (mm_of3 sc i (by omega) ..) ?_
        rintro _ _ ⟨rfl, rfl⟩
        refine am_Rn.go (t := am_t130) rfl 2 rfl ⟨trivial, trivial, trivial⟩ ?_
        refine am_Rn.brF hs ?_
        refine am_Rn.go (t := am_t130) rfl 6 rfl ⟨trivial, trivial, trivial, trivial, trivial, trivial, trivial⟩ ?_
        refine am_Rn.call (t := am_t130) rfl rfl (mm_of4 sc i (by omega) ..) ?_
        rintro _ _ ⟨rfl, rfl⟩
        refine am_Rn.go (t := am_t130) rfl 3 rfl ⟨trivial, trivial, trivial, trivial⟩ ?_
        refine am_Rn.call (t := am_t130) rfl rfl (mm_of3 sc i (by omega) ..) ?_
        rintro _ _ ⟨rfl, rfl⟩
        refine am_Rn.go (t := am_t130) rfl 5 rfl ⟨trivial, trivial, trivial, (by first | exact am_inb_lit rfl | exact am_inb_of (by omega) (by omega)), trivial, trivial⟩ ?_
        refine am_Rn.call (t := am_t130) rfl rfl (sx_size ..) ?_
        rintro _ _ ⟨rfl, rfl⟩
        rw [am_size]
        refine am_Rn.go (t := am_t130) rfl 1 rfl ⟨trivial, trivial⟩ ?_
        refine am_Rn.call (t := am_t130) rfl rfl (mm_puts4 sc i (by omega) ..) ?_
        rintro _ _ ⟨rfl, rfl⟩
        refine am_Rn.go (t := am_t130) rfl 6 rfl ⟨trivial, trivial, trivial, trivial, trivial, trivial, trivial⟩ ?_
        refine am_Rn.call (t := am_t130) rfl rfl (mm_of5 sc i (by omega) ..) ?_
        rintro _ _ ⟨rfl, rfl⟩
        refine am_Rn.go (t := am_t130) rfl 2 rfl ⟨trivial, trivial, trivial⟩ ?_
        refine am_Rn.call (t := am_t130) rfl rfl (mm_puts5 sc i (by omega) ..) ?_
        rintro _ _ ⟨rfl, rfl⟩
        refine am_Rn.go (t := am_t130) rfl 4 rfl ⟨trivial, trivial, trivial, trivial, trivial⟩ ?_
        refine am_Rn.call (t := am_t130) rfl rfl (mm_puts3 sc i (by omega) ..) ?_
        rintro _ _ ⟨rfl, rfl⟩
        refine am_Rn.go (t := am_t130) rfl 2 rfl ⟨trivial, trivial, trivial⟩ ?_
        rw [show sp_saidOne pr i X = _ from if_neg hs] at g
        exact g
  have L3 : ∀ (cnt : Nat) (bi : Nat → Int32) (pv : Int32) (co sh bt so : Nat → Int32) (pr : Int32) (x1 : Option Value), am_Rn sc 130 (46, [some (.ref 416), some (.int (Int32.ofNat cnt)), x1], [], B0 :: B1 :: B2 :: B3 :: B4 :: B5 :: B6 :: B7 :: B8 :: B9 :: B10 :: B11 :: B12 :: bkModel tr ty nx tk pl va fa (Int32.ofNat P) dp cm tx (mp_ru nu dn) (mp_ps (mp_q la me tc ts) ps) (mp_s (Int32.ofNat rn) pr pv (sa + Int32.ofNat cnt) pd lo bo co sh se si er of_) sp ke ik bi bt so nr ou ho cl :: Bs) (fun r M' => r = none ∧ M' = B0 :: B1 :: B2 :: B3 :: B4 :: B5 :: B6 :: B7 :: B8 :: B9 :: B10 :: B11 :: B12 :: bkMR tr ty nx tk pl va fa (Int32.ofNat P) dp cm tx (mp_ru nu dn) (mp_ps (mp_q la me tc ts) ps) sp ke ik nr ou ho cl (sp_tail nu P N rn pv sa pd lo bo se si er of_ bi cnt (co, sh, bt, so, pr)) :: Bs) := by
    intro cnt bi pv co sh bt so pr x1
    refine am_Rn.go (t := am_t130) rfl 12 rfl ⟨trivial, trivial, trivial, trivial, trivial, trivial, (by first | exact am_inb_lit rfl | exact am_inb_of (by omega) (by omega)), trivial, trivial, trivial, trivial, (by first | exact am_inb_lit rfl | exact am_inb_of (by omega) (by omega)), trivial⟩ ?_
    show am_Rn sc 130 (58, _, _, B0 :: B1 :: B2 :: B3 :: B4 :: B5 :: B6 :: B7 :: B8 :: B9 :: B10 :: B11 :: B12 :: bkModel tr ty nx tk pl va fa (Int32.ofNat P) dp cm tx (mp_ru nu dn) (mp_ps (mp_q la me tc ts) ps) (upd (mp_s (Int32.ofNat rn) pr pv (sa + Int32.ofNat cnt) pd lo bo co sh se si er of_) 5 (sp_lot lo)) sp ke ik bi bt so nr ou ho cl :: Bs) _
    rw [mp_set5]
    refine am_Rn.go (t := am_t130) rfl 10 rfl ⟨trivial, trivial, trivial, trivial, (by first | exact am_inb_lit rfl | exact am_inb_of (by omega) (by omega)), trivial, trivial, trivial, (by decide), trivial, trivial⟩ ?_
    refine am_Rn.br (fun h1 => ?_) (fun h1 => ?_)
    · skip
      have hd : sp_die nu (sp_lot lo) = nu 1 := if_pos ((am_par (sp_lot lo)).mp h1)
      refine am_Rn.go (t := am_t130) rfl 5 rfl ⟨trivial, trivial, trivial, (by first | exact am_inb_lit rfl | exact am_inb_of (by omega) (by omega)), trivial, trivial⟩ ?_
      refine am_Rn.call (t := am_t130) rfl rfl (mm_pays sc P hP ..) ?_
      rintro _ _ ⟨rfl, rfl⟩
      refine am_Rn.go (t := am_t130) rfl 2 rfl ⟨trivial, trivial, trivial⟩ ?_
      have g := L80 cnt bi pv co sh bt so pr (Int32.ofNat cnt) P 0 (by omega)
      unfold sp_tail at g ⊢
      rw [hd] at g ⊢
      exact g
    · skip
      have hd : sp_die nu (sp_lot lo) = nu 2 := if_neg (fun q => h1 ((am_par (sp_lot lo)).mpr q))
      refine am_Rn.go (t := am_t130) rfl 4 rfl ⟨trivial, trivial, trivial, (by first | exact am_inb_lit rfl | exact am_inb_of (by omega) (by omega)), trivial⟩ ?_
      refine am_Rn.call (t := am_t130) rfl rfl (mm_pays sc P hP ..) ?_
      rintro _ _ ⟨rfl, rfl⟩
      refine am_Rn.go (t := am_t130) rfl 2 rfl ⟨trivial, trivial, trivial⟩ ?_
      have g := L80 cnt bi pv co sh bt so pr (Int32.ofNat cnt) P 0 (by omega)
      unfold sp_tail at g ⊢
      rw [hd] at g ⊢
      exact g
  have L2 : ∀ (bi : Nat → Int32) (pv : Int32) (x2 : Option Value) (k n : Nat) (co sh bt so : Nat → Int32) (pr : Int32), n + k = S → am_Rn sc 130 (35, [some (.ref 416), some (.int (Int32.ofNat n)), x2], [], B0 :: B1 :: B2 :: B3 :: B4 :: B5 :: B6 :: B7 :: B8 :: B9 :: B10 :: B11 :: B12 :: bkModel tr ty nx tk pl va fa (Int32.ofNat P) dp cm tx (mp_ru nu dn) (mp_ps (mp_q la me tc ts) ps) (mp_s (Int32.ofNat rn) pr pv (sa + Int32.ofNat n) pd lo bo co sh se si er of_) sp ke ik bi bt so nr ou ho cl :: Bs) (fun r M' => r = none ∧ M' = B0 :: B1 :: B2 :: B3 :: B4 :: B5 :: B6 :: B7 :: B8 :: B9 :: B10 :: B11 :: B12 :: bkMR tr ty nx tk pl va fa (Int32.ofNat P) dp cm tx (mp_ru nu dn) (mp_ps (mp_q la me tc ts) ps) sp ke ik nr ou ho cl (sp_tail nu P N rn pv sa pd lo bo se si er of_ bi (n + (sp_sells nu bi P k (co, sh, bt, so, pr)).1) (sp_sells nu bi P k (co, sh, bt, so, pr)).2) :: Bs) := by
    intro bi pv x2 k
    induction k with
    | zero =>
      intro n co sh bt so pr hn
      obtain rfl : n = S := by omega
      refine am_Rn.go (t := am_t130) rfl 6 rfl ⟨trivial, trivial, trivial, trivial, (by first | exact am_inb_lit rfl | exact am_inb_of (by omega) (by omega)), trivial, trivial⟩ ?_
      refine am_Rn.brT (by rw [show mp_ru nu dn (Int32.toNatClampNeg 9) = nu 9 from rfl, h9]; exact (am_le (by omega) (by omega)).mpr (Nat.le_refl _)) ?_
      exact L3 n bi pv co sh bt so pr _
    | succ k ih =>
      intro n co sh bt so pr hn
      have hnb : ¬ nu 9 ≤ Int32.ofNat n := fun q => by rw [h9] at q; have := (am_le (by omega) (by omega)).mp q; omega
      rcases hX : sp_sell nu bi P (co, sh, bt, so, pr) with _ | X1
      · have hZ : (sp_sells nu bi P (k + 1) (co, sh, bt, so, pr)) = (0, (co, sh, bt, so, pr)) := by simp only [sp_sells, hX]
        rw [hZ]
        refine am_Rn.go (t := am_t130) rfl 6 rfl ⟨trivial, trivial, trivial, trivial, (by first | exact am_inb_lit rfl | exact am_inb_of (by omega) (by omega)), trivial, trivial⟩ ?_
        refine am_Rn.brF hnb ?_
        refine am_Rn.go (t := am_t130) rfl 1 rfl ⟨trivial, trivial⟩ ?_
        refine am_Rn.call (t := am_t130) rfl rfl (mm_sells sc P hP ..) ?_
        rintro _ _ ⟨rfl, rfl⟩
        rw [hX]
        rw [show am_b ((none : Option sp_S).isSome = true) = 0 from am_bF (by decide), Int32.add_zero]
        refine am_Rn.go (t := am_t130) rfl 1 rfl ⟨trivial, trivial⟩ ?_
        refine am_Rn.brT (by decide) ?_
        exact L3 n bi pv co sh bt so pr _
      · obtain ⟨co1, sh1, bt1, so1, pr1⟩ := X1
        have hZ : (sp_sells nu bi P (k + 1) (co, sh, bt, so, pr)) = ((sp_sells nu bi P k (co1, sh1, bt1, so1, pr1)).1 + 1, (sp_sells nu bi P k (co1, sh1, bt1, so1, pr1)).2) := by simp only [sp_sells, hX]
        rw [hZ]
        refine am_Rn.go (t := am_t130) rfl 6 rfl ⟨trivial, trivial, trivial, trivial, (by first | exact am_inb_lit rfl | exact am_inb_of (by omega) (by omega)), trivial, trivial⟩ ?_
        refine am_Rn.brF hnb ?_
        refine am_Rn.go (t := am_t130) rfl 1 rfl ⟨trivial, trivial⟩ ?_
        refine am_Rn.call (t := am_t130) rfl rfl (mm_sells sc P hP ..) ?_
        rintro _ _ ⟨rfl, rfl⟩
        rw [hX]
        rw [show am_b ((some (co1, sh1, bt1, so1, pr1) : Option sp_S).isSome = true) = 1 from am_bT rfl, Int32.add_assoc, am_inc]
        refine am_Rn.go (t := am_t130) rfl 1 rfl ⟨trivial, trivial⟩ ?_
        refine am_Rn.brF (by decide) ?_
        refine am_Rn.go (t := am_t130) rfl 2 rfl ⟨trivial, trivial, trivial⟩ ?_
        have g := ih (n + 1) co1 sh1 bt1 so1 pr1 (by omega)
        rw [← am_inc, show n + 1 + (sp_sells nu bi P k (co1, sh1, bt1, so1, pr1)).1 = n + ((sp_sells nu bi P k (co1, sh1, bt1, so1, pr1)).1 + 1) by omega] at g
        rw [← am_inc]
        exact g
  have L : ∀ (d i : Nat) (x2 : Option Value), i + d = P → am_Rn sc 130 (2, [some (.ref 416), some (.int (Int32.ofNat i)), x2], [], B0 :: B1 :: B2 :: B3 :: B4 :: B5 :: B6 :: B7 :: B8 :: B9 :: B10 :: B11 :: B12 :: bkModel tr ty nx tk pl va fa (Int32.ofNat P) dp cm tx (mp_ru nu dn) (mp_ps (mp_q la me tc ts) ps) (mp_s (Int32.ofNat rn) pr pv sa pd lo bo co sh se si er of_) sp ke ik (am_fold i (sp_bidOne (sp_val nu la me se (Int32.ofNat rn) pr pv)) (bi, bt, so)).1 (am_fold i (sp_bidOne (sp_val nu la me se (Int32.ofNat rn) pr pv)) (bi, bt, so)).2.1 (am_fold i (sp_bidOne (sp_val nu la me se (Int32.ofNat rn) pr pv)) (bi, bt, so)).2.2 nr ou ho cl :: Bs) (fun r M' => r = none ∧ M' = B0 :: B1 :: B2 :: B3 :: B4 :: B5 :: B6 :: B7 :: B8 :: B9 :: B10 :: B11 :: B12 :: bkMR tr ty nx tk pl va fa (Int32.ofNat P) dp cm tx (mp_ru nu dn) (mp_ps (mp_q la me tc ts) ps) sp ke ik nr ou ho cl (sp_round nu la me P N S rn (Int32.ofNat rn, pr, pv, sa, pd, lo, bo, co, sh, se, si, er, of_, bi, bt, so)) :: Bs) := by
    intro d
    induction d with
    | zero =>
      intro i x2 hi
      have hiP : i = P := by omega
      subst i
      refine am_Rn.go (t := am_t130) rfl 4 rfl ⟨trivial, trivial, trivial, trivial, trivial⟩ ?_
      refine am_Rn.brT (by first | exact (am_le (by omega) (by omega)).mpr (Nat.le_refl _) | exact fun q => absurd ((am_lt (by omega) (by omega)).mp q) (Nat.lt_irrefl _) | exact (am_lt (by omega) (by omega)).mpr (by omega) | decide) ?_
      refine am_Rn.go (t := am_t130) rfl 8 rfl ⟨trivial, trivial, trivial, trivial, trivial, trivial, (by first | exact am_inb_lit rfl | exact am_inb_of (by omega) (by omega)), (by first | exact am_inb_lit rfl | exact am_inb_of (by omega) (by omega)), trivial⟩ ?_
      show am_Rn sc 130 (33, _, _, B0 :: B1 :: B2 :: B3 :: B4 :: B5 :: B6 :: B7 :: B8 :: B9 :: B10 :: B11 :: B12 :: bkModel tr ty nx tk pl va fa (Int32.ofNat P) dp cm tx (mp_ru nu dn) (mp_ps (mp_q la me tc ts) ps) (upd (mp_s (Int32.ofNat rn) pr pv sa pd lo bo co sh se si er of_) 2 pr) sp ke ik (am_fold P (sp_bidOne (sp_val nu la me se (Int32.ofNat rn) pr pv)) (bi, bt, so)).1 (am_fold P (sp_bidOne (sp_val nu la me se (Int32.ofNat rn) pr pv)) (bi, bt, so)).2.1 (am_fold P (sp_bidOne (sp_val nu la me se (Int32.ofNat rn) pr pv)) (bi, bt, so)).2.2 nr ou ho cl :: Bs) _
      rw [mp_set2]
      refine am_Rn.go (t := am_t130) rfl 2 rfl ⟨trivial, trivial, trivial⟩ ?_
      have g := L2 (am_fold P (sp_bidOne (sp_val nu la me se (Int32.ofNat rn) pr pv)) (bi, bt, so)).1 pr x2 S 0 co sh (am_fold P (sp_bidOne (sp_val nu la me se (Int32.ofNat rn) pr pv)) (bi, bt, so)).2.1 (am_fold P (sp_bidOne (sp_val nu la me se (Int32.ofNat rn) pr pv)) (bi, bt, so)).2.2 pr (by omega)
      rw [Nat.zero_add, show sa + Int32.ofNat 0 = sa from Int32.add_zero sa] at g
      exact g
    | succ d ih =>
      intro i x2 hi
      have hiP : i < P := by omega
      have e1 : (Int32.ofNat i).toNatClampNeg = i := am_tn i (by omega)
      have g := ih (i + 1) x2 (by omega)
      rw [am_fold_succ, ← am_inc] at g
      generalize hX : (am_fold i (sp_bidOne (sp_val nu la me se (Int32.ofNat rn) pr pv)) (bi, bt, so)) = X at g ⊢
      refine am_Rn.go (t := am_t130) rfl 4 rfl ⟨trivial, trivial, trivial, trivial, trivial⟩ ?_
      refine am_Rn.brF (by first | exact fun q => absurd ((am_le (by omega) (by omega)).mp q) (by omega) | exact fun q => absurd ((am_le (i := 9) (by omega) (by omega)).mp q) (by omega) | exact fun q => absurd ((am_le (i := 10) (by omega) (by omega)).mp q) (by omega) | exact fun q => absurd ((am_le (i := 80) (by omega) (by omega)).mp q) (by omega) | exact (am_lt (by omega) (by omega)).mpr hiP | exact fun q => absurd ((am_lt (by omega) (by omega)).mp q) (by omega)) ?_
      refine am_Rn.go (t := am_t130) rfl 5 rfl ⟨trivial, trivial, trivial, trivial, trivial, trivial⟩ ?_
      refine am_Rn.call (t := am_t130) rfl rfl (mm_valueOf (q := i) (hq := by omega) (h7 := h7) (hla := hla i hiP) ..) ?_
      rintro _ _ ⟨rfl, rfl⟩
      refine am_Rn.go (t := am_t130) rfl 13 rfl ⟨(by first | exact am_inb_lit rfl | exact am_inb_of (by omega) (by omega)), trivial, trivial, trivial, trivial, (by first | exact am_inb_lit rfl | exact am_inb_of (by omega) (by omega)), trivial, trivial, trivial, trivial, (by first | exact am_inb_lit rfl | exact am_inb_of (by omega) (by omega)), trivial, trivial, trivial⟩ ?_
      rw [e1]
      exact g
  refine am_Rn.go (t := am_t130) rfl 2 rfl ⟨trivial, trivial, trivial⟩ ?_
  exact L P 0 _ (by omega)
