def sp_cut (P : Nat) (f : Nat → Int32) : Nat → Int32 := fun p => if p < P then f p else 0
theorem am_6N (i : Nat) : 6 + Int32.ofNat i = Int32.ofNat (6 + i) := am_addN 6 i
theorem am_inb6N {i : Nat} (h : i < 20) : am_inb (6 + Int32.ofNat i) 80 := by rw [am_6N]; exact am_inb_of (by omega) (by omega)
theorem mp_boardN (rd pr pv sa pd lo : Int32) (bo co sh se si er of_ : Nat → Int32) {i : Nat} (h : i < 20) : mp_s rd pr pv sa pd lo bo co sh se si er of_ (6 + Int32.ofNat i).toNatClampNeg = bo i := by
  rw [am_6N, am_tn _ (by omega)]
  exact mp_board rd pr pv sa pd lo bo co sh se si er of_ h
def sp_cov (n : Nat) (f g : Nat → Int32) : Nat → Int32 := fun j => if j < n then f j else g j
theorem sp_covfold (f g : Nat → Int32) : ∀ n : Nat, am_fold n (fun k h => upd h k (f k)) g = sp_cov n f g := by
  intro n
  induction n with
  | zero =>
    funext j
    exact (if_neg (by omega)).symm
  | succ n ih =>
    rw [am_fold_succ, ih]
    funext j
    unfold sp_cov upd
    by_cases h : j = n
    · rw [if_pos h, if_pos (by omega), h]
    · rw [if_neg h]
      show (if j < n then f j else g j) = _
      by_cases h2 : j < n
      · rw [if_pos h2, if_pos (by omega)]
      · rw [if_neg h2, if_neg (by omega)]
theorem mm_go_T (sc : am_Sc) (P : Nat) (hP : P ≤ 9) (N S : Nat) (hN : N ≤ 20) (nu : Nat → Int32) (h0 : nu 0 = Int32.ofNat N) (hS : S ≤ 9) (h9 : nu 9 = Int32.ofNat S) (h7 : 0 ≤ nu 7) (la : Nat → Int32) (hla : ∀ q, q < P → la q = 0 ∨ la q = 1 ∨ la q = 2 ∨ la q = 3 ∨ la q = 4) (rn G : Nat) (hG : G ≤ 20) (hG1 : 1 ≤ G) (hr : rn < N) (tr : Int64) (ty nx tk pl va fa dp cm : Int32) (tx dn me tc ts ps : Nat → Int32) (pr pv sa pd lo : Int32) (bo co sh se si er of_ sp ke ik bi bt so nr ou ho cl : Nat → Int32) (B0 B1 B2 B3 B4 B5 B6 B7 B8 B9 B10 B11 B12 : List am_E) (Bs : am_M) : am_Rn sc 131 (0, am_entry 131 [.ref 416, .int (Int32.ofNat G)], [], B0 :: B1 :: B2 :: B3 :: B4 :: B5 :: B6 :: B7 :: B8 :: B9 :: B10 :: B11 :: B12 :: bkModel tr ty nx tk pl va fa (Int32.ofNat P) dp cm tx (mp_ru nu dn) (mp_ps (mp_q la me tc ts) ps) (mp_s (Int32.ofNat rn) pr pv sa pd lo bo co sh se si er of_) sp ke ik bi bt so nr ou ho cl :: Bs) (fun r M' => r = some (.int (Int32.ofNat (sp_play nu la me P N S G rn (Int32.ofNat rn, pr, pv, sa, pd, lo, bo, co, sh, se, si, er, of_, bi, bt, so)).1)) ∧ M' = B0 :: B1 :: B2 :: B3 :: B4 :: B5 :: B6 :: B7 :: B8 :: B9 :: B10 :: B11 :: B12 :: bkMR tr ty nx tk pl va fa (Int32.ofNat P) dp cm tx (mp_ru nu dn) (mp_ps (mp_q la me tc ts) ps) sp ke ik nr ou ho cl ((sp_play nu la me P N S G rn (Int32.ofNat rn, pr, pv, sa, pd, lo, bo, co, sh, se, si, er, of_, bi, bt, so)).2) :: Bs) := by
  show am_Rn sc 131 (0, [some (.ref 416), some (.int (Int32.ofNat G)), none], [], _) _
  have L : ∀ (k w rn : Nat) (pr pv sa pd lo : Int32) (bo co sh se si er of_ bi bt so : Nat → Int32), w + k = G → rn ≤ N → am_Rn sc 131 (17, [some (.ref 416), some (.int (Int32.ofNat G)), some (.int (Int32.ofNat w))], [], B0 :: B1 :: B2 :: B3 :: B4 :: B5 :: B6 :: B7 :: B8 :: B9 :: B10 :: B11 :: B12 :: bkModel tr ty nx tk pl va fa (Int32.ofNat P) dp cm tx (mp_ru nu dn) (mp_ps (mp_q la me tc ts) ps) (mp_s (Int32.ofNat rn) pr pv sa pd lo bo co sh se si er of_) sp ke ik bi bt so nr ou ho cl :: Bs) (fun r M' => r = some (.int (Int32.ofNat (w + (sp_play nu la me P N S k rn (Int32.ofNat rn, pr, pv, sa, pd, lo, bo, co, sh, se, si, er, of_, bi, bt, so)).1))) ∧ M' = B0 :: B1 :: B2 :: B3 :: B4 :: B5 :: B6 :: B7 :: B8 :: B9 :: B10 :: B11 :: B12 :: bkMR tr ty nx tk pl va fa (Int32.ofNat P) dp cm tx (mp_ru nu dn) (mp_ps (mp_q la me tc ts) ps) sp ke ik nr ou ho cl ((sp_play nu la me P N S k rn (Int32.ofNat rn, pr, pv, sa, pd, lo, bo, co, sh, se, si, er, of_, bi, bt, so)).2) :: Bs) := by
    intro k
    induction k with
    | zero =>
      intro w rn pr pv sa pd lo bo co sh se si er of_ bi bt so hw hrN
      obtain rfl : w = G := by omega
      refine am_Rn.go (t := am_t131) rfl 3 rfl ⟨trivial, trivial, trivial, trivial⟩ ?_
      refine am_Rn.brT ((am_le (by omega) (by omega)).mpr (Nat.le_refl _)) ?_
      refine am_Rn.go (t := am_t131) rfl 1 rfl ⟨trivial, trivial⟩ ?_
      refine am_Rn.ret (t := am_t131) rfl rfl trivial ?_
      exact ⟨rfl, rfl⟩
    | succ k ih =>
      intro w rn pr pv sa pd lo bo co sh se si er of_ bi bt so hw hrN
      have hw2 : ¬ Int32.ofNat G ≤ Int32.ofNat w := fun q => absurd ((am_le (by omega) (by omega)).mp q) (by omega)
      by_cases hov : N ≤ rn
      · have hZ : sp_play nu la me P N S (k + 1) rn (Int32.ofNat rn, pr, pv, sa, pd, lo, bo, co, sh, se, si, er, of_, bi, bt, so) = (0, (Int32.ofNat rn, pr, pv, sa, pd, lo, bo, co, sh, se, si, er, of_, bi, bt, so)) := if_pos hov
        rw [hZ]
        refine am_Rn.go (t := am_t131) rfl 3 rfl ⟨trivial, trivial, trivial, trivial⟩ ?_
        refine am_Rn.brF hw2 ?_
        refine am_Rn.go (t := am_t131) rfl 1 rfl ⟨trivial, trivial⟩ ?_
        refine am_Rn.call (t := am_t131) rfl rfl (mm_isOver ..) ?_
        rintro _ _ ⟨rfl, rfl⟩
        refine am_Rn.go (t := am_t131) rfl 1 rfl ⟨trivial, trivial⟩ ?_
        refine am_Rn.brF (fun q => absurd (am_b0.mp q) (fun z => z (by rw [h0]; congr 1; omega))) ?_
        refine am_Rn.go (t := am_t131) rfl 1 rfl ⟨trivial, trivial⟩ ?_
        refine am_Rn.ret (t := am_t131) rfl rfl trivial ?_
        exact ⟨rfl, rfl⟩
      · have hZ : sp_play nu la me P N S (k + 1) rn (Int32.ofNat rn, pr, pv, sa, pd, lo, bo, co, sh, se, si, er, of_, bi, bt, so) = ((sp_play nu la me P N S k (rn + 1) (sp_round nu la me P N S rn (Int32.ofNat rn, pr, pv, sa, pd, lo, bo, co, sh, se, si, er, of_, bi, bt, so))).1 + 1, (sp_play nu la me P N S k (rn + 1) (sp_round nu la me P N S rn (Int32.ofNat rn, pr, pv, sa, pd, lo, bo, co, sh, se, si, er, of_, bi, bt, so))).2) := if_neg hov
        rw [hZ]
        have hrd := sp_round_rd nu la me P N S rn (Int32.ofNat rn, pr, pv, sa, pd, lo, bo, co, sh, se, si, er, of_, bi, bt, so)
        refine am_Rn.go (t := am_t131) rfl 3 rfl ⟨trivial, trivial, trivial, trivial⟩ ?_
        refine am_Rn.brF hw2 ?_
        refine am_Rn.go (t := am_t131) rfl 1 rfl ⟨trivial, trivial⟩ ?_
        refine am_Rn.call (t := am_t131) rfl rfl (mm_isOver ..) ?_
        rintro _ _ ⟨rfl, rfl⟩
        refine am_Rn.go (t := am_t131) rfl 1 rfl ⟨trivial, trivial⟩ ?_
        refine am_Rn.brT (am_b0.mpr (fun q => hov (by rw [h0] at q; have := (am_eqi (by omega) (by omega)).mp q; omega))) ?_
        refine am_Rn.go (t := am_t131) rfl 1 rfl ⟨trivial, trivial⟩ ?_
        refine am_Rn.call (t := am_t131) rfl rfl (mm_goesBy sc P hP N S rn hN nu h0 hS h9 h7 (by omega) la hla ..) ?_
        rintro _ _ ⟨rfl, rfl⟩
        refine am_Rn.go (t := am_t131) rfl 2 rfl ⟨trivial, trivial, trivial⟩ ?_
        rcases hR : sp_round nu la me P N S rn (Int32.ofNat rn, pr, pv, sa, pd, lo, bo, co, sh, se, si, er, of_, bi, bt, so) with ⟨rd1, pr1, pv1, sa1, pd1, lo1, bo1, co1, sh1, se1, si1, er1, of1, bi1, bt1, so1⟩
        rw [hR] at hrd
        dsimp only at hrd
        subst hrd
        have g := ih (w + 1) (rn + 1) pr1 pv1 sa1 pd1 lo1 bo1 co1 sh1 se1 si1 er1 of1 bi1 bt1 so1 (by omega) (by omega)
        rw [← am_inc w, show w + 1 + (sp_play nu la me P N S k (rn + 1) (Int32.ofNat (rn + 1), pr1, pv1, sa1, pd1, lo1, bo1, co1, sh1, se1, si1, er1, of1, bi1, bt1, so1)).1 = w + ((sp_play nu la me P N S k (rn + 1) (Int32.ofNat (rn + 1), pr1, pv1, sa1, pd1, lo1, bo1, co1, sh1, se1, si1, er1, of1, bi1, bt1, so1)).1 + 1) by omega] at g
        exact g
  refine am_Rn.go (t := am_t131) rfl 6 rfl ⟨trivial, trivial, trivial, trivial, trivial, trivial, trivial⟩ ?_
  refine am_Rn.call (t := am_t131) rfl rfl (sx_in ..) ?_
  rintro _ _ ⟨rfl, rfl⟩
  refine am_Rn.go (t := am_t131) rfl 1 rfl ⟨trivial, trivial⟩ ?_
  refine am_Rn.brF (fun q => absurd (am_b0.mp q) (fun z => z ⟨(am_le (i := 1) (by omega) (by omega)).mpr (by omega), (am_le (j := 20) (by omega) (by omega)).mpr (by omega)⟩)) ?_
  refine am_Rn.go (t := am_t131) rfl 1 rfl ⟨trivial, trivial⟩ ?_
  refine am_Rn.call (t := am_t131) rfl rfl (mm_isOver ..) ?_
  rintro _ _ ⟨rfl, rfl⟩
  refine am_Rn.go (t := am_t131) rfl 1 rfl ⟨trivial, trivial⟩ ?_
  refine am_Rn.brT (am_b0.mpr (fun q => by rw [h0] at q; have := (am_eqi (by omega) (by omega)).mp q; omega)) ?_
  refine am_Rn.go (t := am_t131) rfl 2 rfl ⟨trivial, trivial, trivial⟩ ?_
  have g := L G 0 rn pr pv sa pd lo bo co sh se si er of_ bi bt so (by omega) (by omega)
  rw [Nat.zero_add] at g
  exact g
theorem mm_anew (sc : am_Sc) (P : Nat) (hP : P ≤ 9) (tr : Int64) (ty nx tk pl va fa dp cm : Int32) (tx nu dn la me tc ts ps : Nat → Int32) (rd pr pv sa pd lo : Int32) (bo co sh se si er of_ sp ke ik bi bt so nr ou ho cl : Nat → Int32) (B0 B1 B2 B3 B4 B5 B6 B7 B8 B9 B10 B11 B12 : List am_E) (Bs : am_M) : am_Rn sc 115 (0, am_entry 115 [.ref 416], [], B0 :: B1 :: B2 :: B3 :: B4 :: B5 :: B6 :: B7 :: B8 :: B9 :: B10 :: B11 :: B12 :: bkModel tr ty nx tk pl va fa (Int32.ofNat P) dp cm tx (mp_ru nu dn) (mp_ps (mp_q la me tc ts) ps) (mp_s rd pr pv sa pd lo bo co sh se si er of_) sp ke ik bi bt so nr ou ho cl :: Bs) (fun r M' => r = none ∧ M' = B0 :: B1 :: B2 :: B3 :: B4 :: B5 :: B6 :: B7 :: B8 :: B9 :: B10 :: B11 :: B12 :: bkModel tr ty nx tk pl va fa (Int32.ofNat P) dp cm tx (mp_ru nu dn) (mp_ps (mp_q la me tc ts) ps) (mp_s 0 (nu 4) (nu 4) 0 0 lo bo (am_fold 9 (sp_begOne (sp_cut P tc) (sp_cut P ts)) (co, sh, si)).1 (am_fold 9 (sp_begOne (sp_cut P tc) (sp_cut P ts)) (co, sh, si)).2.1 se (am_fold 9 (sp_begOne (sp_cut P tc) (sp_cut P ts)) (co, sh, si)).2.2 er of_) sp ke ik bi bt so nr ou ho cl :: Bs) := by
  show am_Rn sc 115 (0, [some (.ref 416), none], [], _) _
  have L : ∀ (d i : Nat), i + d = 9 → am_Rn sc 115 (33, [some (.ref 416), some (.int (Int32.ofNat i))], [], B0 :: B1 :: B2 :: B3 :: B4 :: B5 :: B6 :: B7 :: B8 :: B9 :: B10 :: B11 :: B12 :: bkModel tr ty nx tk pl va fa (Int32.ofNat P) dp cm tx (mp_ru nu dn) (mp_ps (mp_q la me tc ts) ps) (mp_s 0 (nu 4) (nu 4) 0 0 lo bo (am_fold i (sp_begOne (sp_cut P tc) (sp_cut P ts)) (co, sh, si)).1 (am_fold i (sp_begOne (sp_cut P tc) (sp_cut P ts)) (co, sh, si)).2.1 se (am_fold i (sp_begOne (sp_cut P tc) (sp_cut P ts)) (co, sh, si)).2.2 er of_) sp ke ik bi bt so nr ou ho cl :: Bs) (fun r M' => r = none ∧ M' = B0 :: B1 :: B2 :: B3 :: B4 :: B5 :: B6 :: B7 :: B8 :: B9 :: B10 :: B11 :: B12 :: bkModel tr ty nx tk pl va fa (Int32.ofNat P) dp cm tx (mp_ru nu dn) (mp_ps (mp_q la me tc ts) ps) (mp_s 0 (nu 4) (nu 4) 0 0 lo bo (am_fold 9 (sp_begOne (sp_cut P tc) (sp_cut P ts)) (co, sh, si)).1 (am_fold 9 (sp_begOne (sp_cut P tc) (sp_cut P ts)) (co, sh, si)).2.1 se (am_fold 9 (sp_begOne (sp_cut P tc) (sp_cut P ts)) (co, sh, si)).2.2 er of_) sp ke ik bi bt so nr ou ho cl :: Bs) := by
    intro d
    induction d with
    | zero =>
      intro i  hi
      have hiP : i = 9 := by omega
      subst i
      refine am_Rn.go (t := am_t115) rfl 3 rfl ⟨trivial, trivial, trivial, trivial⟩ ?_
      refine am_Rn.brT (by first | exact (am_le (by omega) (by omega)).mpr (Nat.le_refl _) | exact fun q => absurd ((am_lt (by omega) (by omega)).mp q) (Nat.lt_irrefl _) | exact (am_lt (by omega) (by omega)).mpr (by omega) | decide) ?_
      refine am_Rn.ret (t := am_t115) rfl rfl trivial ?_
      exact ⟨rfl, rfl⟩
    | succ d ih =>
      intro i  hi
      have hiP : i < 9 := by omega
      have e1 : (Int32.ofNat i).toNatClampNeg = i := am_tn i (by omega)
      have g := ih (i + 1) (by omega)
      rw [am_fold_succ, ← am_inc] at g
      generalize hX : (am_fold i (sp_begOne (sp_cut P tc) (sp_cut P ts)) (co, sh, si)) = X at g ⊢
      rcases Classical.em (i < P) with hp | hp
      · skip
        have eC : sp_begOne (sp_cut P tc) (sp_cut P ts) i X = (upd X.1 i (mp_ps (mp_q la me tc ts) ps (4 * Int32.ofNat i + 2).toNatClampNeg), upd X.2.1 i (mp_ps (mp_q la me tc ts) ps (4 * Int32.ofNat i + 3).toNatClampNeg), upd X.2.2 i (-9)) := by
          have e2 : mp_ps (mp_q la me tc ts) ps (4 * Int32.ofNat i + 2).toNatClampNeg = tc i := by
            show mp_ps (mp_q la me tc ts) ps (4 * Int32.ofNat i + Int32.ofNat 2).toNatClampNeg = tc i
            rw [am_tn4 (by omega) (by omega), mp_pers _ _ _ _ _ (by omega) (by omega)]
            rfl
          have e3 : mp_ps (mp_q la me tc ts) ps (4 * Int32.ofNat i + 3).toNatClampNeg = ts i := by
            show mp_ps (mp_q la me tc ts) ps (4 * Int32.ofNat i + Int32.ofNat 3).toNatClampNeg = ts i
            rw [am_tn4 (by omega) (by omega), mp_pers _ _ _ _ _ (by omega) (by omega)]
            rfl
          unfold sp_begOne
          rw [e2, e3, show sp_cut P tc i = tc i from if_pos hp, show sp_cut P ts i = ts i from if_pos hp]
        rw [eC] at g
        refine am_Rn.go (t := am_t115) rfl 3 rfl ⟨trivial, trivial, trivial, trivial⟩ ?_
        refine am_Rn.brF (by first | exact fun q => absurd ((am_le (by omega) (by omega)).mp q) (by omega) | exact fun q => absurd ((am_le (i := 9) (by omega) (by omega)).mp q) (by omega) | exact fun q => absurd ((am_le (i := 10) (by omega) (by omega)).mp q) (by omega) | exact fun q => absurd ((am_le (i := 80) (by omega) (by omega)).mp q) (by omega) | exact (am_lt (by omega) (by omega)).mpr hiP | exact fun q => absurd ((am_lt (by omega) (by omega)).mp q) (by omega)) ?_
        refine am_Rn.go (t := am_t115) rfl 7 rfl ⟨trivial, trivial, trivial, trivial, trivial, trivial, trivial, trivial⟩ ?_
        refine am_Rn.brF (fun q => absurd ((am_le (by omega) (by omega)).mp q) (by omega)) ?_
        refine am_Rn.go (t := am_t115) rfl 9 rfl ⟨trivial, trivial, trivial, trivial, trivial, trivial, trivial, (by exact am_inb4 (k := 2) (by omega) (by omega)), trivial, trivial⟩ ?_
        refine am_Rn.call (t := am_t115) rfl rfl (mm_puts0 sc i (by omega) ..) ?_
        rintro _ _ ⟨rfl, rfl⟩
        refine am_Rn.go (t := am_t115) rfl 7 rfl ⟨trivial, trivial, trivial, trivial, trivial, trivial, trivial, trivial⟩ ?_
        refine am_Rn.brF (fun q => absurd ((am_le (by omega) (by omega)).mp q) (by omega)) ?_
        refine am_Rn.go (t := am_t115) rfl 9 rfl ⟨trivial, trivial, trivial, trivial, trivial, trivial, trivial, (by exact am_inb4 (k := 3) (by omega) (by omega)), trivial, trivial⟩ ?_
        refine am_Rn.call (t := am_t115) rfl rfl (mm_puts1 sc i (by omega) ..) ?_
        rintro _ _ ⟨rfl, rfl⟩
        refine am_Rn.go (t := am_t115) rfl 4 rfl ⟨trivial, trivial, trivial, trivial, trivial⟩ ?_
        refine am_Rn.call (t := am_t115) rfl rfl (mm_puts3 sc i (by omega) ..) ?_
        rintro _ _ ⟨rfl, rfl⟩
        refine am_Rn.go (t := am_t115) rfl 2 rfl ⟨trivial, trivial, trivial⟩ ?_
        exact g
      · skip
        have eC : sp_begOne (sp_cut P tc) (sp_cut P ts) i X = (upd X.1 i 0, upd X.2.1 i 0, upd X.2.2 i (-9)) := by
          unfold sp_begOne
          rw [show sp_cut P tc i = 0 from if_neg hp, show sp_cut P ts i = 0 from if_neg hp]
        rw [eC] at g
        refine am_Rn.go (t := am_t115) rfl 3 rfl ⟨trivial, trivial, trivial, trivial⟩ ?_
        refine am_Rn.brF (by first | exact fun q => absurd ((am_le (by omega) (by omega)).mp q) (by omega) | exact fun q => absurd ((am_le (i := 9) (by omega) (by omega)).mp q) (by omega) | exact fun q => absurd ((am_le (i := 10) (by omega) (by omega)).mp q) (by omega) | exact fun q => absurd ((am_le (i := 80) (by omega) (by omega)).mp q) (by omega) | exact (am_lt (by omega) (by omega)).mpr hiP | exact fun q => absurd ((am_lt (by omega) (by omega)).mp q) (by omega)) ?_
        refine am_Rn.go (t := am_t115) rfl 7 rfl ⟨trivial, trivial, trivial, trivial, trivial, trivial, trivial, trivial⟩ ?_
        refine am_Rn.brT ((am_le (by omega) (by omega)).mpr (by omega)) ?_
        refine am_Rn.go (t := am_t115) rfl 1 rfl ⟨trivial, trivial⟩ ?_
        refine am_Rn.call (t := am_t115) rfl rfl (mm_puts0 sc i (by omega) ..) ?_
        rintro _ _ ⟨rfl, rfl⟩
        refine am_Rn.go (t := am_t115) rfl 7 rfl ⟨trivial, trivial, trivial, trivial, trivial, trivial, trivial, trivial⟩ ?_
        refine am_Rn.brT ((am_le (by omega) (by omega)).mpr (by omega)) ?_
        refine am_Rn.go (t := am_t115) rfl 1 rfl ⟨trivial, trivial⟩ ?_
        refine am_Rn.call (t := am_t115) rfl rfl (mm_puts1 sc i (by omega) ..) ?_
        rintro _ _ ⟨rfl, rfl⟩
        refine am_Rn.go (t := am_t115) rfl 4 rfl ⟨trivial, trivial, trivial, trivial, trivial⟩ ?_
        refine am_Rn.call (t := am_t115) rfl rfl (mm_puts3 sc i (by omega) ..) ?_
        rintro _ _ ⟨rfl, rfl⟩
        refine am_Rn.go (t := am_t115) rfl 2 rfl ⟨trivial, trivial, trivial⟩ ?_
        exact g
  refine am_Rn.go (t := am_t115) rfl 5 rfl ⟨trivial, trivial, trivial, trivial, (by first | exact am_inb_lit rfl | exact am_inb_of (by omega) (by omega)), trivial⟩ ?_
  show am_Rn sc 115 (5, _, _, B0 :: B1 :: B2 :: B3 :: B4 :: B5 :: B6 :: B7 :: B8 :: B9 :: B10 :: B11 :: B12 :: bkModel tr ty nx tk pl va fa (Int32.ofNat P) dp cm tx (mp_ru nu dn) (mp_ps (mp_q la me tc ts) ps) (upd (mp_s rd pr pv sa pd lo bo co sh se si er of_) 0 0) sp ke ik bi bt so nr ou ho cl :: Bs) _
  rw [mp_set0]
  refine am_Rn.go (t := am_t115) rfl 8 rfl ⟨trivial, trivial, trivial, trivial, trivial, trivial, (by first | exact am_inb_lit rfl | exact am_inb_of (by omega) (by omega)), (by first | exact am_inb_lit rfl | exact am_inb_of (by omega) (by omega)), trivial⟩ ?_
  show am_Rn sc 115 (13, _, _, B0 :: B1 :: B2 :: B3 :: B4 :: B5 :: B6 :: B7 :: B8 :: B9 :: B10 :: B11 :: B12 :: bkModel tr ty nx tk pl va fa (Int32.ofNat P) dp cm tx (mp_ru nu dn) (mp_ps (mp_q la me tc ts) ps) (upd (mp_s 0 pr pv sa pd lo bo co sh se si er of_) 1 (nu 4)) sp ke ik bi bt so nr ou ho cl :: Bs) _
  rw [mp_set1]
  refine am_Rn.go (t := am_t115) rfl 8 rfl ⟨trivial, trivial, trivial, trivial, trivial, trivial, (by first | exact am_inb_lit rfl | exact am_inb_of (by omega) (by omega)), (by first | exact am_inb_lit rfl | exact am_inb_of (by omega) (by omega)), trivial⟩ ?_
  show am_Rn sc 115 (21, _, _, B0 :: B1 :: B2 :: B3 :: B4 :: B5 :: B6 :: B7 :: B8 :: B9 :: B10 :: B11 :: B12 :: bkModel tr ty nx tk pl va fa (Int32.ofNat P) dp cm tx (mp_ru nu dn) (mp_ps (mp_q la me tc ts) ps) (upd (mp_s 0 (nu 4) pv sa pd lo bo co sh se si er of_) 2 (nu 4)) sp ke ik bi bt so nr ou ho cl :: Bs) _
  rw [mp_set2]
  refine am_Rn.go (t := am_t115) rfl 5 rfl ⟨trivial, trivial, trivial, trivial, (by first | exact am_inb_lit rfl | exact am_inb_of (by omega) (by omega)), trivial⟩ ?_
  show am_Rn sc 115 (26, _, _, B0 :: B1 :: B2 :: B3 :: B4 :: B5 :: B6 :: B7 :: B8 :: B9 :: B10 :: B11 :: B12 :: bkModel tr ty nx tk pl va fa (Int32.ofNat P) dp cm tx (mp_ru nu dn) (mp_ps (mp_q la me tc ts) ps) (upd (mp_s 0 (nu 4) (nu 4) sa pd lo bo co sh se si er of_) 3 0) sp ke ik bi bt so nr ou ho cl :: Bs) _
  rw [mp_set3]
  refine am_Rn.go (t := am_t115) rfl 5 rfl ⟨trivial, trivial, trivial, trivial, (by first | exact am_inb_lit rfl | exact am_inb_of (by omega) (by omega)), trivial⟩ ?_
  show am_Rn sc 115 (31, _, _, B0 :: B1 :: B2 :: B3 :: B4 :: B5 :: B6 :: B7 :: B8 :: B9 :: B10 :: B11 :: B12 :: bkModel tr ty nx tk pl va fa (Int32.ofNat P) dp cm tx (mp_ru nu dn) (mp_ps (mp_q la me tc ts) ps) (upd (mp_s 0 (nu 4) (nu 4) 0 pd lo bo co sh se si er of_) 4 0) sp ke ik bi bt so nr ou ho cl :: Bs) _
  rw [mp_set4]
  refine am_Rn.go (t := am_t115) rfl 2 rfl ⟨trivial, trivial, trivial⟩ ?_
  exact L 9 0 (by omega)
theorem mm_plays (sc : am_Sc) (P : Nat) (hP : P ≤ 9) (N S : Nat) (hN : N ≤ 20) (nu : Nat → Int32) (h0 : nu 0 = Int32.ofNat N) (hS : S ≤ 9) (h9 : nu 9 = Int32.ofNat S) (h7 : 0 ≤ nu 7) (la : Nat → Int32) (hla : ∀ q, q < P → la q = 0 ∨ la q = 1 ∨ la q = 2 ∨ la q = 3 ∨ la q = 4) (tr : Int64) (ty nx tk pl va fa dp cm : Int32) (tx dn me tc ts ps : Nat → Int32) (rd pr pv sa pd lo : Int32) (bo co sh se si er of_ sp ke ik bi bt so nr ou ho cl : Nat → Int32) (B0 B1 B2 B3 B4 B5 B6 B7 B8 B9 B10 B11 B12 : List am_E) (Bs : am_M) : am_Rn sc 142 (0, am_entry 142 [.ref 416], [], B0 :: B1 :: B2 :: B3 :: B4 :: B5 :: B6 :: B7 :: B8 :: B9 :: B10 :: B11 :: B12 :: bkModel tr ty nx tk pl va fa (Int32.ofNat P) dp cm tx (mp_ru nu dn) (mp_ps (mp_q la me tc ts) ps) (mp_s rd pr pv sa pd lo bo co sh se si er of_) sp ke ik bi bt so nr ou ho cl :: Bs) (fun r M' => r = none ∧ M' = B0 :: B1 :: B2 :: B3 :: B4 :: B5 :: B6 :: B7 :: B8 :: B9 :: B10 :: B11 :: B12 :: bkMR tr ty nx tk pl va fa (Int32.ofNat P) dp cm tx (mp_ru nu dn) (mp_ps (mp_q la me tc ts) ps) sp ke ik nr ou ho cl ((sp_play nu la me P N S 20 0 (Int32.ofNat 0, nu 4, nu 4, 0, 0, lo, bo, (am_fold 9 (sp_begOne (sp_cut P tc) (sp_cut P ts)) (co, sh, si)).1, (am_fold 9 (sp_begOne (sp_cut P tc) (sp_cut P ts)) (co, sh, si)).2.1, se, (am_fold 9 (sp_begOne (sp_cut P tc) (sp_cut P ts)) (co, sh, si)).2.2, er, of_, bi, bt, so)).2) :: Bs) := by
  show am_Rn sc 142 (0, [some (.ref 416)], [], _) _
  have L : ∀ (k rn : Nat) (pr pv sa pd lo : Int32) (bo co sh se si er of_ bi bt so : Nat → Int32), N ≤ rn + k → rn ≤ N → am_Rn sc 142 (2, [some (.ref 416)], [], B0 :: B1 :: B2 :: B3 :: B4 :: B5 :: B6 :: B7 :: B8 :: B9 :: B10 :: B11 :: B12 :: bkModel tr ty nx tk pl va fa (Int32.ofNat P) dp cm tx (mp_ru nu dn) (mp_ps (mp_q la me tc ts) ps) (mp_s (Int32.ofNat rn) pr pv sa pd lo bo co sh se si er of_) sp ke ik bi bt so nr ou ho cl :: Bs) (fun r M' => r = none ∧ M' = B0 :: B1 :: B2 :: B3 :: B4 :: B5 :: B6 :: B7 :: B8 :: B9 :: B10 :: B11 :: B12 :: bkMR tr ty nx tk pl va fa (Int32.ofNat P) dp cm tx (mp_ru nu dn) (mp_ps (mp_q la me tc ts) ps) sp ke ik nr ou ho cl ((sp_play nu la me P N S k rn (Int32.ofNat rn, pr, pv, sa, pd, lo, bo, co, sh, se, si, er, of_, bi, bt, so)).2) :: Bs) := by
    intro k
    induction k with
    | zero =>
      intro rn pr pv sa pd lo bo co sh se si er of_ bi bt so hw hrN
      have hov : N ≤ rn := by omega
      refine am_Rn.go (t := am_t142) rfl 1 rfl ⟨trivial, trivial⟩ ?_
      refine am_Rn.call (t := am_t142) rfl rfl (mm_isOver ..) ?_
      rintro _ _ ⟨rfl, rfl⟩
      refine am_Rn.go (t := am_t142) rfl 1 rfl ⟨trivial, trivial⟩ ?_
      refine am_Rn.brF (fun q => absurd (am_b0.mp q) (fun z => z (by rw [h0]; congr 1; omega))) ?_
      refine am_Rn.ret (t := am_t142) rfl rfl trivial ?_
      exact ⟨rfl, rfl⟩
    | succ k ih =>
      intro rn pr pv sa pd lo bo co sh se si er of_ bi bt so hw hrN
      by_cases hov : N ≤ rn
      · have hZ : sp_play nu la me P N S (k + 1) rn (Int32.ofNat rn, pr, pv, sa, pd, lo, bo, co, sh, se, si, er, of_, bi, bt, so) = (0, (Int32.ofNat rn, pr, pv, sa, pd, lo, bo, co, sh, se, si, er, of_, bi, bt, so)) := if_pos hov
        rw [hZ]
        refine am_Rn.go (t := am_t142) rfl 1 rfl ⟨trivial, trivial⟩ ?_
        refine am_Rn.call (t := am_t142) rfl rfl (mm_isOver ..) ?_
        rintro _ _ ⟨rfl, rfl⟩
        refine am_Rn.go (t := am_t142) rfl 1 rfl ⟨trivial, trivial⟩ ?_
        refine am_Rn.brF (fun q => absurd (am_b0.mp q) (fun z => z (by rw [h0]; congr 1; omega))) ?_
        refine am_Rn.ret (t := am_t142) rfl rfl trivial ?_
        exact ⟨rfl, rfl⟩
      · have hZ : sp_play nu la me P N S (k + 1) rn (Int32.ofNat rn, pr, pv, sa, pd, lo, bo, co, sh, se, si, er, of_, bi, bt, so) = ((sp_play nu la me P N S k (rn + 1) (sp_round nu la me P N S rn (Int32.ofNat rn, pr, pv, sa, pd, lo, bo, co, sh, se, si, er, of_, bi, bt, so))).1 + 1, (sp_play nu la me P N S k (rn + 1) (sp_round nu la me P N S rn (Int32.ofNat rn, pr, pv, sa, pd, lo, bo, co, sh, se, si, er, of_, bi, bt, so))).2) := if_neg hov
        rw [hZ]
        have hrd := sp_round_rd nu la me P N S rn (Int32.ofNat rn, pr, pv, sa, pd, lo, bo, co, sh, se, si, er, of_, bi, bt, so)
        refine am_Rn.go (t := am_t142) rfl 1 rfl ⟨trivial, trivial⟩ ?_
        refine am_Rn.call (t := am_t142) rfl rfl (mm_isOver ..) ?_
        rintro _ _ ⟨rfl, rfl⟩
        refine am_Rn.go (t := am_t142) rfl 1 rfl ⟨trivial, trivial⟩ ?_
        refine am_Rn.brT (am_b0.mpr (fun q => hov (by rw [h0] at q; have := (am_eqi (by omega) (by omega)).mp q; omega))) ?_
        refine am_Rn.go (t := am_t142) rfl 1 rfl ⟨trivial, trivial⟩ ?_
        refine am_Rn.call (t := am_t142) rfl rfl (mm_goesBy sc P hP N S rn hN nu h0 hS h9 h7 (by omega) la hla ..) ?_
        rintro _ _ ⟨rfl, rfl⟩
        refine am_Rn.go (t := am_t142) rfl 1 rfl ⟨trivial, trivial⟩ ?_
        rcases hR : sp_round nu la me P N S rn (Int32.ofNat rn, pr, pv, sa, pd, lo, bo, co, sh, se, si, er, of_, bi, bt, so) with ⟨rd1, pr1, pv1, sa1, pd1, lo1, bo1, co1, sh1, se1, si1, er1, of1, bi1, bt1, so1⟩
        rw [hR] at hrd
        dsimp only at hrd
        subst hrd
        exact ih (rn + 1) pr1 pv1 sa1 pd1 lo1 bo1 co1 sh1 se1 si1 er1 of1 bi1 bt1 so1 (by omega) (by omega)
  refine am_Rn.go (t := am_t142) rfl 1 rfl ⟨trivial, trivial⟩ ?_
  refine am_Rn.call (t := am_t142) rfl rfl (mm_anew sc P hP ..) ?_
  rintro _ _ ⟨rfl, rfl⟩
  exact L 20 0 (nu 4) (nu 4) 0 0 lo bo (am_fold 9 (sp_begOne (sp_cut P tc) (sp_cut P ts)) (co, sh, si)).1 (am_fold 9 (sp_begOne (sp_cut P tc) (sp_cut P ts)) (co, sh, si)).2.1 se (am_fold 9 (sp_begOne (sp_cut P tc) (sp_cut P ts)) (co, sh, si)).2.2 er of_ bi bt so (by omega) (by omega)
