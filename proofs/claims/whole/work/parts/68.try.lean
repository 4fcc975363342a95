theorem mp_s80 (rd pr pv sa pd lo : Int32) (bo co sh se si er of_ : Nat → Int32) {j : Nat} (h : ¬ j < 80) : mp_s rd pr pv sa pd lo bo co sh se si er of_ j = 0 := by
  unfold mp_s
  rw [if_neg (by omega), if_neg (by omega), if_neg (by omega)]
theorem mp_scov (rd pr pv sa pd lo : Int32) (bo co sh se si er of_ sp : Nat → Int32) (rd2 pr2 pv2 sa2 pd2 lo2 : Int32) (bo2 co2 sh2 se2 si2 er2 of2 : Nat → Int32) : sp_cov 80 (sp_cov 80 (mp_s rd pr pv sa pd lo bo co sh se si er of_) sp) (mp_s rd2 pr2 pv2 sa2 pd2 lo2 bo2 co2 sh2 se2 si2 er2 of2) = mp_s rd pr pv sa pd lo bo co sh se si er of_ := by
  funext j
  by_cases h : j < 80
  · have e1 : sp_cov 80 (sp_cov 80 (mp_s rd pr pv sa pd lo bo co sh se si er of_) sp) (mp_s rd2 pr2 pv2 sa2 pd2 lo2 bo2 co2 sh2 se2 si2 er2 of2) j = sp_cov 80 (mp_s rd pr pv sa pd lo bo co sh se si er of_) sp j := if_pos h
    rw [e1]
    exact if_pos h
  · have e1 : sp_cov 80 (sp_cov 80 (mp_s rd pr pv sa pd lo bo co sh se si er of_) sp) (mp_s rd2 pr2 pv2 sa2 pd2 lo2 bo2 co2 sh2 se2 si2 er2 of2) j = mp_s rd2 pr2 pv2 sa2 pd2 lo2 bo2 co2 sh2 se2 si2 er2 of2 j := if_neg h
    rw [e1, mp_s80 _ _ _ _ _ _ _ _ _ _ _ _ _ h, mp_s80 _ _ _ _ _ _ _ _ _ _ _ _ _ h]
set_option maxHeartbeats 1000000 in
theorem mm_revive_T (sc : am_Sc) (P : Nat) (hP : P ≤ 9) (N S : Nat) (hN : N ≤ 20) (nu : Nat → Int32) (h0 : nu 0 = Int32.ofNat N) (hS : S ≤ 9) (h9 : nu 9 = Int32.ofNat S) (h7 : 0 ≤ nu 7) (la : Nat → Int32) (hla : ∀ q, q < P → la q = 0 ∨ la q = 1 ∨ la q = 2 ∨ la q = 3 ∨ la q = 4) (x0 : Int32) (hx : 0 ≤ x0 ∧ x0 ≤ 999) (tr : Int64) (ty nx tk pl va fa dp cm : Int32) (tx dn me tc ts ps : Nat → Int32) (rd pr pv sa pd lo : Int32) (bo co sh se si er of_ sp ke ik bi bt so nr ou ho cl : Nat → Int32) (B0 B1 B2 B3 B4 B5 B6 B7 B8 B9 B10 B11 B12 : List am_E) (Bs : am_M) : am_Rn sc 143 (0, am_entry 143 [.ref 416, .int x0], [], B0 :: B1 :: B2 :: B3 :: B4 :: B5 :: B6 :: B7 :: B8 :: B9 :: B10 :: B11 :: B12 :: bkModel tr ty nx tk pl va fa (Int32.ofNat P) dp cm tx (mp_ru nu dn) (mp_ps (mp_q la me tc ts) ps) (mp_s rd pr pv sa pd lo bo co sh se si er of_) sp ke ik bi bt so nr ou ho cl :: Bs) (fun r M' => r = some (.int (sp_revF (fun k => sp_peak (sp_bo (sp_try nu la me tc ts P N S lo bo se er of_ k)) N) x0 (P + 1) 0)) ∧ ∃ sp bi bt so, M' = B0 :: B1 :: B2 :: B3 :: B4 :: B5 :: B6 :: B7 :: B8 :: B9 :: B10 :: B11 :: B12 :: bkModel tr ty nx tk pl va fa (Int32.ofNat P) dp cm tx (mp_ru nu dn) (mp_ps (mp_q la me tc ts) ps) (mp_s rd pr pv sa pd lo bo co sh se si er of_) sp ke ik bi bt so nr ou ho cl :: Bs) := by
  show am_Rn sc 143 (0, [some (.ref 416), some (.int x0), none, none, none], [], _) _
  have hb := sp_beg_spec (sp_cut P tc) (sp_cut P ts) (co, sh, si) 9
  have LE : ∀ (i : Nat) (x4 : Option Value) (sp bi bt so : Nat → Int32), i ≤ P → am_Rn sc 143 (14, [some (.ref 416), some (.int x0), some (.int (Int32.ofNat i)), some (.int (Int32.ofNat (i + 1))), x4], [], B0 :: B1 :: B2 :: B3 :: B4 :: B5 :: B6 :: B7 :: B8 :: B9 :: B10 :: B11 :: B12 :: bkModel tr ty nx tk pl va fa (Int32.ofNat P) dp cm tx (mp_ru nu dn) (mp_ps (mp_q la me tc ts) ps) (mp_s rd pr pv sa pd lo bo co sh se si er of_) sp ke ik bi bt so nr ou ho cl :: Bs) (fun r M' => r = some (.int (Int32.ofNat i)) ∧ ∃ sp bi bt so, M' = B0 :: B1 :: B2 :: B3 :: B4 :: B5 :: B6 :: B7 :: B8 :: B9 :: B10 :: B11 :: B12 :: bkModel tr ty nx tk pl va fa (Int32.ofNat P) dp cm tx (mp_ru nu dn) (mp_ps (mp_q la me tc ts) ps) (mp_s rd pr pv sa pd lo bo co sh se si er of_) sp ke ik bi bt so nr ou ho cl :: Bs) := by
    intro i x4 sp bi bt so hi
    rcases Classical.em (P < i + 1) with h1 | h1
    · skip
      refine am_Rn.go (t := am_t143) rfl 4 rfl ⟨trivial, trivial, trivial, trivial, trivial⟩ ?_
      refine am_Rn.brT ((am_lt (by omega) (by omega)).mpr h1) ?_
      refine am_Rn.go (t := am_t143) rfl 1 rfl ⟨trivial, trivial⟩ ?_
      refine am_Rn.ret (t := am_t143) rfl rfl trivial ?_
      exact ⟨rfl, _, _, _, _, rfl⟩
    · skip
      refine am_Rn.go (t := am_t143) rfl 4 rfl ⟨trivial, trivial, trivial, trivial, trivial⟩ ?_
      refine am_Rn.brF (fun q => h1 ((am_lt (by omega) (by omega)).mp q)) ?_
      refine am_Rn.go (t := am_t143) rfl 3 rfl ⟨trivial, trivial, trivial, trivial⟩ ?_
      refine am_Rn.brF (fun z : Int32.ofNat i = -9 => by have := congrArg Int32.toInt z; rw [am_ofN i (by omega)] at this; rw [show (-9 : Int32).toInt = -9 from rfl] at this; omega) ?_
      refine am_Rn.go (t := am_t143) rfl 1 rfl ⟨trivial, trivial⟩ ?_
      refine am_Rn.ret (t := am_t143) rfl rfl trivial ?_
      exact ⟨rfl, _, _, _, _, rfl⟩
  have L : ∀ (d i : Nat) (x4 : Option Value) (sp bi bt so : Nat → Int32), i + d = P + 1 → am_Rn sc 143 (14, [some (.ref 416), some (.int x0), some (.int (-9)), some (.int (Int32.ofNat i)), x4], [], B0 :: B1 :: B2 :: B3 :: B4 :: B5 :: B6 :: B7 :: B8 :: B9 :: B10 :: B11 :: B12 :: bkModel tr ty nx tk pl va fa (Int32.ofNat P) dp cm tx (mp_ru nu dn) (mp_ps (mp_q la me tc ts) ps) (mp_s rd pr pv sa pd lo bo co sh se si er of_) sp ke ik bi bt so nr ou ho cl :: Bs) (fun r M' => r = some (.int (sp_revF (fun k => sp_peak (sp_bo (sp_try nu la me tc ts P N S lo bo se er of_ k)) N) x0 d i)) ∧ ∃ sp bi bt so, M' = B0 :: B1 :: B2 :: B3 :: B4 :: B5 :: B6 :: B7 :: B8 :: B9 :: B10 :: B11 :: B12 :: bkModel tr ty nx tk pl va fa (Int32.ofNat P) dp cm tx (mp_ru nu dn) (mp_ps (mp_q la me tc ts) ps) (mp_s rd pr pv sa pd lo bo co sh se si er of_) sp ke ik bi bt so nr ou ho cl :: Bs) := by
    intro d
    induction d with
    | zero =>
      intro i x4 sp bi bt so hi
      have hiP : i = P + 1 := by omega
      subst i
      refine am_Rn.go (t := am_t143) rfl 4 rfl ⟨trivial, trivial, trivial, trivial, trivial⟩ ?_
      refine am_Rn.brT ((am_lt (by omega) (by omega)).mpr (by omega)) ?_
      refine am_Rn.go (t := am_t143) rfl 1 rfl ⟨trivial, trivial⟩ ?_
      refine am_Rn.ret (t := am_t143) rfl rfl trivial ?_
      exact ⟨rfl, _, _, _, _, rfl⟩
    | succ d ih =>
      intro i x4 sp bi bt so hi
      have hgt : ¬ Int32.ofNat P < Int32.ofNat i := fun q => absurd ((am_lt (by omega) (by omega)).mp q) (by omega)
      have LZ : ∀ (K : Option Value → am_M → Prop), am_Rn sc 143 (36, [some (.ref 416), some (.int x0), some (.int (-9)), some (.int (Int32.ofNat i)), some (.int (Int32.ofNat i))], [], B0 :: B1 :: B2 :: B3 :: B4 :: B5 :: B6 :: B7 :: B8 :: B9 :: B10 :: B11 :: B12 :: bkModel tr ty nx tk pl va fa (Int32.ofNat P) dp cm tx (mp_ru nu dn) (mp_ps (mp_q la me tc ts) ps) (mp_s rd pr pv sa pd lo bo co sh (am_fold i sp_zeroOne se) si er of_) (sp_cov 80 (mp_s rd pr pv sa pd lo bo co sh se si er of_) sp) ke ik bi bt so nr ou ho cl :: Bs) K → ∀ (e j : Nat), j + e = i → am_Rn sc 143 (26, [some (.ref 416), some (.int x0), some (.int (-9)), some (.int (Int32.ofNat i)), some (.int (Int32.ofNat j))], [], B0 :: B1 :: B2 :: B3 :: B4 :: B5 :: B6 :: B7 :: B8 :: B9 :: B10 :: B11 :: B12 :: bkModel tr ty nx tk pl va fa (Int32.ofNat P) dp cm tx (mp_ru nu dn) (mp_ps (mp_q la me tc ts) ps) (mp_s rd pr pv sa pd lo bo co sh (am_fold j sp_zeroOne se) si er of_) (sp_cov 80 (mp_s rd pr pv sa pd lo bo co sh se si er of_) sp) ke ik bi bt so nr ou ho cl :: Bs) K := by
        intro K hk e
        induction e with
        | zero =>
          intro j hj
          have hjP : j = i := by omega
          subst j
          refine am_Rn.go (t := am_t143) rfl 3 rfl ⟨trivial, trivial, trivial, trivial⟩ ?_
          refine am_Rn.brT ((am_le (by omega) (by omega)).mpr (Nat.le_refl _)) ?_
          exact hk
        | succ e ihe =>
          intro j hj
          have g := ihe (j + 1) (by omega)
          rw [am_fold_succ j sp_zeroOne, ← am_inc] at g
          generalize hX : (am_fold j sp_zeroOne se) = X at g ⊢
          refine am_Rn.go (t := am_t143) rfl 3 rfl ⟨trivial, trivial, trivial, trivial⟩ ?_
          refine am_Rn.brF (fun q => absurd ((am_le (by omega) (by omega)).mp q) (by omega)) ?_
          refine am_Rn.go (t := am_t143) rfl 4 rfl ⟨trivial, trivial, trivial, trivial, trivial⟩ ?_
          refine am_Rn.call (t := am_t143) rfl rfl (mm_puts2 sc j (by omega) ..) ?_
          rintro _ _ ⟨rfl, rfl⟩
          refine am_Rn.go (t := am_t143) rfl 2 rfl ⟨trivial, trivial, trivial⟩ ?_
          exact g
      rcases Classical.em (x0 ≤ (fun k => sp_peak (sp_bo (sp_try nu la me tc ts P N S lo bo se er of_ k)) N) i) with h3 | h3
      · skip
        rw [show sp_revF (fun k => sp_peak (sp_bo (sp_try nu la me tc ts P N S lo bo se er of_ k)) N) x0 (d + 1) i = Int32.ofNat i from if_pos h3]
        refine am_Rn.go (t := am_t143) rfl 4 rfl ⟨trivial, trivial, trivial, trivial, trivial⟩ ?_
        refine am_Rn.brF hgt ?_
        refine am_Rn.go (t := am_t143) rfl 3 rfl ⟨trivial, trivial, trivial, trivial⟩ ?_
        refine am_Rn.brT rfl ?_
        refine am_Rn.go (t := am_t143) rfl 2 rfl ⟨trivial, trivial, trivial⟩ ?_
        refine am_Rn.call (t := am_t143) rfl rfl (mm_sets1 ..) ?_
        rintro _ _ ⟨rfl, rfl⟩
        refine am_Rn.go (t := am_t143) rfl 2 rfl ⟨trivial, trivial, trivial⟩ ?_
        refine LZ _ ?_ i 0 (by omega)
        refine am_Rn.go (t := am_t143) rfl 1 rfl ⟨trivial, trivial⟩ ?_
        refine am_Rn.call (t := am_t143) rfl rfl (mm_plays sc P hP N S hN nu h0 hS h9 h7 la hla ..) ?_
        rintro _ _ ⟨rfl, rfl⟩
        rcases hRq : (sp_play nu la me P N S 20 0 (Int32.ofNat 0, nu 4, nu 4, 0, 0, lo, bo, (am_fold 9 (sp_begOne (sp_cut P tc) (sp_cut P ts)) (co, sh, si)).1, (am_fold 9 (sp_begOne (sp_cut P tc) (sp_cut P ts)) (co, sh, si)).2.1, (am_fold i sp_zeroOne se), (am_fold 9 (sp_begOne (sp_cut P tc) (sp_cut P ts)) (co, sh, si)).2.2, er, of_, bi, bt, so)).2 with ⟨rd2, pr2, pv2, sa2, pd2, lo2, bo2, co2, sh2, se2, si2, er2, of2, bi2, bt2, so2⟩
        have q := sp_play_rd nu la me P N S 20 0 (Int32.ofNat 0, nu 4, nu 4, 0, 0, lo, bo, (am_fold 9 (sp_begOne (sp_cut P tc) (sp_cut P ts)) (co, sh, si)).1, (am_fold 9 (sp_begOne (sp_cut P tc) (sp_cut P ts)) (co, sh, si)).2.1, (am_fold i sp_zeroOne se), (am_fold 9 (sp_begOne (sp_cut P tc) (sp_cut P ts)) (co, sh, si)).2.2, er, of_, bi, bt, so) rfl
        have hR1 := q.1
        rw [hRq, q.2.2 (by omega) (by omega)] at hR1
        dsimp only at hR1
        subst hR1
        have hrr : sp_rr P (sp_play nu la me P N S 20 0 (Int32.ofNat 0, nu 4, nu 4, 0, 0, lo, bo, (am_fold 9 (sp_begOne (sp_cut P tc) (sp_cut P ts)) (co, sh, si)).1, (am_fold 9 (sp_begOne (sp_cut P tc) (sp_cut P ts)) (co, sh, si)).2.1, (am_fold i sp_zeroOne se), (am_fold 9 (sp_begOne (sp_cut P tc) (sp_cut P ts)) (co, sh, si)).2.2, er, of_, bi, bt, so)).2 (sp_try nu la me tc ts P N S lo bo se er of_ i) := sp_try_c sp_eqN.rfl' sp_eqN.rfl' sp_eqN.rfl' (fun p hp => (hb p (by omega)).1.trans (if_pos hp)) (fun p hp => (hb p (by omega)).2.1.trans (if_pos hp)) sp_eqN.rfl' (fun p hp => by rw [sp_zero_spec]) (fun p hp => (hb p (by omega)).2.2) sp_eqN.rfl' sp_eqN.rfl'
        rw [hRq] at hrr
        have hpk : sp_peak bo2 N = (fun k => sp_peak (sp_bo (sp_try nu la me tc ts P N S lo bo se er of_ k)) N) i := by
          have hR2' := hrr
          revert hR2'
          show _ → sp_peak bo2 N = sp_peak (sp_bo (sp_try nu la me tc ts P N S lo bo se er of_ i)) N
          generalize sp_try nu la me tc ts P N S lo bo se er of_ i = RT
          obtain ⟨rd3, pr3, pv3, sa3, pd3, lo3, bo3, co3, sh3, se3, si3, er3, of3, bi3, bt3, so3⟩ := RT
          rintro ⟨q1, q2, q3, q4, q5, q6, q7, q8⟩
          exact sp_peak_c hN q7
        skip
        refine am_Rn.go (t := am_t143) rfl 2 rfl ⟨trivial, trivial, trivial⟩ ?_
        refine am_Rn.call (t := am_t143) rfl rfl (mm_peak0 sc N hN ..) ?_
        rintro _ _ ⟨rfl, rfl⟩
        rw [hpk]
        refine am_Rn.go (t := am_t143) rfl 2 rfl ⟨trivial, trivial, trivial⟩ ?_
        refine am_Rn.brF (Int32.not_lt.mpr h3) ?_
        refine am_Rn.go (t := am_t143) rfl 5 rfl ⟨trivial, trivial, trivial, trivial, trivial, trivial⟩ ?_
        refine am_Rn.call (t := am_t143) rfl rfl (mm_sets0 ..) ?_
        rintro _ _ ⟨rfl, rfl⟩
        rw [mp_scov]
        refine am_Rn.go (t := am_t143) rfl 2 rfl ⟨trivial, trivial, trivial⟩ ?_
        have g := LE i (some (.int (Int32.ofNat i))) (sp_cov 80 (mp_s rd pr pv sa pd lo bo co sh se si er of_) sp) bi2 bt2 so2 (by omega)
        rw [← am_inc] at g
        exact g
      · skip
        rw [show sp_revF (fun k => sp_peak (sp_bo (sp_try nu la me tc ts P N S lo bo se er of_ k)) N) x0 (d + 1) i = sp_revF (fun k => sp_peak (sp_bo (sp_try nu la me tc ts P N S lo bo se er of_ k)) N) x0 d (i + 1) from if_neg h3]
        refine am_Rn.go (t := am_t143) rfl 4 rfl ⟨trivial, trivial, trivial, trivial, trivial⟩ ?_
        refine am_Rn.brF hgt ?_
        refine am_Rn.go (t := am_t143) rfl 3 rfl ⟨trivial, trivial, trivial, trivial⟩ ?_
        refine am_Rn.brT rfl ?_
        refine am_Rn.go (t := am_t143) rfl 2 rfl ⟨trivial, trivial, trivial⟩ ?_
        refine am_Rn.call (t := am_t143) rfl rfl (mm_sets1 ..) ?_
        rintro _ _ ⟨rfl, rfl⟩
        refine am_Rn.go (t := am_t143) rfl 2 rfl ⟨trivial, trivial, trivial⟩ ?_
        refine LZ _ ?_ i 0 (by omega)
        refine am_Rn.go (t := am_t143) rfl 1 rfl ⟨trivial, trivial⟩ ?_
        refine am_Rn.call (t := am_t143) rfl rfl (mm_plays sc P hP N S hN nu h0 hS h9 h7 la hla ..) ?_
        rintro _ _ ⟨rfl, rfl⟩
        rcases hRq : (sp_play nu la me P N S 20 0 (Int32.ofNat 0, nu 4, nu 4, 0, 0, lo, bo, (am_fold 9 (sp_begOne (sp_cut P tc) (sp_cut P ts)) (co, sh, si)).1, (am_fold 9 (sp_begOne (sp_cut P tc) (sp_cut P ts)) (co, sh, si)).2.1, (am_fold i sp_zeroOne se), (am_fold 9 (sp_begOne (sp_cut P tc) (sp_cut P ts)) (co, sh, si)).2.2, er, of_, bi, bt, so)).2 with ⟨rd2, pr2, pv2, sa2, pd2, lo2, bo2, co2, sh2, se2, si2, er2, of2, bi2, bt2, so2⟩
        have q := sp_play_rd nu la me P N S 20 0 (Int32.ofNat 0, nu 4, nu 4, 0, 0, lo, bo, (am_fold 9 (sp_begOne (sp_cut P tc) (sp_cut P ts)) (co, sh, si)).1, (am_fold 9 (sp_begOne (sp_cut P tc) (sp_cut P ts)) (co, sh, si)).2.1, (am_fold i sp_zeroOne se), (am_fold 9 (sp_begOne (sp_cut P tc) (sp_cut P ts)) (co, sh, si)).2.2, er, of_, bi, bt, so) rfl
        have hR1 := q.1
        rw [hRq, q.2.2 (by omega) (by omega)] at hR1
        dsimp only at hR1
        subst hR1
        have hrr : sp_rr P (sp_play nu la me P N S 20 0 (Int32.ofNat 0, nu 4, nu 4, 0, 0, lo, bo, (am_fold 9 (sp_begOne (sp_cut P tc) (sp_cut P ts)) (co, sh, si)).1, (am_fold 9 (sp_begOne (sp_cut P tc) (sp_cut P ts)) (co, sh, si)).2.1, (am_fold i sp_zeroOne se), (am_fold 9 (sp_begOne (sp_cut P tc) (sp_cut P ts)) (co, sh, si)).2.2, er, of_, bi, bt, so)).2 (sp_try nu la me tc ts P N S lo bo se er of_ i) := sp_try_c sp_eqN.rfl' sp_eqN.rfl' sp_eqN.rfl' (fun p hp => (hb p (by omega)).1.trans (if_pos hp)) (fun p hp => (hb p (by omega)).2.1.trans (if_pos hp)) sp_eqN.rfl' (fun p hp => by rw [sp_zero_spec]) (fun p hp => (hb p (by omega)).2.2) sp_eqN.rfl' sp_eqN.rfl'
        rw [hRq] at hrr
        have hpk : sp_peak bo2 N = (fun k => sp_peak (sp_bo (sp_try nu la me tc ts P N S lo bo se er of_ k)) N) i := by
          have hR2' := hrr
          revert hR2'
          show _ → sp_peak bo2 N = sp_peak (sp_bo (sp_try nu la me tc ts P N S lo bo se er of_ i)) N
          generalize sp_try nu la me tc ts P N S lo bo se er of_ i = RT
          obtain ⟨rd3, pr3, pv3, sa3, pd3, lo3, bo3, co3, sh3, se3, si3, er3, of3, bi3, bt3, so3⟩ := RT
          rintro ⟨q1, q2, q3, q4, q5, q6, q7, q8⟩
          exact sp_peak_c hN q7
        skip
        refine am_Rn.go (t := am_t143) rfl 2 rfl ⟨trivial, trivial, trivial⟩ ?_
        refine am_Rn.call (t := am_t143) rfl rfl (mm_peak0 sc N hN ..) ?_
        rintro _ _ ⟨rfl, rfl⟩
        rw [hpk]
        refine am_Rn.go (t := am_t143) rfl 2 rfl ⟨trivial, trivial, trivial⟩ ?_
        refine am_Rn.brT (Int32.not_le.mp h3) ?_
        refine am_Rn.go (t := am_t143) rfl 4 rfl ⟨trivial, trivial, trivial, trivial, trivial⟩ ?_
        refine am_Rn.call (t := am_t143) rfl rfl (mm_sets0 ..) ?_
        rintro _ _ ⟨rfl, rfl⟩
        rw [mp_scov]
        refine am_Rn.go (t := am_t143) rfl 2 rfl ⟨trivial, trivial, trivial⟩ ?_
        have g := ih (i + 1) (some (.int (Int32.ofNat i))) (sp_cov 80 (mp_s rd pr pv sa pd lo bo co sh se si er of_) sp) bi2 bt2 so2 (by omega)
        rw [← am_inc] at g
        exact g
  refine am_Rn.go (t := am_t143) rfl 6 rfl ⟨trivial, trivial, trivial, trivial, trivial, trivial, trivial⟩ ?_
  refine am_Rn.call (t := am_t143) rfl rfl (sx_in ..) ?_
  rintro _ _ ⟨rfl, rfl⟩
  refine am_Rn.go (t := am_t143) rfl 1 rfl ⟨trivial, trivial⟩ ?_
  refine am_Rn.brF (fun z => am_b0.mp z hx) ?_
  refine am_Rn.go (t := am_t143) rfl 4 rfl ⟨trivial, trivial, trivial, trivial, trivial⟩ ?_
  exact L (P + 1) 0 none sp bi bt so (by omega)
theorem mm_revive_F (sc : am_Sc) (x0 : Int32) (hx : ¬ (0 ≤ x0 ∧ x0 ≤ 999)) (tr : Int64) (ty nx tk pl va fa dp cm : Int32) (tx nu dn la me tc ts ps : Nat → Int32) (P : Nat) (rd pr pv sa pd lo : Int32) (bo co sh se si er of_ sp ke ik bi bt so nr ou ho cl : Nat → Int32) (B0 B1 B2 B3 B4 B5 B6 B7 B8 B9 B10 B11 B12 : List am_E) (Bs : am_M) : am_Rn sc 143 (0, am_entry 143 [.ref 416, .int x0], [], B0 :: B1 :: B2 :: B3 :: B4 :: B5 :: B6 :: B7 :: B8 :: B9 :: B10 :: B11 :: B12 :: bkModel tr ty nx tk pl va fa (Int32.ofNat P) dp cm tx (mp_ru nu dn) (mp_ps (mp_q la me tc ts) ps) (mp_s rd pr pv sa pd lo bo co sh se si er of_) sp ke ik bi bt so nr ou ho cl :: Bs) (fun r M' => r = some (.int (-1)) ∧ M' = B0 :: B1 :: B2 :: B3 :: B4 :: B5 :: B6 :: B7 :: B8 :: B9 :: B10 :: B11 :: B12 :: bkModel tr ty nx tk pl va fa (Int32.ofNat P) dp cm tx (mp_ru nu dn) (mp_ps (mp_q la me tc ts) ps) (mp_s rd pr pv sa pd lo bo co sh se si er of_) sp ke ik bi bt so nr ou ho cl :: Bs) := by
  show am_Rn sc 143 (0, [some (.ref 416), some (.int x0), none, none, none], [], _) _
  refine am_Rn.go (t := am_t143) rfl 6 rfl ⟨trivial, trivial, trivial, trivial, trivial, trivial, trivial⟩ ?_
  refine am_Rn.call (t := am_t143) rfl rfl (sx_in ..) ?_
  rintro _ _ ⟨rfl, rfl⟩
  refine am_Rn.go (t := am_t143) rfl 1 rfl ⟨trivial, trivial⟩ ?_
  refine am_Rn.brT (am_b0.mpr hx) ?_
  refine am_Rn.go (t := am_t143) rfl 1 rfl ⟨trivial, trivial⟩ ?_
  refine am_Rn.ret (t := am_t143) rfl rfl trivial ?_
  exact ⟨rfl, rfl⟩
theorem mm_would0_T (sc : am_Sc) (P : Nat) (hP : P ≤ 9) (v w : Int32) (hv : 0 ≤ v ∧ v ≤ 99) (hw : (0 ≤ w ∧ w ≤ 2)) (N SW : Nat) (hN : N ≤ 20) (nu : Nat → Int32) (h0 : nu 0 = Int32.ofNat N) (hSW : SW ≤ 9) (h9 : (upd nu 5 v) 9 = Int32.ofNat SW) (h7 : 0 ≤ nu 7) (la : Nat → Int32) (hla : ∀ q, q < P → la q = 0 ∨ la q = 1 ∨ la q = 2 ∨ la q = 3 ∨ la q = 4) (tr : Int64) (ty nx tk pl va fa dp cm : Int32) (tx dn me tc ts ps : Nat → Int32) (rd pr pv sa pd lo : Int32) (bo co sh se si er of_ sp ke ik bi bt so nr ou ho cl : Nat → Int32) (B0 B1 B2 B3 B4 B5 B6 B7 B8 B9 B10 B11 B12 : List am_E) (Bs : am_M) : am_Rn sc 144 (0, am_entry 144 [.ref 416, .int 0, .int v, .int w], [], B0 :: B1 :: B2 :: B3 :: B4 :: B5 :: B6 :: B7 :: B8 :: B9 :: B10 :: B11 :: B12 :: bkModel tr ty nx tk pl va fa (Int32.ofNat P) dp cm tx (mp_ru nu dn) (mp_ps (mp_q la me tc ts) ps) (mp_s rd pr pv sa pd lo bo co sh se si er of_) sp ke ik bi bt so nr ou ho cl :: Bs) (fun r M' => r = some (.int (an_would (upd nu 5 v) N (sp_try (upd nu 5 v) la me tc ts P N SW lo bo se er of_ 0) w)) ∧ ∃ sp bi bt so, M' = B0 :: B1 :: B2 :: B3 :: B4 :: B5 :: B6 :: B7 :: B8 :: B9 :: B10 :: B11 :: B12 :: bkModel tr ty nx tk pl va fa (Int32.ofNat P) dp cm tx (mp_ru nu dn) (mp_ps (mp_q la me tc ts) ps) (mp_s rd pr pv sa pd lo bo co sh se si er of_) sp ke ik bi bt so nr ou ho cl :: Bs) := by
  show am_Rn sc 144 (0, [some (.ref 416), some (.int 0), some (.int v), some (.int w), none, none, none, none], [], _) _
  have hb := sp_beg_spec (sp_cut P tc) (sp_cut P ts) (co, sh, si) 9
  refine am_Rn.go (t := am_t144) rfl 6 rfl ⟨trivial, trivial, trivial, trivial, trivial, trivial, trivial⟩ ?_
  refine am_Rn.brF (by decide) ?_
  refine am_Rn.go (t := am_t144) rfl 3 rfl ⟨trivial, trivial, trivial, trivial⟩ ?_
  refine am_Rn.brF (by decide) ?_
  refine am_Rn.go (t := am_t144) rfl 3 rfl ⟨trivial, trivial, trivial, trivial⟩ ?_
  refine am_Rn.brF (by decide) ?_
  refine am_Rn.go (t := am_t144) rfl 6 rfl ⟨trivial, trivial, trivial, trivial, trivial, trivial, trivial⟩ ?_
  refine am_Rn.brT (by decide) ?_
  refine am_Rn.go (t := am_t144) rfl 6 rfl ⟨trivial, trivial, trivial, trivial, trivial, trivial, trivial⟩ ?_
  refine am_Rn.call (t := am_t144) rfl rfl (sx_in ..) ?_
  rintro _ _ ⟨rfl, rfl⟩
  refine am_Rn.go (t := am_t144) rfl 1 rfl ⟨trivial, trivial⟩ ?_
  refine am_Rn.brF (fun z => am_b0.mp z (by decide)) ?_
  refine am_Rn.go (t := am_t144) rfl 4 rfl ⟨trivial, trivial, trivial, trivial, trivial⟩ ?_
  refine am_Rn.brF (by decide) ?_
  refine am_Rn.go (t := am_t144) rfl 2 rfl ⟨trivial, trivial, trivial⟩ ?_
  refine am_Rn.call (t := am_t144) rfl rfl (sx_in ..) ?_
  rintro _ _ ⟨rfl, rfl⟩
  refine am_Rn.go (t := am_t144) rfl 1 rfl ⟨trivial, trivial⟩ ?_
  refine am_Rn.brF (fun z => am_b0.mp z hv) ?_
  refine am_Rn.go (t := am_t144) rfl 3 rfl ⟨trivial, trivial, trivial, trivial⟩ ?_
  refine am_Rn.call (t := am_t144) rfl rfl (sx_in ..) ?_
  rintro _ _ ⟨rfl, rfl⟩
  refine am_Rn.go (t := am_t144) rfl 1 rfl ⟨trivial, trivial⟩ ?_
  refine am_Rn.brF (fun z => am_b0.mp z hw) ?_
  refine am_Rn.go (t := am_t144) rfl 7 rfl ⟨trivial, trivial, trivial, (by exact am_inb_lit rfl), trivial, trivial, trivial, trivial⟩ ?_
  refine am_Rn.call (t := am_t144) rfl rfl (mm_sets1 ..) ?_
  rintro _ _ ⟨rfl, rfl⟩
  refine am_Rn.go (t := am_t144) rfl 5 rfl ⟨trivial, trivial, trivial, trivial, (by exact am_inb_lit rfl), trivial⟩ ?_
  show am_Rn sc 144 (66, _, _, B0 :: B1 :: B2 :: B3 :: B4 :: B5 :: B6 :: B7 :: B8 :: B9 :: B10 :: B11 :: B12 :: bkModel tr ty nx tk pl va fa (Int32.ofNat P) dp cm tx (upd (mp_ru nu dn) 5 v) (mp_ps (mp_q la me tc ts) ps) (mp_s rd pr pv sa pd lo bo co sh se si er of_) (sp_cov 80 (mp_s rd pr pv sa pd lo bo co sh se si er of_) sp) ke ik bi bt so nr ou ho cl :: Bs) _
  rw [mp_nu nu dn (by omega)]
  refine am_Rn.go (t := am_t144) rfl 1 rfl ⟨trivial, trivial⟩ ?_
  refine am_Rn.call (t := am_t144) rfl rfl (mm_plays sc P hP N SW hN (upd nu 5 v) (h0 := (mp_upd_ne _ _ (by omega)).trans h0) (hS := hSW) (h9 := h9) (h7 := (by rw [mp_upd_ne _ _ (by omega)]; exact h7)) la hla ..) ?_
  rintro _ _ ⟨rfl, rfl⟩
  rcases hRq : (sp_play (upd nu 5 v) la me P N SW 20 0 (Int32.ofNat 0, (upd nu 5 v) 4, (upd nu 5 v) 4, 0, 0, lo, bo, (am_fold 9 (sp_begOne (sp_cut P tc) (sp_cut P ts)) (co, sh, si)).1, (am_fold 9 (sp_begOne (sp_cut P tc) (sp_cut P ts)) (co, sh, si)).2.1, se, (am_fold 9 (sp_begOne (sp_cut P tc) (sp_cut P ts)) (co, sh, si)).2.2, er, of_, bi, bt, so)).2 with ⟨rd2, pr2, pv2, sa2, pd2, lo2, bo2, co2, sh2, se2, si2, er2, of2, bi2, bt2, so2⟩
  have q := sp_play_rd (upd nu 5 v) la me P N SW 20 0 (Int32.ofNat 0, (upd nu 5 v) 4, (upd nu 5 v) 4, 0, 0, lo, bo, (am_fold 9 (sp_begOne (sp_cut P tc) (sp_cut P ts)) (co, sh, si)).1, (am_fold 9 (sp_begOne (sp_cut P tc) (sp_cut P ts)) (co, sh, si)).2.1, se, (am_fold 9 (sp_begOne (sp_cut P tc) (sp_cut P ts)) (co, sh, si)).2.2, er, of_, bi, bt, so) rfl
  have hR1 := q.1
  rw [hRq, q.2.2 (by omega) (by omega)] at hR1
  dsimp only at hR1
  subst hR1
  have hrr : sp_rr P (sp_play (upd nu 5 v) la me P N SW 20 0 (Int32.ofNat 0, (upd nu 5 v) 4, (upd nu 5 v) 4, 0, 0, lo, bo, (am_fold 9 (sp_begOne (sp_cut P tc) (sp_cut P ts)) (co, sh, si)).1, (am_fold 9 (sp_begOne (sp_cut P tc) (sp_cut P ts)) (co, sh, si)).2.1, se, (am_fold 9 (sp_begOne (sp_cut P tc) (sp_cut P ts)) (co, sh, si)).2.2, er, of_, bi, bt, so)).2 (sp_try (upd nu 5 v) la me tc ts P N SW lo bo se er of_ 0) := sp_try_c sp_eqN.rfl' sp_eqN.rfl' sp_eqN.rfl' (fun p hp => (hb p (by omega)).1.trans (if_pos hp)) (fun p hp => (hb p (by omega)).2.1.trans (if_pos hp)) sp_eqN.rfl' (fun p hp => (if_neg (Nat.not_lt_zero p)).symm) (fun p hp => (hb p (by omega)).2.2) sp_eqN.rfl' sp_eqN.rfl'
  rw [hRq] at hrr
  generalize (sp_try (upd nu 5 v) la me tc ts P N SW lo bo se er of_ 0) = RT at hrr ⊢
  obtain ⟨rd3, pr3, pv3, sa3, pd3, lo3, bo3, co3, sh3, se3, si3, er3, of3, bi3, bt3, so3⟩ := RT
  obtain ⟨q1, q2, q3, q4, q5, q6, q7, q8⟩ := hrr
  refine am_Rn.go (t := am_t144) rfl 2 rfl ⟨trivial, trivial, trivial⟩ ?_
  refine am_Rn.br (fun h9 => ?_) (fun h9 => ?_)
  · skip
    have kw0 : w = 0 := h9
    refine am_Rn.go (t := am_t144) rfl 2 rfl ⟨trivial, trivial, trivial⟩ ?_
    refine am_Rn.call (t := am_t144) rfl rfl (mm_peak0 sc N hN ..) ?_
    rintro _ _ ⟨rfl, rfl⟩
    refine am_Rn.go (t := am_t144) rfl 7 rfl ⟨trivial, trivial, trivial, trivial, trivial, trivial, (by exact am_inb_lit rfl), trivial⟩ ?_
    show am_Rn sc 144 (90, _, _, B0 :: B1 :: B2 :: B3 :: B4 :: B5 :: B6 :: B7 :: B8 :: B9 :: B10 :: B11 :: B12 :: bkModel tr ty nx tk pl va fa (Int32.ofNat P) dp cm tx (upd (mp_ru (upd nu 5 v) dn) 5 (nu 5)) (mp_ps (mp_q la me tc ts) ps) (mp_s (Int32.ofNat N) pr2 pv2 sa2 pd2 lo2 bo2 co2 sh2 se2 si2 er2 of2) (sp_cov 80 (mp_s rd pr pv sa pd lo bo co sh se si er of_) sp) ke ik bi2 bt2 so2 nr ou ho cl :: Bs) _
    rw [mp_nu _ dn (by omega), am_upd_upd, am_upd_self]
    refine am_Rn.go (t := am_t144) rfl 2 rfl ⟨trivial, trivial, trivial⟩ ?_
    refine am_Rn.call (t := am_t144) rfl rfl (mm_sets0 ..) ?_
    rintro _ _ ⟨rfl, rfl⟩
    rw [mp_scov]
    refine am_Rn.go (t := am_t144) rfl 1 rfl ⟨trivial, trivial⟩ ?_
    refine am_Rn.ret (t := am_t144) rfl rfl trivial ?_
    refine ⟨congrArg (fun z => some (Value.int z)) ?_, _, _, _, _, rfl⟩
    unfold an_would
    first
      | exact (sp_peak_c hN q7).trans (if_pos kw0).symm
      | exact (sp_bub_c hN sp_eqN.rfl' q7).trans ((if_neg kw0).trans (if_pos kw1)).symm
      | exact q4.trans ((if_neg kw0).trans (if_neg kw1)).symm
  · skip
    have kw0 : ¬ w = 0 := h9
    refine am_Rn.go (t := am_t144) rfl 3 rfl ⟨trivial, trivial, trivial, trivial⟩ ?_
    refine am_Rn.br (fun h10 => ?_) (fun h10 => ?_)
    · skip
      have kw1 : w = 1 := h10
      refine am_Rn.go (t := am_t144) rfl 1 rfl ⟨trivial, trivial⟩ ?_
      refine am_Rn.call (t := am_t144) rfl rfl (mm_bubble sc N hN ..) ?_
      rintro _ _ ⟨rfl, rfl⟩
      refine am_Rn.go (t := am_t144) rfl 7 rfl ⟨trivial, trivial, trivial, trivial, trivial, trivial, (by exact am_inb_lit rfl), trivial⟩ ?_
      show am_Rn sc 144 (90, _, _, B0 :: B1 :: B2 :: B3 :: B4 :: B5 :: B6 :: B7 :: B8 :: B9 :: B10 :: B11 :: B12 :: bkModel tr ty nx tk pl va fa (Int32.ofNat P) dp cm tx (upd (mp_ru (upd nu 5 v) dn) 5 (nu 5)) (mp_ps (mp_q la me tc ts) ps) (mp_s (Int32.ofNat N) pr2 pv2 sa2 pd2 lo2 bo2 co2 sh2 se2 si2 er2 of2) (sp_cov 80 (mp_s rd pr pv sa pd lo bo co sh se si er of_) sp) ke ik bi2 bt2 so2 nr ou ho cl :: Bs) _
      rw [mp_nu _ dn (by omega), am_upd_upd, am_upd_self]
      refine am_Rn.go (t := am_t144) rfl 2 rfl ⟨trivial, trivial, trivial⟩ ?_
      refine am_Rn.call (t := am_t144) rfl rfl (mm_sets0 ..) ?_
      rintro _ _ ⟨rfl, rfl⟩
      rw [mp_scov]
      refine am_Rn.go (t := am_t144) rfl 1 rfl ⟨trivial, trivial⟩ ?_
      refine am_Rn.ret (t := am_t144) rfl rfl trivial ?_
      refine ⟨congrArg (fun z => some (Value.int z)) ?_, _, _, _, _, rfl⟩
      unfold an_would
      first
        | exact (sp_peak_c hN q7).trans (if_pos kw0).symm
        | exact (sp_bub_c hN sp_eqN.rfl' q7).trans ((if_neg kw0).trans (if_pos kw1)).symm
        | exact q4.trans ((if_neg kw0).trans (if_neg kw1)).symm
    · skip
      have kw1 : ¬ w = 1 := h10
      refine am_Rn.go (t := am_t144) rfl 10 rfl ⟨trivial, trivial, trivial, (by first | exact am_inb_lit rfl | exact am_inb_of (by omega) (by omega)), trivial, trivial, trivial, trivial, trivial, (by exact am_inb_lit rfl), trivial⟩ ?_
      show am_Rn sc 144 (90, _, _, B0 :: B1 :: B2 :: B3 :: B4 :: B5 :: B6 :: B7 :: B8 :: B9 :: B10 :: B11 :: B12 :: bkModel tr ty nx tk pl va fa (Int32.ofNat P) dp cm tx (upd (mp_ru (upd nu 5 v) dn) 5 (nu 5)) (mp_ps (mp_q la me tc ts) ps) (mp_s (Int32.ofNat N) pr2 pv2 sa2 pd2 lo2 bo2 co2 sh2 se2 si2 er2 of2) (sp_cov 80 (mp_s rd pr pv sa pd lo bo co sh se si er of_) sp) ke ik bi2 bt2 so2 nr ou ho cl :: Bs) _
      rw [mp_nu _ dn (by omega), am_upd_upd, am_upd_self]
      refine am_Rn.go (t := am_t144) rfl 2 rfl ⟨trivial, trivial, trivial⟩ ?_
      refine am_Rn.call (t := am_t144) rfl rfl (mm_sets0 ..) ?_
      rintro _ _ ⟨rfl, rfl⟩
      rw [mp_scov]
      refine am_Rn.go (t := am_t144) rfl 1 rfl ⟨trivial, trivial⟩ ?_
      refine am_Rn.ret (t := am_t144) rfl rfl trivial ?_
      refine ⟨congrArg (fun z => some (Value.int z)) ?_, _, _, _, _, rfl⟩
      unfold an_would
      first
        | exact (sp_peak_c hN q7).trans (if_pos kw0).symm
        | exact (sp_bub_c hN sp_eqN.rfl' q7).trans ((if_neg kw0).trans (if_pos kw1)).symm
        | exact q4.trans ((if_neg kw0).trans (if_neg kw1)).symm
theorem mm_would0_V (sc : am_Sc) (v w : Int32) (hv : ¬ (0 ≤ v ∧ v ≤ 99)) (tr : Int64) (ty nx tk pl va fa dp cm : Int32) (tx nu dn la me tc ts ps : Nat → Int32) (P : Nat) (rd pr pv sa pd lo : Int32) (bo co sh se si er of_ sp ke ik bi bt so nr ou ho cl : Nat → Int32) (B0 B1 B2 B3 B4 B5 B6 B7 B8 B9 B10 B11 B12 : List am_E) (Bs : am_M) : am_Rn sc 144 (0, am_entry 144 [.ref 416, .int 0, .int v, .int w], [], B0 :: B1 :: B2 :: B3 :: B4 :: B5 :: B6 :: B7 :: B8 :: B9 :: B10 :: B11 :: B12 :: bkModel tr ty nx tk pl va fa (Int32.ofNat P) dp cm tx (mp_ru nu dn) (mp_ps (mp_q la me tc ts) ps) (mp_s rd pr pv sa pd lo bo co sh se si er of_) sp ke ik bi bt so nr ou ho cl :: Bs) (fun r M' => r = some (.int (-1)) ∧ M' = B0 :: B1 :: B2 :: B3 :: B4 :: B5 :: B6 :: B7 :: B8 :: B9 :: B10 :: B11 :: B12 :: bkModel tr ty nx tk pl va fa (Int32.ofNat P) dp cm tx (mp_ru nu dn) (mp_ps (mp_q la me tc ts) ps) (mp_s rd pr pv sa pd lo bo co sh se si er of_) sp ke ik bi bt so nr ou ho cl :: Bs) := by
  show am_Rn sc 144 (0, [some (.ref 416), some (.int 0), some (.int v), some (.int w), none, none, none, none], [], _) _
  refine am_Rn.go (t := am_t144) rfl 6 rfl ⟨trivial, trivial, trivial, trivial, trivial, trivial, trivial⟩ ?_
  refine am_Rn.brF (by decide) ?_
  refine am_Rn.go (t := am_t144) rfl 3 rfl ⟨trivial, trivial, trivial, trivial⟩ ?_
  refine am_Rn.brF (by decide) ?_
  refine am_Rn.go (t := am_t144) rfl 3 rfl ⟨trivial, trivial, trivial, trivial⟩ ?_
  refine am_Rn.brF (by decide) ?_
  refine am_Rn.go (t := am_t144) rfl 6 rfl ⟨trivial, trivial, trivial, trivial, trivial, trivial, trivial⟩ ?_
  refine am_Rn.brT (by decide) ?_
  refine am_Rn.go (t := am_t144) rfl 6 rfl ⟨trivial, trivial, trivial, trivial, trivial, trivial, trivial⟩ ?_
  refine am_Rn.call (t := am_t144) rfl rfl (sx_in ..) ?_
  rintro _ _ ⟨rfl, rfl⟩
  refine am_Rn.go (t := am_t144) rfl 1 rfl ⟨trivial, trivial⟩ ?_
  refine am_Rn.brF (fun z => am_b0.mp z (by decide)) ?_
  refine am_Rn.go (t := am_t144) rfl 4 rfl ⟨trivial, trivial, trivial, trivial, trivial⟩ ?_
  refine am_Rn.brF (by decide) ?_
  refine am_Rn.go (t := am_t144) rfl 2 rfl ⟨trivial, trivial, trivial⟩ ?_
  refine am_Rn.call (t := am_t144) rfl rfl (sx_in ..) ?_
  rintro _ _ ⟨rfl, rfl⟩
  refine am_Rn.go (t := am_t144) rfl 1 rfl ⟨trivial, trivial⟩ ?_
  refine am_Rn.brT (am_b0.mpr hv) ?_
  refine am_Rn.go (t := am_t144) rfl 1 rfl ⟨trivial, trivial⟩ ?_
  refine am_Rn.ret (t := am_t144) rfl rfl trivial ?_
  exact ⟨rfl, rfl⟩
theorem mm_would0_W (sc : am_Sc) (v w : Int32) (hv : 0 ≤ v ∧ v ≤ 99) (hw : ¬ (0 ≤ w ∧ w ≤ 2)) (tr : Int64) (ty nx tk pl va fa dp cm : Int32) (tx nu dn la me tc ts ps : Nat → Int32) (P : Nat) (rd pr pv sa pd lo : Int32) (bo co sh se si er of_ sp ke ik bi bt so nr ou ho cl : Nat → Int32) (B0 B1 B2 B3 B4 B5 B6 B7 B8 B9 B10 B11 B12 : List am_E) (Bs : am_M) : am_Rn sc 144 (0, am_entry 144 [.ref 416, .int 0, .int v, .int w], [], B0 :: B1 :: B2 :: B3 :: B4 :: B5 :: B6 :: B7 :: B8 :: B9 :: B10 :: B11 :: B12 :: bkModel tr ty nx tk pl va fa (Int32.ofNat P) dp cm tx (mp_ru nu dn) (mp_ps (mp_q la me tc ts) ps) (mp_s rd pr pv sa pd lo bo co sh se si er of_) sp ke ik bi bt so nr ou ho cl :: Bs) (fun r M' => r = some (.int (-1)) ∧ M' = B0 :: B1 :: B2 :: B3 :: B4 :: B5 :: B6 :: B7 :: B8 :: B9 :: B10 :: B11 :: B12 :: bkModel tr ty nx tk pl va fa (Int32.ofNat P) dp cm tx (mp_ru nu dn) (mp_ps (mp_q la me tc ts) ps) (mp_s rd pr pv sa pd lo bo co sh se si er of_) sp ke ik bi bt so nr ou ho cl :: Bs) := by
  show am_Rn sc 144 (0, [some (.ref 416), some (.int 0), some (.int v), some (.int w), none, none, none, none], [], _) _
  refine am_Rn.go (t := am_t144) rfl 6 rfl ⟨trivial, trivial, trivial, trivial, trivial, trivial, trivial⟩ ?_
  refine am_Rn.brF (by decide) ?_
  refine am_Rn.go (t := am_t144) rfl 3 rfl ⟨trivial, trivial, trivial, trivial⟩ ?_
  refine am_Rn.brF (by decide) ?_
  refine am_Rn.go (t := am_t144) rfl 3 rfl ⟨trivial, trivial, trivial, trivial⟩ ?_
  refine am_Rn.brF (by decide) ?_
  refine am_Rn.go (t := am_t144) rfl 6 rfl ⟨trivial, trivial, trivial, trivial, trivial, trivial, trivial⟩ ?_
  refine am_Rn.brT (by decide) ?_
  refine am_Rn.go (t := am_t144) rfl 6 rfl ⟨trivial, trivial, trivial, trivial, trivial, trivial, trivial⟩ ?_
  refine am_Rn.call (t := am_t144) rfl rfl (sx_in ..) ?_
  rintro _ _ ⟨rfl, rfl⟩
  refine am_Rn.go (t := am_t144) rfl 1 rfl ⟨trivial, trivial⟩ ?_
  refine am_Rn.brF (fun z => am_b0.mp z (by decide)) ?_
  refine am_Rn.go (t := am_t144) rfl 4 rfl ⟨trivial, trivial, trivial, trivial, trivial⟩ ?_
  refine am_Rn.brF (by decide) ?_
  refine am_Rn.go (t := am_t144) rfl 2 rfl ⟨trivial, trivial, trivial⟩ ?_
  refine am_Rn.call (t := am_t144) rfl rfl (sx_in ..) ?_
  rintro _ _ ⟨rfl, rfl⟩
  refine am_Rn.go (t := am_t144) rfl 1 rfl ⟨trivial, trivial⟩ ?_
  refine am_Rn.brF (fun z => am_b0.mp z hv) ?_
  refine am_Rn.go (t := am_t144) rfl 3 rfl ⟨trivial, trivial, trivial, trivial⟩ ?_
  refine am_Rn.call (t := am_t144) rfl rfl (sx_in ..) ?_
  rintro _ _ ⟨rfl, rfl⟩
  refine am_Rn.go (t := am_t144) rfl 1 rfl ⟨trivial, trivial⟩ ?_
  refine am_Rn.brT (am_b0.mpr hw) ?_
  refine am_Rn.go (t := am_t144) rfl 1 rfl ⟨trivial, trivial⟩ ?_
  refine am_Rn.ret (t := am_t144) rfl rfl trivial ?_
  exact ⟨rfl, rfl⟩
theorem mm_would1_T (sc : am_Sc) (P : Nat) (hP : P ≤ 9) (v w : Int32) (hv : 0 ≤ v ∧ v ≤ 9) (hw : (0 ≤ w ∧ w ≤ 2)) (N SW : Nat) (hN : N ≤ 20) (nu : Nat → Int32) (h0 : nu 0 = Int32.ofNat N) (hSW : SW ≤ 9) (h9 : (upd nu 6 v) 9 = Int32.ofNat SW) (h7 : 0 ≤ nu 7) (la : Nat → Int32) (hla : ∀ q, q < P → la q = 0 ∨ la q = 1 ∨ la q = 2 ∨ la q = 3 ∨ la q = 4) (tr : Int64) (ty nx tk pl va fa dp cm : Int32) (tx dn me tc ts ps : Nat → Int32) (rd pr pv sa pd lo : Int32) (bo co sh se si er of_ sp ke ik bi bt so nr ou ho cl : Nat → Int32) (B0 B1 B2 B3 B4 B5 B6 B7 B8 B9 B10 B11 B12 : List am_E) (Bs : am_M) : am_Rn sc 144 (0, am_entry 144 [.ref 416, .int 1, .int v, .int w], [], B0 :: B1 :: B2 :: B3 :: B4 :: B5 :: B6 :: B7 :: B8 :: B9 :: B10 :: B11 :: B12 :: bkModel tr ty nx tk pl va fa (Int32.ofNat P) dp cm tx (mp_ru nu dn) (mp_ps (mp_q la me tc ts) ps) (mp_s rd pr pv sa pd lo bo co sh se si er of_) sp ke ik bi bt so nr ou ho cl :: Bs) (fun r M' => r = some (.int (an_would (upd nu 6 v) N (sp_try (upd nu 6 v) la me tc ts P N SW lo bo se er of_ 0) w)) ∧ ∃ sp bi bt so, M' = B0 :: B1 :: B2 :: B3 :: B4 :: B5 :: B6 :: B7 :: B8 :: B9 :: B10 :: B11 :: B12 :: bkModel tr ty nx tk pl va fa (Int32.ofNat P) dp cm tx (mp_ru nu dn) (mp_ps (mp_q la me tc ts) ps) (mp_s rd pr pv sa pd lo bo co sh se si er of_) sp ke ik bi bt so nr ou ho cl :: Bs) := by
  show am_Rn sc 144 (0, [some (.ref 416), some (.int 1), some (.int v), some (.int w), none, none, none, none], [], _) _
  have hb := sp_beg_spec (sp_cut P tc) (sp_cut P ts) (co, sh, si) 9
  refine am_Rn.go (t := am_t144) rfl 6 rfl ⟨trivial, trivial, trivial, trivial, trivial, trivial, trivial⟩ ?_
  refine am_Rn.brF (by decide) ?_
  refine am_Rn.go (t := am_t144) rfl 3 rfl ⟨trivial, trivial, trivial, trivial⟩ ?_
  refine am_Rn.brF (by decide) ?_
  refine am_Rn.go (t := am_t144) rfl 3 rfl ⟨trivial, trivial, trivial, trivial⟩ ?_
  refine am_Rn.brF (by decide) ?_
  refine am_Rn.go (t := am_t144) rfl 6 rfl ⟨trivial, trivial, trivial, trivial, trivial, trivial, trivial⟩ ?_
  refine am_Rn.brF (by decide) ?_
  refine am_Rn.go (t := am_t144) rfl 3 rfl ⟨trivial, trivial, trivial, trivial⟩ ?_
  refine am_Rn.brF (by decide) ?_
  refine am_Rn.go (t := am_t144) rfl 5 rfl ⟨trivial, trivial, trivial, trivial, trivial, trivial⟩ ?_
  refine am_Rn.call (t := am_t144) rfl rfl (sx_in ..) ?_
  rintro _ _ ⟨rfl, rfl⟩
  refine am_Rn.go (t := am_t144) rfl 1 rfl ⟨trivial, trivial⟩ ?_
  refine am_Rn.brF (fun z => am_b0.mp z (by decide)) ?_
  refine am_Rn.go (t := am_t144) rfl 4 rfl ⟨trivial, trivial, trivial, trivial, trivial⟩ ?_
  refine am_Rn.brF (by decide) ?_
  refine am_Rn.go (t := am_t144) rfl 2 rfl ⟨trivial, trivial, trivial⟩ ?_
  refine am_Rn.call (t := am_t144) rfl rfl (sx_in ..) ?_
  rintro _ _ ⟨rfl, rfl⟩
  refine am_Rn.go (t := am_t144) rfl 1 rfl ⟨trivial, trivial⟩ ?_
  refine am_Rn.brF (fun z => am_b0.mp z hv) ?_
  refine am_Rn.go (t := am_t144) rfl 3 rfl ⟨trivial, trivial, trivial, trivial⟩ ?_
  refine am_Rn.call (t := am_t144) rfl rfl (sx_in ..) ?_
  rintro _ _ ⟨rfl, rfl⟩
  refine am_Rn.go (t := am_t144) rfl 1 rfl ⟨trivial, trivial⟩ ?_
  refine am_Rn.brF (fun z => am_b0.mp z hw) ?_
  refine am_Rn.go (t := am_t144) rfl 7 rfl ⟨trivial, trivial, trivial, (by exact am_inb_lit rfl), trivial, trivial, trivial, trivial⟩ ?_
  refine am_Rn.call (t := am_t144) rfl rfl (mm_sets1 ..) ?_
  rintro _ _ ⟨rfl, rfl⟩
  refine am_Rn.go (t := am_t144) rfl 5 rfl ⟨trivial, trivial, trivial, trivial, (by exact am_inb_lit rfl), trivial⟩ ?_
  show am_Rn sc 144 (66, _, _, B0 :: B1 :: B2 :: B3 :: B4 :: B5 :: B6 :: B7 :: B8 :: B9 :: B10 :: B11 :: B12 :: bkModel tr ty nx tk pl va fa (Int32.ofNat P) dp cm tx (upd (mp_ru nu dn) 6 v) (mp_ps (mp_q la me tc ts) ps) (mp_s rd pr pv sa pd lo bo co sh se si er of_) (sp_cov 80 (mp_s rd pr pv sa pd lo bo co sh se si er of_) sp) ke ik bi bt so nr ou ho cl :: Bs) _
  rw [mp_nu nu dn (by omega)]
  refine am_Rn.go (t := am_t144) rfl 1 rfl ⟨trivial, trivial⟩ ?_
  refine am_Rn.call (t := am_t144) rfl rfl (mm_plays sc P hP N SW hN (upd nu 6 v) (h0 := (mp_upd_ne _ _ (by omega)).trans h0) (hS := hSW) (h9 := h9) (h7 := (by rw [mp_upd_ne _ _ (by omega)]; exact h7)) la hla ..) ?_
  rintro _ _ ⟨rfl, rfl⟩
  rcases hRq : (sp_play (upd nu 6 v) la me P N SW 20 0 (Int32.ofNat 0, (upd nu 6 v) 4, (upd nu 6 v) 4, 0, 0, lo, bo, (am_fold 9 (sp_begOne (sp_cut P tc) (sp_cut P ts)) (co, sh, si)).1, (am_fold 9 (sp_begOne (sp_cut P tc) (sp_cut P ts)) (co, sh, si)).2.1, se, (am_fold 9 (sp_begOne (sp_cut P tc) (sp_cut P ts)) (co, sh, si)).2.2, er, of_, bi, bt, so)).2 with ⟨rd2, pr2, pv2, sa2, pd2, lo2, bo2, co2, sh2, se2, si2, er2, of2, bi2, bt2, so2⟩
  have q := sp_play_rd (upd nu 6 v) la me P N SW 20 0 (Int32.ofNat 0, (upd nu 6 v) 4, (upd nu 6 v) 4, 0, 0, lo, bo, (am_fold 9 (sp_begOne (sp_cut P tc) (sp_cut P ts)) (co, sh, si)).1, (am_fold 9 (sp_begOne (sp_cut P tc) (sp_cut P ts)) (co, sh, si)).2.1, se, (am_fold 9 (sp_begOne (sp_cut P tc) (sp_cut P ts)) (co, sh, si)).2.2, er, of_, bi, bt, so) rfl
  have hR1 := q.1
  rw [hRq, q.2.2 (by omega) (by omega)] at hR1
  dsimp only at hR1
  subst hR1
  have hrr : sp_rr P (sp_play (upd nu 6 v) la me P N SW 20 0 (Int32.ofNat 0, (upd nu 6 v) 4, (upd nu 6 v) 4, 0, 0, lo, bo, (am_fold 9 (sp_begOne (sp_cut P tc) (sp_cut P ts)) (co, sh, si)).1, (am_fold 9 (sp_begOne (sp_cut P tc) (sp_cut P ts)) (co, sh, si)).2.1, se, (am_fold 9 (sp_begOne (sp_cut P tc) (sp_cut P ts)) (co, sh, si)).2.2, er, of_, bi, bt, so)).2 (sp_try (upd nu 6 v) la me tc ts P N SW lo bo se er of_ 0) := sp_try_c sp_eqN.rfl' sp_eqN.rfl' sp_eqN.rfl' (fun p hp => (hb p (by omega)).1.trans (if_pos hp)) (fun p hp => (hb p (by omega)).2.1.trans (if_pos hp)) sp_eqN.rfl' (fun p hp => (if_neg (Nat.not_lt_zero p)).symm) (fun p hp => (hb p (by omega)).2.2) sp_eqN.rfl' sp_eqN.rfl'
  rw [hRq] at hrr
  generalize (sp_try (upd nu 6 v) la me tc ts P N SW lo bo se er of_ 0) = RT at hrr ⊢
  obtain ⟨rd3, pr3, pv3, sa3, pd3, lo3, bo3, co3, sh3, se3, si3, er3, of3, bi3, bt3, so3⟩ := RT
  obtain ⟨q1, q2, q3, q4, q5, q6, q7, q8⟩ := hrr
  refine am_Rn.go (t := am_t144) rfl 2 rfl ⟨trivial, trivial, trivial⟩ ?_
  refine am_Rn.br (fun h10 => ?_) (fun h10 => ?_)
  · skip
    have kw0 : w = 0 := h10
    refine am_Rn.go (t := am_t144) rfl 2 rfl ⟨trivial, trivial, trivial⟩ ?_
    refine am_Rn.call (t := am_t144) rfl rfl (mm_peak0 sc N hN ..) ?_
    rintro _ _ ⟨rfl, rfl⟩
    refine am_Rn.go (t := am_t144) rfl 7 rfl ⟨trivial, trivial, trivial, trivial, trivial, trivial, (by exact am_inb_lit rfl), trivial⟩ ?_
    show am_Rn sc 144 (90, _, _, B0 :: B1 :: B2 :: B3 :: B4 :: B5 :: B6 :: B7 :: B8 :: B9 :: B10 :: B11 :: B12 :: bkModel tr ty nx tk pl va fa (Int32.ofNat P) dp cm tx (upd (mp_ru (upd nu 6 v) dn) 6 (nu 6)) (mp_ps (mp_q la me tc ts) ps) (mp_s (Int32.ofNat N) pr2 pv2 sa2 pd2 lo2 bo2 co2 sh2 se2 si2 er2 of2) (sp_cov 80 (mp_s rd pr pv sa pd lo bo co sh se si er of_) sp) ke ik bi2 bt2 so2 nr ou ho cl :: Bs) _
    rw [mp_nu _ dn (by omega), am_upd_upd, am_upd_self]
    refine am_Rn.go (t := am_t144) rfl 2 rfl ⟨trivial, trivial, trivial⟩ ?_
    refine am_Rn.call (t := am_t144) rfl rfl (mm_sets0 ..) ?_
    rintro _ _ ⟨rfl, rfl⟩
    rw [mp_scov]
    refine am_Rn.go (t := am_t144) rfl 1 rfl ⟨trivial, trivial⟩ ?_
    refine am_Rn.ret (t := am_t144) rfl rfl trivial ?_
    refine ⟨congrArg (fun z => some (Value.int z)) ?_, _, _, _, _, rfl⟩
    unfold an_would
    first
      | exact (sp_peak_c hN q7).trans (if_pos kw0).symm
      | exact (sp_bub_c hN sp_eqN.rfl' q7).trans ((if_neg kw0).trans (if_pos kw1)).symm
      | exact q4.trans ((if_neg kw0).trans (if_neg kw1)).symm
  · skip
    have kw0 : ¬ w = 0 := h10
    refine am_Rn.go (t := am_t144) rfl 3 rfl ⟨trivial, trivial, trivial, trivial⟩ ?_
    refine am_Rn.br (fun h11 => ?_) (fun h11 => ?_)
    · skip
      have kw1 : w = 1 := h11
      refine am_Rn.go (t := am_t144) rfl 1 rfl ⟨trivial, trivial⟩ ?_
      refine am_Rn.call (t := am_t144) rfl rfl (mm_bubble sc N hN ..) ?_
      rintro _ _ ⟨rfl, rfl⟩
      refine am_Rn.go (t := am_t144) rfl 7 rfl ⟨trivial, trivial, trivial, trivial, trivial, trivial, (by exact am_inb_lit rfl), trivial⟩ ?_
      show am_Rn sc 144 (90, _, _, B0 :: B1 :: B2 :: B3 :: B4 :: B5 :: B6 :: B7 :: B8 :: B9 :: B10 :: B11 :: B12 :: bkModel tr ty nx tk pl va fa (Int32.ofNat P) dp cm tx (upd (mp_ru (upd nu 6 v) dn) 6 (nu 6)) (mp_ps (mp_q la me tc ts) ps) (mp_s (Int32.ofNat N) pr2 pv2 sa2 pd2 lo2 bo2 co2 sh2 se2 si2 er2 of2) (sp_cov 80 (mp_s rd pr pv sa pd lo bo co sh se si er of_) sp) ke ik bi2 bt2 so2 nr ou ho cl :: Bs) _
      rw [mp_nu _ dn (by omega), am_upd_upd, am_upd_self]
      refine am_Rn.go (t := am_t144) rfl 2 rfl ⟨trivial, trivial, trivial⟩ ?_
      refine am_Rn.call (t := am_t144) rfl rfl (mm_sets0 ..) ?_
      rintro _ _ ⟨rfl, rfl⟩
      rw [mp_scov]
      refine am_Rn.go (t := am_t144) rfl 1 rfl ⟨trivial, trivial⟩ ?_
      refine am_Rn.ret (t := am_t144) rfl rfl trivial ?_
      refine ⟨congrArg (fun z => some (Value.int z)) ?_, _, _, _, _, rfl⟩
      unfold an_would
      first
        | exact (sp_peak_c hN q7).trans (if_pos kw0).symm
        | exact (sp_bub_c hN sp_eqN.rfl' q7).trans ((if_neg kw0).trans (if_pos kw1)).symm
        | exact q4.trans ((if_neg kw0).trans (if_neg kw1)).symm
    · skip
      have kw1 : ¬ w = 1 := h11
      refine am_Rn.go (t := am_t144) rfl 10 rfl ⟨trivial, trivial, trivial, (by first | exact am_inb_lit rfl | exact am_inb_of (by omega) (by omega)), trivial, trivial, trivial, trivial, trivial, (by exact am_inb_lit rfl), trivial⟩ ?_
      show am_Rn sc 144 (90, _, _, B0 :: B1 :: B2 :: B3 :: B4 :: B5 :: B6 :: B7 :: B8 :: B9 :: B10 :: B11 :: B12 :: bkModel tr ty nx tk pl va fa (Int32.ofNat P) dp cm tx (upd (mp_ru (upd nu 6 v) dn) 6 (nu 6)) (mp_ps (mp_q la me tc ts) ps) (mp_s (Int32.ofNat N) pr2 pv2 sa2 pd2 lo2 bo2 co2 sh2 se2 si2 er2 of2) (sp_cov 80 (mp_s rd pr pv sa pd lo bo co sh se si er of_) sp) ke ik bi2 bt2 so2 nr ou ho cl :: Bs) _
      rw [mp_nu _ dn (by omega), am_upd_upd, am_upd_self]
      refine am_Rn.go (t := am_t144) rfl 2 rfl ⟨trivial, trivial, trivial⟩ ?_
      refine am_Rn.call (t := am_t144) rfl rfl (mm_sets0 ..) ?_
      rintro _ _ ⟨rfl, rfl⟩
      rw [mp_scov]
      refine am_Rn.go (t := am_t144) rfl 1 rfl ⟨trivial, trivial⟩ ?_
      refine am_Rn.ret (t := am_t144) rfl rfl trivial ?_
      refine ⟨congrArg (fun z => some (Value.int z)) ?_, _, _, _, _, rfl⟩
      unfold an_would
      first
        | exact (sp_peak_c hN q7).trans (if_pos kw0).symm
        | exact (sp_bub_c hN sp_eqN.rfl' q7).trans ((if_neg kw0).trans (if_pos kw1)).symm
        | exact q4.trans ((if_neg kw0).trans (if_neg kw1)).symm
theorem mm_would1_V (sc : am_Sc) (v w : Int32) (hv : ¬ (0 ≤ v ∧ v ≤ 9)) (tr : Int64) (ty nx tk pl va fa dp cm : Int32) (tx nu dn la me tc ts ps : Nat → Int32) (P : Nat) (rd pr pv sa pd lo : Int32) (bo co sh se si er of_ sp ke ik bi bt so nr ou ho cl : Nat → Int32) (B0 B1 B2 B3 B4 B5 B6 B7 B8 B9 B10 B11 B12 : List am_E) (Bs : am_M) : am_Rn sc 144 (0, am_entry 144 [.ref 416, .int 1, .int v, .int w], [], B0 :: B1 :: B2 :: B3 :: B4 :: B5 :: B6 :: B7 :: B8 :: B9 :: B10 :: B11 :: B12 :: bkModel tr ty nx tk pl va fa (Int32.ofNat P) dp cm tx (mp_ru nu dn) (mp_ps (mp_q la me tc ts) ps) (mp_s rd pr pv sa pd lo bo co sh se si er of_) sp ke ik bi bt so nr ou ho cl :: Bs) (fun r M' => r = some (.int (-1)) ∧ M' = B0 :: B1 :: B2 :: B3 :: B4 :: B5 :: B6 :: B7 :: B8 :: B9 :: B10 :: B11 :: B12 :: bkModel tr ty nx tk pl va fa (Int32.ofNat P) dp cm tx (mp_ru nu dn) (mp_ps (mp_q la me tc ts) ps) (mp_s rd pr pv sa pd lo bo co sh se si er of_) sp ke ik bi bt so nr ou ho cl :: Bs) := by
  show am_Rn sc 144 (0, [some (.ref 416), some (.int 1), some (.int v), some (.int w), none, none, none, none], [], _) _
  refine am_Rn.go (t := am_t144) rfl 6 rfl ⟨trivial, trivial, trivial, trivial, trivial, trivial, trivial⟩ ?_
  refine am_Rn.brF (by decide) ?_
  refine am_Rn.go (t := am_t144) rfl 3 rfl ⟨trivial, trivial, trivial, trivial⟩ ?_
  refine am_Rn.brF (by decide) ?_
  refine am_Rn.go (t := am_t144) rfl 3 rfl ⟨trivial, trivial, trivial, trivial⟩ ?_
  refine am_Rn.brF (by decide) ?_
  refine am_Rn.go (t := am_t144) rfl 6 rfl ⟨trivial, trivial, trivial, trivial, trivial, trivial, trivial⟩ ?_
  refine am_Rn.brF (by decide) ?_
  refine am_Rn.go (t := am_t144) rfl 3 rfl ⟨trivial, trivial, trivial, trivial⟩ ?_
  refine am_Rn.brF (by decide) ?_
  refine am_Rn.go (t := am_t144) rfl 5 rfl ⟨trivial, trivial, trivial, trivial, trivial, trivial⟩ ?_
  refine am_Rn.call (t := am_t144) rfl rfl (sx_in ..) ?_
  rintro _ _ ⟨rfl, rfl⟩
  refine am_Rn.go (t := am_t144) rfl 1 rfl ⟨trivial, trivial⟩ ?_
  refine am_Rn.brF (fun z => am_b0.mp z (by decide)) ?_
  refine am_Rn.go (t := am_t144) rfl 4 rfl ⟨trivial, trivial, trivial, trivial, trivial⟩ ?_
  refine am_Rn.brF (by decide) ?_
  refine am_Rn.go (t := am_t144) rfl 2 rfl ⟨trivial, trivial, trivial⟩ ?_
  refine am_Rn.call (t := am_t144) rfl rfl (sx_in ..) ?_
  rintro _ _ ⟨rfl, rfl⟩
  refine am_Rn.go (t := am_t144) rfl 1 rfl ⟨trivial, trivial⟩ ?_
  refine am_Rn.brT (am_b0.mpr hv) ?_
  refine am_Rn.go (t := am_t144) rfl 1 rfl ⟨trivial, trivial⟩ ?_
  refine am_Rn.ret (t := am_t144) rfl rfl trivial ?_
  exact ⟨rfl, rfl⟩
theorem mm_would1_W (sc : am_Sc) (v w : Int32) (hv : 0 ≤ v ∧ v ≤ 9) (hw : ¬ (0 ≤ w ∧ w ≤ 2)) (tr : Int64) (ty nx tk pl va fa dp cm : Int32) (tx nu dn la me tc ts ps : Nat → Int32) (P : Nat) (rd pr pv sa pd lo : Int32) (bo co sh se si er of_ sp ke ik bi bt so nr ou ho cl : Nat → Int32) (B0 B1 B2 B3 B4 B5 B6 B7 B8 B9 B10 B11 B12 : List am_E) (Bs : am_M) : am_Rn sc 144 (0, am_entry 144 [.ref 416, .int 1, .int v, .int w], [], B0 :: B1 :: B2 :: B3 :: B4 :: B5 :: B6 :: B7 :: B8 :: B9 :: B10 :: B11 :: B12 :: bkModel tr ty nx tk pl va fa (Int32.ofNat P) dp cm tx (mp_ru nu dn) (mp_ps (mp_q la me tc ts) ps) (mp_s rd pr pv sa pd lo bo co sh se si er of_) sp ke ik bi bt so nr ou ho cl :: Bs) (fun r M' => r = some (.int (-1)) ∧ M' = B0 :: B1 :: B2 :: B3 :: B4 :: B5 :: B6 :: B7 :: B8 :: B9 :: B10 :: B11 :: B12 :: bkModel tr ty nx tk pl va fa (Int32.ofNat P) dp cm tx (mp_ru nu dn) (mp_ps (mp_q la me tc ts) ps) (mp_s rd pr pv sa pd lo bo co sh se si er of_) sp ke ik bi bt so nr ou ho cl :: Bs) := by
  show am_Rn sc 144 (0, [some (.ref 416), some (.int 1), some (.int v), some (.int w), none, none, none, none], [], _) _
  refine am_Rn.go (t := am_t144) rfl 6 rfl ⟨trivial, trivial, trivial, trivial, trivial, trivial, trivial⟩ ?_
  refine am_Rn.brF (by decide) ?_
  refine am_Rn.go (t := am_t144) rfl 3 rfl ⟨trivial, trivial, trivial, trivial⟩ ?_
  refine am_Rn.brF (by decide) ?_
  refine am_Rn.go (t := am_t144) rfl 3 rfl ⟨trivial, trivial, trivial, trivial⟩ ?_
  refine am_Rn.brF (by decide) ?_
  refine am_Rn.go (t := am_t144) rfl 6 rfl ⟨trivial, trivial, trivial, trivial, trivial, trivial, trivial⟩ ?_
  refine am_Rn.brF (by decide) ?_
  refine am_Rn.go (t := am_t144) rfl 3 rfl ⟨trivial, trivial, trivial, trivial⟩ ?_
  refine am_Rn.brF (by decide) ?_
  refine am_Rn.go (t := am_t144) rfl 5 rfl ⟨trivial, trivial, trivial, trivial, trivial, trivial⟩ ?_
  refine am_Rn.call (t := am_t144) rfl rfl (sx_in ..) ?_
  rintro _ _ ⟨rfl, rfl⟩
  refine am_Rn.go (t := am_t144) rfl 1 rfl ⟨trivial, trivial⟩ ?_
  refine am_Rn.brF (fun z => am_b0.mp z (by decide)) ?_
  refine am_Rn.go (t := am_t144) rfl 4 rfl ⟨trivial, trivial, trivial, trivial, trivial⟩ ?_
  refine am_Rn.brF (by decide) ?_
  refine am_Rn.go (t := am_t144) rfl 2 rfl ⟨trivial, trivial, trivial⟩ ?_
  refine am_Rn.call (t := am_t144) rfl rfl (sx_in ..) ?_
  rintro _ _ ⟨rfl, rfl⟩
  refine am_Rn.go (t := am_t144) rfl 1 rfl ⟨trivial, trivial⟩ ?_
  refine am_Rn.brF (fun z => am_b0.mp z hv) ?_
  refine am_Rn.go (t := am_t144) rfl 3 rfl ⟨trivial, trivial, trivial, trivial⟩ ?_
  refine am_Rn.call (t := am_t144) rfl rfl (sx_in ..) ?_
  rintro _ _ ⟨rfl, rfl⟩
  refine am_Rn.go (t := am_t144) rfl 1 rfl ⟨trivial, trivial⟩ ?_
  refine am_Rn.brT (am_b0.mpr hw) ?_
  refine am_Rn.go (t := am_t144) rfl 1 rfl ⟨trivial, trivial⟩ ?_
  refine am_Rn.ret (t := am_t144) rfl rfl trivial ?_
  exact ⟨rfl, rfl⟩
theorem mm_would2_T (sc : am_Sc) (P : Nat) (hP : P ≤ 9) (v w : Int32) (hv : 0 ≤ v ∧ v ≤ 99) (hw : (0 ≤ w ∧ w ≤ 2)) (N SW : Nat) (hN : N ≤ 20) (nu : Nat → Int32) (h0 : nu 0 = Int32.ofNat N) (hSW : SW ≤ 9) (h9 : (upd nu 7 v) 9 = Int32.ofNat SW) (h7 : 0 ≤ nu 7) (la : Nat → Int32) (hla : ∀ q, q < P → la q = 0 ∨ la q = 1 ∨ la q = 2 ∨ la q = 3 ∨ la q = 4) (tr : Int64) (ty nx tk pl va fa dp cm : Int32) (tx dn me tc ts ps : Nat → Int32) (rd pr pv sa pd lo : Int32) (bo co sh se si er of_ sp ke ik bi bt so nr ou ho cl : Nat → Int32) (B0 B1 B2 B3 B4 B5 B6 B7 B8 B9 B10 B11 B12 : List am_E) (Bs : am_M) : am_Rn sc 144 (0, am_entry 144 [.ref 416, .int 2, .int v, .int w], [], B0 :: B1 :: B2 :: B3 :: B4 :: B5 :: B6 :: B7 :: B8 :: B9 :: B10 :: B11 :: B12 :: bkModel tr ty nx tk pl va fa (Int32.ofNat P) dp cm tx (mp_ru nu dn) (mp_ps (mp_q la me tc ts) ps) (mp_s rd pr pv sa pd lo bo co sh se si er of_) sp ke ik bi bt so nr ou ho cl :: Bs) (fun r M' => r = some (.int (an_would (upd nu 7 v) N (sp_try (upd nu 7 v) la me tc ts P N SW lo bo se er of_ 0) w)) ∧ ∃ sp bi bt so, M' = B0 :: B1 :: B2 :: B3 :: B4 :: B5 :: B6 :: B7 :: B8 :: B9 :: B10 :: B11 :: B12 :: bkModel tr ty nx tk pl va fa (Int32.ofNat P) dp cm tx (mp_ru nu dn) (mp_ps (mp_q la me tc ts) ps) (mp_s rd pr pv sa pd lo bo co sh se si er of_) sp ke ik bi bt so nr ou ho cl :: Bs) := by
  show am_Rn sc 144 (0, [some (.ref 416), some (.int 2), some (.int v), some (.int w), none, none, none, none], [], _) _
  have hb := sp_beg_spec (sp_cut P tc) (sp_cut P ts) (co, sh, si) 9
  refine am_Rn.go (t := am_t144) rfl 6 rfl ⟨trivial, trivial, trivial, trivial, trivial, trivial, trivial⟩ ?_
  refine am_Rn.brF (by decide) ?_
  refine am_Rn.go (t := am_t144) rfl 3 rfl ⟨trivial, trivial, trivial, trivial⟩ ?_
  refine am_Rn.brF (by decide) ?_
  refine am_Rn.go (t := am_t144) rfl 3 rfl ⟨trivial, trivial, trivial, trivial⟩ ?_
  refine am_Rn.brT (by decide) ?_
  refine am_Rn.go (t := am_t144) rfl 5 rfl ⟨trivial, trivial, trivial, trivial, trivial, trivial⟩ ?_
  refine am_Rn.brF (by decide) ?_
  refine am_Rn.go (t := am_t144) rfl 3 rfl ⟨trivial, trivial, trivial, trivial⟩ ?_
  refine am_Rn.brT (by decide) ?_
  refine am_Rn.go (t := am_t144) rfl 6 rfl ⟨trivial, trivial, trivial, trivial, trivial, trivial, trivial⟩ ?_
  refine am_Rn.call (t := am_t144) rfl rfl (sx_in ..) ?_
  rintro _ _ ⟨rfl, rfl⟩
  refine am_Rn.go (t := am_t144) rfl 1 rfl ⟨trivial, trivial⟩ ?_
  refine am_Rn.brF (fun z => am_b0.mp z (by decide)) ?_
  refine am_Rn.go (t := am_t144) rfl 4 rfl ⟨trivial, trivial, trivial, trivial, trivial⟩ ?_
  refine am_Rn.brF (by decide) ?_
  refine am_Rn.go (t := am_t144) rfl 2 rfl ⟨trivial, trivial, trivial⟩ ?_
  refine am_Rn.call (t := am_t144) rfl rfl (sx_in ..) ?_
  rintro _ _ ⟨rfl, rfl⟩
  refine am_Rn.go (t := am_t144) rfl 1 rfl ⟨trivial, trivial⟩ ?_
  refine am_Rn.brF (fun z => am_b0.mp z hv) ?_
  refine am_Rn.go (t := am_t144) rfl 3 rfl ⟨trivial, trivial, trivial, trivial⟩ ?_
  refine am_Rn.call (t := am_t144) rfl rfl (sx_in ..) ?_
  rintro _ _ ⟨rfl, rfl⟩
  refine am_Rn.go (t := am_t144) rfl 1 rfl ⟨trivial, trivial⟩ ?_
  refine am_Rn.brF (fun z => am_b0.mp z hw) ?_
  refine am_Rn.go (t := am_t144) rfl 7 rfl ⟨trivial, trivial, trivial, (by exact am_inb_lit rfl), trivial, trivial, trivial, trivial⟩ ?_
  refine am_Rn.call (t := am_t144) rfl rfl (mm_sets1 ..) ?_
  rintro _ _ ⟨rfl, rfl⟩
  refine am_Rn.go (t := am_t144) rfl 5 rfl ⟨trivial, trivial, trivial, trivial, (by exact am_inb_lit rfl), trivial⟩ ?_
  show am_Rn sc 144 (66, _, _, B0 :: B1 :: B2 :: B3 :: B4 :: B5 :: B6 :: B7 :: B8 :: B9 :: B10 :: B11 :: B12 :: bkModel tr ty nx tk pl va fa (Int32.ofNat P) dp cm tx (upd (mp_ru nu dn) 7 v) (mp_ps (mp_q la me tc ts) ps) (mp_s rd pr pv sa pd lo bo co sh se si er of_) (sp_cov 80 (mp_s rd pr pv sa pd lo bo co sh se si er of_) sp) ke ik bi bt so nr ou ho cl :: Bs) _
  rw [mp_nu nu dn (by omega)]
  refine am_Rn.go (t := am_t144) rfl 1 rfl ⟨trivial, trivial⟩ ?_
  refine am_Rn.call (t := am_t144) rfl rfl (mm_plays sc P hP N SW hN (upd nu 7 v) (h0 := (mp_upd_ne _ _ (by omega)).trans h0) (hS := hSW) (h9 := h9) (h7 := hv.1) la hla ..) ?_
  rintro _ _ ⟨rfl, rfl⟩
  rcases hRq : (sp_play (upd nu 7 v) la me P N SW 20 0 (Int32.ofNat 0, (upd nu 7 v) 4, (upd nu 7 v) 4, 0, 0, lo, bo, (am_fold 9 (sp_begOne (sp_cut P tc) (sp_cut P ts)) (co, sh, si)).1, (am_fold 9 (sp_begOne (sp_cut P tc) (sp_cut P ts)) (co, sh, si)).2.1, se, (am_fold 9 (sp_begOne (sp_cut P tc) (sp_cut P ts)) (co, sh, si)).2.2, er, of_, bi, bt, so)).2 with ⟨rd2, pr2, pv2, sa2, pd2, lo2, bo2, co2, sh2, se2, si2, er2, of2, bi2, bt2, so2⟩
  have q := sp_play_rd (upd nu 7 v) la me P N SW 20 0 (Int32.ofNat 0, (upd nu 7 v) 4, (upd nu 7 v) 4, 0, 0, lo, bo, (am_fold 9 (sp_begOne (sp_cut P tc) (sp_cut P ts)) (co, sh, si)).1, (am_fold 9 (sp_begOne (sp_cut P tc) (sp_cut P ts)) (co, sh, si)).2.1, se, (am_fold 9 (sp_begOne (sp_cut P tc) (sp_cut P ts)) (co, sh, si)).2.2, er, of_, bi, bt, so) rfl
  have hR1 := q.1
  rw [hRq, q.2.2 (by omega) (by omega)] at hR1
  dsimp only at hR1
  subst hR1
  have hrr : sp_rr P (sp_play (upd nu 7 v) la me P N SW 20 0 (Int32.ofNat 0, (upd nu 7 v) 4, (upd nu 7 v) 4, 0, 0, lo, bo, (am_fold 9 (sp_begOne (sp_cut P tc) (sp_cut P ts)) (co, sh, si)).1, (am_fold 9 (sp_begOne (sp_cut P tc) (sp_cut P ts)) (co, sh, si)).2.1, se, (am_fold 9 (sp_begOne (sp_cut P tc) (sp_cut P ts)) (co, sh, si)).2.2, er, of_, bi, bt, so)).2 (sp_try (upd nu 7 v) la me tc ts P N SW lo bo se er of_ 0) := sp_try_c sp_eqN.rfl' sp_eqN.rfl' sp_eqN.rfl' (fun p hp => (hb p (by omega)).1.trans (if_pos hp)) (fun p hp => (hb p (by omega)).2.1.trans (if_pos hp)) sp_eqN.rfl' (fun p hp => (if_neg (Nat.not_lt_zero p)).symm) (fun p hp => (hb p (by omega)).2.2) sp_eqN.rfl' sp_eqN.rfl'
  rw [hRq] at hrr
  generalize (sp_try (upd nu 7 v) la me tc ts P N SW lo bo se er of_ 0) = RT at hrr ⊢
  obtain ⟨rd3, pr3, pv3, sa3, pd3, lo3, bo3, co3, sh3, se3, si3, er3, of3, bi3, bt3, so3⟩ := RT
  obtain ⟨q1, q2, q3, q4, q5, q6, q7, q8⟩ := hrr
  refine am_Rn.go (t := am_t144) rfl 2 rfl ⟨trivial, trivial, trivial⟩ ?_
  refine am_Rn.br (fun h10 => ?_) (fun h10 => ?_)
  · skip
    have kw0 : w = 0 := h10
    refine am_Rn.go (t := am_t144) rfl 2 rfl ⟨trivial, trivial, trivial⟩ ?_
    refine am_Rn.call (t := am_t144) rfl rfl (mm_peak0 sc N hN ..) ?_
    rintro _ _ ⟨rfl, rfl⟩
    refine am_Rn.go (t := am_t144) rfl 7 rfl ⟨trivial, trivial, trivial, trivial, trivial, trivial, (by exact am_inb_lit rfl), trivial⟩ ?_
    show am_Rn sc 144 (90, _, _, B0 :: B1 :: B2 :: B3 :: B4 :: B5 :: B6 :: B7 :: B8 :: B9 :: B10 :: B11 :: B12 :: bkModel tr ty nx tk pl va fa (Int32.ofNat P) dp cm tx (upd (mp_ru (upd nu 7 v) dn) 7 (nu 7)) (mp_ps (mp_q la me tc ts) ps) (mp_s (Int32.ofNat N) pr2 pv2 sa2 pd2 lo2 bo2 co2 sh2 se2 si2 er2 of2) (sp_cov 80 (mp_s rd pr pv sa pd lo bo co sh se si er of_) sp) ke ik bi2 bt2 so2 nr ou ho cl :: Bs) _
    rw [mp_nu _ dn (by omega), am_upd_upd, am_upd_self]
    refine am_Rn.go (t := am_t144) rfl 2 rfl ⟨trivial, trivial, trivial⟩ ?_
    refine am_Rn.call (t := am_t144) rfl rfl (mm_sets0 ..) ?_
    rintro _ _ ⟨rfl, rfl⟩
    rw [mp_scov]
    refine am_Rn.go (t := am_t144) rfl 1 rfl ⟨trivial, trivial⟩ ?_
    refine am_Rn.ret (t := am_t144) rfl rfl trivial ?_
    refine ⟨congrArg (fun z => some (Value.int z)) ?_, _, _, _, _, rfl⟩
    unfold an_would
    first
      | exact (sp_peak_c hN q7).trans (if_pos kw0).symm
      | exact (sp_bub_c hN sp_eqN.rfl' q7).trans ((if_neg kw0).trans (if_pos kw1)).symm
      | exact q4.trans ((if_neg kw0).trans (if_neg kw1)).symm
  · skip
    have kw0 : ¬ w = 0 := h10
    refine am_Rn.go (t := am_t144) rfl 3 rfl ⟨trivial, trivial, trivial, trivial⟩ ?_
    refine am_Rn.br (fun h11 => ?_) (fun h11 => ?_)
    · skip
      have kw1 : w = 1 := h11
      refine am_Rn.go (t := am_t144) rfl 1 rfl ⟨trivial, trivial⟩ ?_
      refine am_Rn.call (t := am_t144) rfl rfl (mm_bubble sc N hN ..) ?_
      rintro _ _ ⟨rfl, rfl⟩
      refine am_Rn.go (t := am_t144) rfl 7 rfl ⟨trivial, trivial, trivial, trivial, trivial, trivial, (by exact am_inb_lit rfl), trivial⟩ ?_
      show am_Rn sc 144 (90, _, _, B0 :: B1 :: B2 :: B3 :: B4 :: B5 :: B6 :: B7 :: B8 :: B9 :: B10 :: B11 :: B12 :: bkModel tr ty nx tk pl va fa (Int32.ofNat P) dp cm tx (upd (mp_ru (upd nu 7 v) dn) 7 (nu 7)) (mp_ps (mp_q la me tc ts) ps) (mp_s (Int32.ofNat N) pr2 pv2 sa2 pd2 lo2 bo2 co2 sh2 se2 si2 er2 of2) (sp_cov 80 (mp_s rd pr pv sa pd lo bo co sh se si er of_) sp) ke ik bi2 bt2 so2 nr ou ho cl :: Bs) _
      rw [mp_nu _ dn (by omega), am_upd_upd, am_upd_self]
      refine am_Rn.go (t := am_t144) rfl 2 rfl ⟨trivial, trivial, trivial⟩ ?_
      refine am_Rn.call (t := am_t144) rfl rfl (mm_sets0 ..) ?_
      rintro _ _ ⟨rfl, rfl⟩
      rw [mp_scov]
      refine am_Rn.go (t := am_t144) rfl 1 rfl ⟨trivial, trivial⟩ ?_
      refine am_Rn.ret (t := am_t144) rfl rfl trivial ?_
      refine ⟨congrArg (fun z => some (Value.int z)) ?_, _, _, _, _, rfl⟩
      unfold an_would
      first
        | exact (sp_peak_c hN q7).trans (if_pos kw0).symm
        | exact (sp_bub_c hN sp_eqN.rfl' q7).trans ((if_neg kw0).trans (if_pos kw1)).symm
        | exact q4.trans ((if_neg kw0).trans (if_neg kw1)).symm
    · skip
      have kw1 : ¬ w = 1 := h11
      refine am_Rn.go (t := am_t144) rfl 10 rfl ⟨trivial, trivial, trivial, (by first | exact am_inb_lit rfl | exact am_inb_of (by omega) (by omega)), trivial, trivial, trivial, trivial, trivial, (by exact am_inb_lit rfl), trivial⟩ ?_
      show am_Rn sc 144 (90, _, _, B0 :: B1 :: B2 :: B3 :: B4 :: B5 :: B6 :: B7 :: B8 :: B9 :: B10 :: B11 :: B12 :: bkModel tr ty nx tk pl va fa (Int32.ofNat P) dp cm tx (upd (mp_ru (upd nu 7 v) dn) 7 (nu 7)) (mp_ps (mp_q la me tc ts) ps) (mp_s (Int32.ofNat N) pr2 pv2 sa2 pd2 lo2 bo2 co2 sh2 se2 si2 er2 of2) (sp_cov 80 (mp_s rd pr pv sa pd lo bo co sh se si er of_) sp) ke ik bi2 bt2 so2 nr ou ho cl :: Bs) _
      rw [mp_nu _ dn (by omega), am_upd_upd, am_upd_self]
      refine am_Rn.go (t := am_t144) rfl 2 rfl ⟨trivial, trivial, trivial⟩ ?_
      refine am_Rn.call (t := am_t144) rfl rfl (mm_sets0 ..) ?_
      rintro _ _ ⟨rfl, rfl⟩
      rw [mp_scov]
      refine am_Rn.go (t := am_t144) rfl 1 rfl ⟨trivial, trivial⟩ ?_
      refine am_Rn.ret (t := am_t144) rfl rfl trivial ?_
      refine ⟨congrArg (fun z => some (Value.int z)) ?_, _, _, _, _, rfl⟩
      unfold an_would
      first
        | exact (sp_peak_c hN q7).trans (if_pos kw0).symm
        | exact (sp_bub_c hN sp_eqN.rfl' q7).trans ((if_neg kw0).trans (if_pos kw1)).symm
        | exact q4.trans ((if_neg kw0).trans (if_neg kw1)).symm
theorem mm_would2_V (sc : am_Sc) (v w : Int32) (hv : ¬ (0 ≤ v ∧ v ≤ 99)) (tr : Int64) (ty nx tk pl va fa dp cm : Int32) (tx nu dn la me tc ts ps : Nat → Int32) (P : Nat) (rd pr pv sa pd lo : Int32) (bo co sh se si er of_ sp ke ik bi bt so nr ou ho cl : Nat → Int32) (B0 B1 B2 B3 B4 B5 B6 B7 B8 B9 B10 B11 B12 : List am_E) (Bs : am_M) : am_Rn sc 144 (0, am_entry 144 [.ref 416, .int 2, .int v, .int w], [], B0 :: B1 :: B2 :: B3 :: B4 :: B5 :: B6 :: B7 :: B8 :: B9 :: B10 :: B11 :: B12 :: bkModel tr ty nx tk pl va fa (Int32.ofNat P) dp cm tx (mp_ru nu dn) (mp_ps (mp_q la me tc ts) ps) (mp_s rd pr pv sa pd lo bo co sh se si er of_) sp ke ik bi bt so nr ou ho cl :: Bs) (fun r M' => r = some (.int (-1)) ∧ M' = B0 :: B1 :: B2 :: B3 :: B4 :: B5 :: B6 :: B7 :: B8 :: B9 :: B10 :: B11 :: B12 :: bkModel tr ty nx tk pl va fa (Int32.ofNat P) dp cm tx (mp_ru nu dn) (mp_ps (mp_q la me tc ts) ps) (mp_s rd pr pv sa pd lo bo co sh se si er of_) sp ke ik bi bt so nr ou ho cl :: Bs) := by
  show am_Rn sc 144 (0, [some (.ref 416), some (.int 2), some (.int v), some (.int w), none, none, none, none], [], _) _
  refine am_Rn.go (t := am_t144) rfl 6 rfl ⟨trivial, trivial, trivial, trivial, trivial, trivial, trivial⟩ ?_
  refine am_Rn.brF (by decide) ?_
  refine am_Rn.go (t := am_t144) rfl 3 rfl ⟨trivial, trivial, trivial, trivial⟩ ?_
  refine am_Rn.brF (by decide) ?_
  refine am_Rn.go (t := am_t144) rfl 3 rfl ⟨trivial, trivial, trivial, trivial⟩ ?_
  refine am_Rn.brT (by decide) ?_
  refine am_Rn.go (t := am_t144) rfl 5 rfl ⟨trivial, trivial, trivial, trivial, trivial, trivial⟩ ?_
  refine am_Rn.brF (by decide) ?_
  refine am_Rn.go (t := am_t144) rfl 3 rfl ⟨trivial, trivial, trivial, trivial⟩ ?_
  refine am_Rn.brT (by decide) ?_
  refine am_Rn.go (t := am_t144) rfl 6 rfl ⟨trivial, trivial, trivial, trivial, trivial, trivial, trivial⟩ ?_
  refine am_Rn.call (t := am_t144) rfl rfl (sx_in ..) ?_
  rintro _ _ ⟨rfl, rfl⟩
  refine am_Rn.go (t := am_t144) rfl 1 rfl ⟨trivial, trivial⟩ ?_
  refine am_Rn.brF (fun z => am_b0.mp z (by decide)) ?_
  refine am_Rn.go (t := am_t144) rfl 4 rfl ⟨trivial, trivial, trivial, trivial, trivial⟩ ?_
  refine am_Rn.brF (by decide) ?_
  refine am_Rn.go (t := am_t144) rfl 2 rfl ⟨trivial, trivial, trivial⟩ ?_
  refine am_Rn.call (t := am_t144) rfl rfl (sx_in ..) ?_
  rintro _ _ ⟨rfl, rfl⟩
  refine am_Rn.go (t := am_t144) rfl 1 rfl ⟨trivial, trivial⟩ ?_
  refine am_Rn.brT (am_b0.mpr hv) ?_
  refine am_Rn.go (t := am_t144) rfl 1 rfl ⟨trivial, trivial⟩ ?_
  refine am_Rn.ret (t := am_t144) rfl rfl trivial ?_
  exact ⟨rfl, rfl⟩
theorem mm_would2_W (sc : am_Sc) (v w : Int32) (hv : 0 ≤ v ∧ v ≤ 99) (hw : ¬ (0 ≤ w ∧ w ≤ 2)) (tr : Int64) (ty nx tk pl va fa dp cm : Int32) (tx nu dn la me tc ts ps : Nat → Int32) (P : Nat) (rd pr pv sa pd lo : Int32) (bo co sh se si er of_ sp ke ik bi bt so nr ou ho cl : Nat → Int32) (B0 B1 B2 B3 B4 B5 B6 B7 B8 B9 B10 B11 B12 : List am_E) (Bs : am_M) : am_Rn sc 144 (0, am_entry 144 [.ref 416, .int 2, .int v, .int w], [], B0 :: B1 :: B2 :: B3 :: B4 :: B5 :: B6 :: B7 :: B8 :: B9 :: B10 :: B11 :: B12 :: bkModel tr ty nx tk pl va fa (Int32.ofNat P) dp cm tx (mp_ru nu dn) (mp_ps (mp_q la me tc ts) ps) (mp_s rd pr pv sa pd lo bo co sh se si er of_) sp ke ik bi bt so nr ou ho cl :: Bs) (fun r M' => r = some (.int (-1)) ∧ M' = B0 :: B1 :: B2 :: B3 :: B4 :: B5 :: B6 :: B7 :: B8 :: B9 :: B10 :: B11 :: B12 :: bkModel tr ty nx tk pl va fa (Int32.ofNat P) dp cm tx (mp_ru nu dn) (mp_ps (mp_q la me tc ts) ps) (mp_s rd pr pv sa pd lo bo co sh se si er of_) sp ke ik bi bt so nr ou ho cl :: Bs) := by
  show am_Rn sc 144 (0, [some (.ref 416), some (.int 2), some (.int v), some (.int w), none, none, none, none], [], _) _
  refine am_Rn.go (t := am_t144) rfl 6 rfl ⟨trivial, trivial, trivial, trivial, trivial, trivial, trivial⟩ ?_
  refine am_Rn.brF (by decide) ?_
  refine am_Rn.go (t := am_t144) rfl 3 rfl ⟨trivial, trivial, trivial, trivial⟩ ?_
  refine am_Rn.brF (by decide) ?_
  refine am_Rn.go (t := am_t144) rfl 3 rfl ⟨trivial, trivial, trivial, trivial⟩ ?_
  refine am_Rn.brT (by decide) ?_
  refine am_Rn.go (t := am_t144) rfl 5 rfl ⟨trivial, trivial, trivial, trivial, trivial, trivial⟩ ?_
  refine am_Rn.brF (by decide) ?_
  refine am_Rn.go (t := am_t144) rfl 3 rfl ⟨trivial, trivial, trivial, trivial⟩ ?_
  refine am_Rn.brT (by decide) ?_
  refine am_Rn.go (t := am_t144) rfl 6 rfl ⟨trivial, trivial, trivial, trivial, trivial, trivial, trivial⟩ ?_
  refine am_Rn.call (t := am_t144) rfl rfl (sx_in ..) ?_
  rintro _ _ ⟨rfl, rfl⟩
  refine am_Rn.go (t := am_t144) rfl 1 rfl ⟨trivial, trivial⟩ ?_
  refine am_Rn.brF (fun z => am_b0.mp z (by decide)) ?_
  refine am_Rn.go (t := am_t144) rfl 4 rfl ⟨trivial, trivial, trivial, trivial, trivial⟩ ?_
  refine am_Rn.brF (by decide) ?_
  refine am_Rn.go (t := am_t144) rfl 2 rfl ⟨trivial, trivial, trivial⟩ ?_
  refine am_Rn.call (t := am_t144) rfl rfl (sx_in ..) ?_
  rintro _ _ ⟨rfl, rfl⟩
  refine am_Rn.go (t := am_t144) rfl 1 rfl ⟨trivial, trivial⟩ ?_
  refine am_Rn.brF (fun z => am_b0.mp z hv) ?_
  refine am_Rn.go (t := am_t144) rfl 3 rfl ⟨trivial, trivial, trivial, trivial⟩ ?_
  refine am_Rn.call (t := am_t144) rfl rfl (sx_in ..) ?_
  rintro _ _ ⟨rfl, rfl⟩
  refine am_Rn.go (t := am_t144) rfl 1 rfl ⟨trivial, trivial⟩ ?_
  refine am_Rn.brT (am_b0.mpr hw) ?_
  refine am_Rn.go (t := am_t144) rfl 1 rfl ⟨trivial, trivial⟩ ?_
  refine am_Rn.ret (t := am_t144) rfl rfl trivial ?_
  exact ⟨rfl, rfl⟩
theorem mm_would3_T (sc : am_Sc) (P : Nat) (hP : P ≤ 9) (v w : Int32) (hv : 0 ≤ v ∧ v ≤ 9) (hw : (0 ≤ w ∧ w ≤ 2)) (N SW : Nat) (hN : N ≤ 20) (nu : Nat → Int32) (h0 : nu 0 = Int32.ofNat N) (hSW : SW ≤ 9) (h9 : (upd nu 8 v) 9 = Int32.ofNat SW) (h7 : 0 ≤ nu 7) (la : Nat → Int32) (hla : ∀ q, q < P → la q = 0 ∨ la q = 1 ∨ la q = 2 ∨ la q = 3 ∨ la q = 4) (tr : Int64) (ty nx tk pl va fa dp cm : Int32) (tx dn me tc ts ps : Nat → Int32) (rd pr pv sa pd lo : Int32) (bo co sh se si er of_ sp ke ik bi bt so nr ou ho cl : Nat → Int32) (B0 B1 B2 B3 B4 B5 B6 B7 B8 B9 B10 B11 B12 : List am_E) (Bs : am_M) : am_Rn sc 144 (0, am_entry 144 [.ref 416, .int 3, .int v, .int w], [], B0 :: B1 :: B2 :: B3 :: B4 :: B5 :: B6 :: B7 :: B8 :: B9 :: B10 :: B11 :: B12 :: bkModel tr ty nx tk pl va fa (Int32.ofNat P) dp cm tx (mp_ru nu dn) (mp_ps (mp_q la me tc ts) ps) (mp_s rd pr pv sa pd lo bo co sh se si er of_) sp ke ik bi bt so nr ou ho cl :: Bs) (fun r M' => r = some (.int (an_would (upd nu 8 v) N (sp_try (upd nu 8 v) la me tc ts P N SW lo bo se er of_ 0) w)) ∧ ∃ sp bi bt so, M' = B0 :: B1 :: B2 :: B3 :: B4 :: B5 :: B6 :: B7 :: B8 :: B9 :: B10 :: B11 :: B12 :: bkModel tr ty nx tk pl va fa (Int32.ofNat P) dp cm tx (mp_ru nu dn) (mp_ps (mp_q la me tc ts) ps) (mp_s rd pr pv sa pd lo bo co sh se si er of_) sp ke ik bi bt so nr ou ho cl :: Bs) := by
  show am_Rn sc 144 (0, [some (.ref 416), some (.int 3), some (.int v), some (.int w), none, none, none, none], [], _) _
  have hb := sp_beg_spec (sp_cut P tc) (sp_cut P ts) (co, sh, si) 9
  refine am_Rn.go (t := am_t144) rfl 6 rfl ⟨trivial, trivial, trivial, trivial, trivial, trivial, trivial⟩ ?_
  refine am_Rn.brF (by decide) ?_
  refine am_Rn.go (t := am_t144) rfl 3 rfl ⟨trivial, trivial, trivial, trivial⟩ ?_
  refine am_Rn.brT (by decide) ?_
  refine am_Rn.go (t := am_t144) rfl 5 rfl ⟨trivial, trivial, trivial, trivial, trivial, trivial⟩ ?_
  refine am_Rn.brF (by decide) ?_
  refine am_Rn.go (t := am_t144) rfl 3 rfl ⟨trivial, trivial, trivial, trivial⟩ ?_
  refine am_Rn.brF (by decide) ?_
  refine am_Rn.go (t := am_t144) rfl 5 rfl ⟨trivial, trivial, trivial, trivial, trivial, trivial⟩ ?_
  refine am_Rn.call (t := am_t144) rfl rfl (sx_in ..) ?_
  rintro _ _ ⟨rfl, rfl⟩
  refine am_Rn.go (t := am_t144) rfl 1 rfl ⟨trivial, trivial⟩ ?_
  refine am_Rn.brF (fun z => am_b0.mp z (by decide)) ?_
  refine am_Rn.go (t := am_t144) rfl 4 rfl ⟨trivial, trivial, trivial, trivial, trivial⟩ ?_
  refine am_Rn.brF (by decide) ?_
  refine am_Rn.go (t := am_t144) rfl 2 rfl ⟨trivial, trivial, trivial⟩ ?_
  refine am_Rn.call (t := am_t144) rfl rfl (sx_in ..) ?_
  rintro _ _ ⟨rfl, rfl⟩
  refine am_Rn.go (t := am_t144) rfl 1 rfl ⟨trivial, trivial⟩ ?_
  refine am_Rn.brF (fun z => am_b0.mp z hv) ?_
  refine am_Rn.go (t := am_t144) rfl 3 rfl ⟨trivial, trivial, trivial, trivial⟩ ?_
  refine am_Rn.call (t := am_t144) rfl rfl (sx_in ..) ?_
  rintro _ _ ⟨rfl, rfl⟩
  refine am_Rn.go (t := am_t144) rfl 1 rfl ⟨trivial, trivial⟩ ?_
  refine am_Rn.brF (fun z => am_b0.mp z hw) ?_
  refine am_Rn.go (t := am_t144) rfl 7 rfl ⟨trivial, trivial, trivial, (by exact am_inb_lit rfl), trivial, trivial, trivial, trivial⟩ ?_
  refine am_Rn.call (t := am_t144) rfl rfl (mm_sets1 ..) ?_
  rintro _ _ ⟨rfl, rfl⟩
  refine am_Rn.go (t := am_t144) rfl 5 rfl ⟨trivial, trivial, trivial, trivial, (by exact am_inb_lit rfl), trivial⟩ ?_
  show am_Rn sc 144 (66, _, _, B0 :: B1 :: B2 :: B3 :: B4 :: B5 :: B6 :: B7 :: B8 :: B9 :: B10 :: B11 :: B12 :: bkModel tr ty nx tk pl va fa (Int32.ofNat P) dp cm tx (upd (mp_ru nu dn) 8 v) (mp_ps (mp_q la me tc ts) ps) (mp_s rd pr pv sa pd lo bo co sh se si er of_) (sp_cov 80 (mp_s rd pr pv sa pd lo bo co sh se si er of_) sp) ke ik bi bt so nr ou ho cl :: Bs) _
  rw [mp_nu nu dn (by omega)]
  refine am_Rn.go (t := am_t144) rfl 1 rfl ⟨trivial, trivial⟩ ?_
  refine am_Rn.call (t := am_t144) rfl rfl (mm_plays sc P hP N SW hN (upd nu 8 v) (h0 := (mp_upd_ne _ _ (by omega)).trans h0) (hS := hSW) (h9 := h9) (h7 := (by rw [mp_upd_ne _ _ (by omega)]; exact h7)) la hla ..) ?_
  rintro _ _ ⟨rfl, rfl⟩
  rcases hRq : (sp_play (upd nu 8 v) la me P N SW 20 0 (Int32.ofNat 0, (upd nu 8 v) 4, (upd nu 8 v) 4, 0, 0, lo, bo, (am_fold 9 (sp_begOne (sp_cut P tc) (sp_cut P ts)) (co, sh, si)).1, (am_fold 9 (sp_begOne (sp_cut P tc) (sp_cut P ts)) (co, sh, si)).2.1, se, (am_fold 9 (sp_begOne (sp_cut P tc) (sp_cut P ts)) (co, sh, si)).2.2, er, of_, bi, bt, so)).2 with ⟨rd2, pr2, pv2, sa2, pd2, lo2, bo2, co2, sh2, se2, si2, er2, of2, bi2, bt2, so2⟩
  have q := sp_play_rd (upd nu 8 v) la me P N SW 20 0 (Int32.ofNat 0, (upd nu 8 v) 4, (upd nu 8 v) 4, 0, 0, lo, bo, (am_fold 9 (sp_begOne (sp_cut P tc) (sp_cut P ts)) (co, sh, si)).1, (am_fold 9 (sp_begOne (sp_cut P tc) (sp_cut P ts)) (co, sh, si)).2.1, se, (am_fold 9 (sp_begOne (sp_cut P tc) (sp_cut P ts)) (co, sh, si)).2.2, er, of_, bi, bt, so) rfl
  have hR1 := q.1
  rw [hRq, q.2.2 (by omega) (by omega)] at hR1
  dsimp only at hR1
  subst hR1
  have hrr : sp_rr P (sp_play (upd nu 8 v) la me P N SW 20 0 (Int32.ofNat 0, (upd nu 8 v) 4, (upd nu 8 v) 4, 0, 0, lo, bo, (am_fold 9 (sp_begOne (sp_cut P tc) (sp_cut P ts)) (co, sh, si)).1, (am_fold 9 (sp_begOne (sp_cut P tc) (sp_cut P ts)) (co, sh, si)).2.1, se, (am_fold 9 (sp_begOne (sp_cut P tc) (sp_cut P ts)) (co, sh, si)).2.2, er, of_, bi, bt, so)).2 (sp_try (upd nu 8 v) la me tc ts P N SW lo bo se er of_ 0) := sp_try_c sp_eqN.rfl' sp_eqN.rfl' sp_eqN.rfl' (fun p hp => (hb p (by omega)).1.trans (if_pos hp)) (fun p hp => (hb p (by omega)).2.1.trans (if_pos hp)) sp_eqN.rfl' (fun p hp => (if_neg (Nat.not_lt_zero p)).symm) (fun p hp => (hb p (by omega)).2.2) sp_eqN.rfl' sp_eqN.rfl'
  rw [hRq] at hrr
  generalize (sp_try (upd nu 8 v) la me tc ts P N SW lo bo se er of_ 0) = RT at hrr ⊢
  obtain ⟨rd3, pr3, pv3, sa3, pd3, lo3, bo3, co3, sh3, se3, si3, er3, of3, bi3, bt3, so3⟩ := RT
  obtain ⟨q1, q2, q3, q4, q5, q6, q7, q8⟩ := hrr
  refine am_Rn.go (t := am_t144) rfl 2 rfl ⟨trivial, trivial, trivial⟩ ?_
  refine am_Rn.br (fun h9 => ?_) (fun h9 => ?_)
  · skip
    have kw0 : w = 0 := h9
    refine am_Rn.go (t := am_t144) rfl 2 rfl ⟨trivial, trivial, trivial⟩ ?_
    refine am_Rn.call (t := am_t144) rfl rfl (mm_peak0 sc N hN ..) ?_
    rintro _ _ ⟨rfl, rfl⟩
    refine am_Rn.go (t := am_t144) rfl 7 rfl ⟨trivial, trivial, trivial, trivial, trivial, trivial, (by exact am_inb_lit rfl), trivial⟩ ?_
    show am_Rn sc 144 (90, _, _, B0 :: B1 :: B2 :: B3 :: B4 :: B5 :: B6 :: B7 :: B8 :: B9 :: B10 :: B11 :: B12 :: bkModel tr ty nx tk pl va fa (Int32.ofNat P) dp cm tx (upd (mp_ru (upd nu 8 v) dn) 8 (nu 8)) (mp_ps (mp_q la me tc ts) ps) (mp_s (Int32.ofNat N) pr2 pv2 sa2 pd2 lo2 bo2 co2 sh2 se2 si2 er2 of2) (sp_cov 80 (mp_s rd pr pv sa pd lo bo co sh se si er of_) sp) ke ik bi2 bt2 so2 nr ou ho cl :: Bs) _
    rw [mp_nu _ dn (by omega), am_upd_upd, am_upd_self]
    refine am_Rn.go (t := am_t144) rfl 2 rfl ⟨trivial, trivial, trivial⟩ ?_
    refine am_Rn.call (t := am_t144) rfl rfl (mm_sets0 ..) ?_
    rintro _ _ ⟨rfl, rfl⟩
    rw [mp_scov]
    refine am_Rn.go (t := am_t144) rfl 1 rfl ⟨trivial, trivial⟩ ?_
    refine am_Rn.ret (t := am_t144) rfl rfl trivial ?_
    refine ⟨congrArg (fun z => some (Value.int z)) ?_, _, _, _, _, rfl⟩
    unfold an_would
    first
      | exact (sp_peak_c hN q7).trans (if_pos kw0).symm
      | exact (sp_bub_c hN sp_eqN.rfl' q7).trans ((if_neg kw0).trans (if_pos kw1)).symm
      | exact q4.trans ((if_neg kw0).trans (if_neg kw1)).symm
  · skip
    have kw0 : ¬ w = 0 := h9
    refine am_Rn.go (t := am_t144) rfl 3 rfl ⟨trivial, trivial, trivial, trivial⟩ ?_
    refine am_Rn.br (fun h10 => ?_) (fun h10 => ?_)
    · skip
      have kw1 : w = 1 := h10
      refine am_Rn.go (t := am_t144) rfl 1 rfl ⟨trivial, trivial⟩ ?_
      refine am_Rn.call (t := am_t144) rfl rfl (mm_bubble sc N hN ..) ?_
      rintro _ _ ⟨rfl, rfl⟩
      refine am_Rn.go (t := am_t144) rfl 7 rfl ⟨trivial, trivial, trivial, trivial, trivial, trivial, (by exact am_inb_lit rfl), trivial⟩ ?_
      show am_Rn sc 144 (90, _, _, B0 :: B1 :: B2 :: B3 :: B4 :: B5 :: B6 :: B7 :: B8 :: B9 :: B10 :: B11 :: B12 :: bkModel tr ty nx tk pl va fa (Int32.ofNat P) dp cm tx (upd (mp_ru (upd nu 8 v) dn) 8 (nu 8)) (mp_ps (mp_q la me tc ts) ps) (mp_s (Int32.ofNat N) pr2 pv2 sa2 pd2 lo2 bo2 co2 sh2 se2 si2 er2 of2) (sp_cov 80 (mp_s rd pr pv sa pd lo bo co sh se si er of_) sp) ke ik bi2 bt2 so2 nr ou ho cl :: Bs) _
      rw [mp_nu _ dn (by omega), am_upd_upd, am_upd_self]
      refine am_Rn.go (t := am_t144) rfl 2 rfl ⟨trivial, trivial, trivial⟩ ?_
      refine am_Rn.call (t := am_t144) rfl rfl (mm_sets0 ..) ?_
      rintro _ _ ⟨rfl, rfl⟩
      rw [mp_scov]
      refine am_Rn.go (t := am_t144) rfl 1 rfl ⟨trivial, trivial⟩ ?_
      refine am_Rn.ret (t := am_t144) rfl rfl trivial ?_
      refine ⟨congrArg (fun z => some (Value.int z)) ?_, _, _, _, _, rfl⟩
      unfold an_would
      first
        | exact (sp_peak_c hN q7).trans (if_pos kw0).symm
        | exact (sp_bub_c hN sp_eqN.rfl' q7).trans ((if_neg kw0).trans (if_pos kw1)).symm
        | exact q4.trans ((if_neg kw0).trans (if_neg kw1)).symm
    · skip
      have kw1 : ¬ w = 1 := h10
      refine am_Rn.go (t := am_t144) rfl 10 rfl ⟨trivial, trivial, trivial, (by first | exact am_inb_lit rfl | exact am_inb_of (by omega) (by omega)), trivial, trivial, trivial, trivial, trivial, (by exact am_inb_lit rfl), trivial⟩ ?_
      show am_Rn sc 144 (90, _, _, B0 :: B1 :: B2 :: B3 :: B4 :: B5 :: B6 :: B7 :: B8 :: B9 :: B10 :: B11 :: B12 :: bkModel tr ty nx tk pl va fa (Int32.ofNat P) dp cm tx (upd (mp_ru (upd nu 8 v) dn) 8 (nu 8)) (mp_ps (mp_q la me tc ts) ps) (mp_s (Int32.ofNat N) pr2 pv2 sa2 pd2 lo2 bo2 co2 sh2 se2 si2 er2 of2) (sp_cov 80 (mp_s rd pr pv sa pd lo bo co sh se si er of_) sp) ke ik bi2 bt2 so2 nr ou ho cl :: Bs) _
      rw [mp_nu _ dn (by omega), am_upd_upd, am_upd_self]
      refine am_Rn.go (t := am_t144) rfl 2 rfl ⟨trivial, trivial, trivial⟩ ?_
      refine am_Rn.call (t := am_t144) rfl rfl (mm_sets0 ..) ?_
      rintro _ _ ⟨rfl, rfl⟩
      rw [mp_scov]
      refine am_Rn.go (t := am_t144) rfl 1 rfl ⟨trivial, trivial⟩ ?_
      refine am_Rn.ret (t := am_t144) rfl rfl trivial ?_
      refine ⟨congrArg (fun z => some (Value.int z)) ?_, _, _, _, _, rfl⟩
      unfold an_would
      first
        | exact (sp_peak_c hN q7).trans (if_pos kw0).symm
        | exact (sp_bub_c hN sp_eqN.rfl' q7).trans ((if_neg kw0).trans (if_pos kw1)).symm
        | exact q4.trans ((if_neg kw0).trans (if_neg kw1)).symm
theorem mm_would3_V (sc : am_Sc) (v w : Int32) (hv : ¬ (0 ≤ v ∧ v ≤ 9)) (tr : Int64) (ty nx tk pl va fa dp cm : Int32) (tx nu dn la me tc ts ps : Nat → Int32) (P : Nat) (rd pr pv sa pd lo : Int32) (bo co sh se si er of_ sp ke ik bi bt so nr ou ho cl : Nat → Int32) (B0 B1 B2 B3 B4 B5 B6 B7 B8 B9 B10 B11 B12 : List am_E) (Bs : am_M) : am_Rn sc 144 (0, am_entry 144 [.ref 416, .int 3, .int v, .int w], [], B0 :: B1 :: B2 :: B3 :: B4 :: B5 :: B6 :: B7 :: B8 :: B9 :: B10 :: B11 :: B12 :: bkModel tr ty nx tk pl va fa (Int32.ofNat P) dp cm tx (mp_ru nu dn) (mp_ps (mp_q la me tc ts) ps) (mp_s rd pr pv sa pd lo bo co sh se si er of_) sp ke ik bi bt so nr ou ho cl :: Bs) (fun r M' => r = some (.int (-1)) ∧ M' = B0 :: B1 :: B2 :: B3 :: B4 :: B5 :: B6 :: B7 :: B8 :: B9 :: B10 :: B11 :: B12 :: bkModel tr ty nx tk pl va fa (Int32.ofNat P) dp cm tx (mp_ru nu dn) (mp_ps (mp_q la me tc ts) ps) (mp_s rd pr pv sa pd lo bo co sh se si er of_) sp ke ik bi bt so nr ou ho cl :: Bs) := by
  show am_Rn sc 144 (0, [some (.ref 416), some (.int 3), some (.int v), some (.int w), none, none, none, none], [], _) _
  refine am_Rn.go (t := am_t144) rfl 6 rfl ⟨trivial, trivial, trivial, trivial, trivial, trivial, trivial⟩ ?_
  refine am_Rn.brF (by decide) ?_
  refine am_Rn.go (t := am_t144) rfl 3 rfl ⟨trivial, trivial, trivial, trivial⟩ ?_
  refine am_Rn.brT (by decide) ?_
  refine am_Rn.go (t := am_t144) rfl 5 rfl ⟨trivial, trivial, trivial, trivial, trivial, trivial⟩ ?_
  refine am_Rn.brF (by decide) ?_
  refine am_Rn.go (t := am_t144) rfl 3 rfl ⟨trivial, trivial, trivial, trivial⟩ ?_
  refine am_Rn.brF (by decide) ?_
  refine am_Rn.go (t := am_t144) rfl 5 rfl ⟨trivial, trivial, trivial, trivial, trivial, trivial⟩ ?_
  refine am_Rn.call (t := am_t144) rfl rfl (sx_in ..) ?_
  rintro _ _ ⟨rfl, rfl⟩
  refine am_Rn.go (t := am_t144) rfl 1 rfl ⟨trivial, trivial⟩ ?_
  refine am_Rn.brF (fun z => am_b0.mp z (by decide)) ?_
  refine am_Rn.go (t := am_t144) rfl 4 rfl ⟨trivial, trivial, trivial, trivial, trivial⟩ ?_
  refine am_Rn.brF (by decide) ?_
  refine am_Rn.go (t := am_t144) rfl 2 rfl ⟨trivial, trivial, trivial⟩ ?_
  refine am_Rn.call (t := am_t144) rfl rfl (sx_in ..) ?_
  rintro _ _ ⟨rfl, rfl⟩
  refine am_Rn.go (t := am_t144) rfl 1 rfl ⟨trivial, trivial⟩ ?_
  refine am_Rn.brT (am_b0.mpr hv) ?_
  refine am_Rn.go (t := am_t144) rfl 1 rfl ⟨trivial, trivial⟩ ?_
  refine am_Rn.ret (t := am_t144) rfl rfl trivial ?_
  exact ⟨rfl, rfl⟩
theorem mm_would3_W (sc : am_Sc) (v w : Int32) (hv : 0 ≤ v ∧ v ≤ 9) (hw : ¬ (0 ≤ w ∧ w ≤ 2)) (tr : Int64) (ty nx tk pl va fa dp cm : Int32) (tx nu dn la me tc ts ps : Nat → Int32) (P : Nat) (rd pr pv sa pd lo : Int32) (bo co sh se si er of_ sp ke ik bi bt so nr ou ho cl : Nat → Int32) (B0 B1 B2 B3 B4 B5 B6 B7 B8 B9 B10 B11 B12 : List am_E) (Bs : am_M) : am_Rn sc 144 (0, am_entry 144 [.ref 416, .int 3, .int v, .int w], [], B0 :: B1 :: B2 :: B3 :: B4 :: B5 :: B6 :: B7 :: B8 :: B9 :: B10 :: B11 :: B12 :: bkModel tr ty nx tk pl va fa (Int32.ofNat P) dp cm tx (mp_ru nu dn) (mp_ps (mp_q la me tc ts) ps) (mp_s rd pr pv sa pd lo bo co sh se si er of_) sp ke ik bi bt so nr ou ho cl :: Bs) (fun r M' => r = some (.int (-1)) ∧ M' = B0 :: B1 :: B2 :: B3 :: B4 :: B5 :: B6 :: B7 :: B8 :: B9 :: B10 :: B11 :: B12 :: bkModel tr ty nx tk pl va fa (Int32.ofNat P) dp cm tx (mp_ru nu dn) (mp_ps (mp_q la me tc ts) ps) (mp_s rd pr pv sa pd lo bo co sh se si er of_) sp ke ik bi bt so nr ou ho cl :: Bs) := by
  show am_Rn sc 144 (0, [some (.ref 416), some (.int 3), some (.int v), some (.int w), none, none, none, none], [], _) _
  refine am_Rn.go (t := am_t144) rfl 6 rfl ⟨trivial, trivial, trivial, trivial, trivial, trivial, trivial⟩ ?_
  refine am_Rn.brF (by decide) ?_
  refine am_Rn.go (t := am_t144) rfl 3 rfl ⟨trivial, trivial, trivial, trivial⟩ ?_
  refine am_Rn.brT (by decide) ?_
  refine am_Rn.go (t := am_t144) rfl 5 rfl ⟨trivial, trivial, trivial, trivial, trivial, trivial⟩ ?_
  refine am_Rn.brF (by decide) ?_
  refine am_Rn.go (t := am_t144) rfl 3 rfl ⟨trivial, trivial, trivial, trivial⟩ ?_
  refine am_Rn.brF (by decide) ?_
  refine am_Rn.go (t := am_t144) rfl 5 rfl ⟨trivial, trivial, trivial, trivial, trivial, trivial⟩ ?_
  refine am_Rn.call (t := am_t144) rfl rfl (sx_in ..) ?_
  rintro _ _ ⟨rfl, rfl⟩
  refine am_Rn.go (t := am_t144) rfl 1 rfl ⟨trivial, trivial⟩ ?_
  refine am_Rn.brF (fun z => am_b0.mp z (by decide)) ?_
  refine am_Rn.go (t := am_t144) rfl 4 rfl ⟨trivial, trivial, trivial, trivial, trivial⟩ ?_
  refine am_Rn.brF (by decide) ?_
  refine am_Rn.go (t := am_t144) rfl 2 rfl ⟨trivial, trivial, trivial⟩ ?_
  refine am_Rn.call (t := am_t144) rfl rfl (sx_in ..) ?_
  rintro _ _ ⟨rfl, rfl⟩
  refine am_Rn.go (t := am_t144) rfl 1 rfl ⟨trivial, trivial⟩ ?_
  refine am_Rn.brF (fun z => am_b0.mp z hv) ?_
  refine am_Rn.go (t := am_t144) rfl 3 rfl ⟨trivial, trivial, trivial, trivial⟩ ?_
  refine am_Rn.call (t := am_t144) rfl rfl (sx_in ..) ?_
  rintro _ _ ⟨rfl, rfl⟩
  refine am_Rn.go (t := am_t144) rfl 1 rfl ⟨trivial, trivial⟩ ?_
  refine am_Rn.brT (am_b0.mpr hw) ?_
  refine am_Rn.go (t := am_t144) rfl 1 rfl ⟨trivial, trivial⟩ ?_
  refine am_Rn.ret (t := am_t144) rfl rfl trivial ?_
  exact ⟨rfl, rfl⟩
theorem mm_would4_T (sc : am_Sc) (P : Nat) (hP : P ≤ 9) (v w : Int32) (hv : 1 ≤ v ∧ v ≤ 9) (hw : (0 ≤ w ∧ w ≤ 2)) (N SW : Nat) (hN : N ≤ 20) (nu : Nat → Int32) (h0 : nu 0 = Int32.ofNat N) (hSW : SW ≤ 9) (h9 : (upd nu 9 v) 9 = Int32.ofNat SW) (h7 : 0 ≤ nu 7) (la : Nat → Int32) (hla : ∀ q, q < P → la q = 0 ∨ la q = 1 ∨ la q = 2 ∨ la q = 3 ∨ la q = 4) (tr : Int64) (ty nx tk pl va fa dp cm : Int32) (tx dn me tc ts ps : Nat → Int32) (rd pr pv sa pd lo : Int32) (bo co sh se si er of_ sp ke ik bi bt so nr ou ho cl : Nat → Int32) (B0 B1 B2 B3 B4 B5 B6 B7 B8 B9 B10 B11 B12 : List am_E) (Bs : am_M) : am_Rn sc 144 (0, am_entry 144 [.ref 416, .int 4, .int v, .int w], [], B0 :: B1 :: B2 :: B3 :: B4 :: B5 :: B6 :: B7 :: B8 :: B9 :: B10 :: B11 :: B12 :: bkModel tr ty nx tk pl va fa (Int32.ofNat P) dp cm tx (mp_ru nu dn) (mp_ps (mp_q la me tc ts) ps) (mp_s rd pr pv sa pd lo bo co sh se si er of_) sp ke ik bi bt so nr ou ho cl :: Bs) (fun r M' => r = some (.int (an_would (upd nu 9 v) N (sp_try (upd nu 9 v) la me tc ts P N SW lo bo se er of_ 0) w)) ∧ ∃ sp bi bt so, M' = B0 :: B1 :: B2 :: B3 :: B4 :: B5 :: B6 :: B7 :: B8 :: B9 :: B10 :: B11 :: B12 :: bkModel tr ty nx tk pl va fa (Int32.ofNat P) dp cm tx (mp_ru nu dn) (mp_ps (mp_q la me tc ts) ps) (mp_s rd pr pv sa pd lo bo co sh se si er of_) sp ke ik bi bt so nr ou ho cl :: Bs) := by
  show am_Rn sc 144 (0, [some (.ref 416), some (.int 4), some (.int v), some (.int w), none, none, none, none], [], _) _
  have hb := sp_beg_spec (sp_cut P tc) (sp_cut P ts) (co, sh, si) 9
  refine am_Rn.go (t := am_t144) rfl 6 rfl ⟨trivial, trivial, trivial, trivial, trivial, trivial, trivial⟩ ?_
  refine am_Rn.brT (by decide) ?_
  refine am_Rn.go (t := am_t144) rfl 5 rfl ⟨trivial, trivial, trivial, trivial, trivial, trivial⟩ ?_
  refine am_Rn.brF (by decide) ?_
  refine am_Rn.go (t := am_t144) rfl 3 rfl ⟨trivial, trivial, trivial, trivial⟩ ?_
  refine am_Rn.brF (by decide) ?_
  refine am_Rn.go (t := am_t144) rfl 5 rfl ⟨trivial, trivial, trivial, trivial, trivial, trivial⟩ ?_
  refine am_Rn.call (t := am_t144) rfl rfl (sx_in ..) ?_
  rintro _ _ ⟨rfl, rfl⟩
  refine am_Rn.go (t := am_t144) rfl 1 rfl ⟨trivial, trivial⟩ ?_
  refine am_Rn.brF (fun z => am_b0.mp z (by decide)) ?_
  refine am_Rn.go (t := am_t144) rfl 4 rfl ⟨trivial, trivial, trivial, trivial, trivial⟩ ?_
  refine am_Rn.brT (by decide) ?_
  refine am_Rn.go (t := am_t144) rfl 3 rfl ⟨trivial, trivial, trivial, trivial⟩ ?_
  refine am_Rn.call (t := am_t144) rfl rfl (sx_in ..) ?_
  rintro _ _ ⟨rfl, rfl⟩
  refine am_Rn.go (t := am_t144) rfl 1 rfl ⟨trivial, trivial⟩ ?_
  refine am_Rn.brF (fun z => am_b0.mp z hv) ?_
  refine am_Rn.go (t := am_t144) rfl 3 rfl ⟨trivial, trivial, trivial, trivial⟩ ?_
  refine am_Rn.call (t := am_t144) rfl rfl (sx_in ..) ?_
  rintro _ _ ⟨rfl, rfl⟩
  refine am_Rn.go (t := am_t144) rfl 1 rfl ⟨trivial, trivial⟩ ?_
  refine am_Rn.brF (fun z => am_b0.mp z hw) ?_
  refine am_Rn.go (t := am_t144) rfl 7 rfl ⟨trivial, trivial, trivial, (by exact am_inb_lit rfl), trivial, trivial, trivial, trivial⟩ ?_
  refine am_Rn.call (t := am_t144) rfl rfl (mm_sets1 ..) ?_
  rintro _ _ ⟨rfl, rfl⟩
  refine am_Rn.go (t := am_t144) rfl 5 rfl ⟨trivial, trivial, trivial, trivial, (by exact am_inb_lit rfl), trivial⟩ ?_
  show am_Rn sc 144 (66, _, _, B0 :: B1 :: B2 :: B3 :: B4 :: B5 :: B6 :: B7 :: B8 :: B9 :: B10 :: B11 :: B12 :: bkModel tr ty nx tk pl va fa (Int32.ofNat P) dp cm tx (upd (mp_ru nu dn) 9 v) (mp_ps (mp_q la me tc ts) ps) (mp_s rd pr pv sa pd lo bo co sh se si er of_) (sp_cov 80 (mp_s rd pr pv sa pd lo bo co sh se si er of_) sp) ke ik bi bt so nr ou ho cl :: Bs) _
  rw [mp_nu nu dn (by omega)]
  refine am_Rn.go (t := am_t144) rfl 1 rfl ⟨trivial, trivial⟩ ?_
  refine am_Rn.call (t := am_t144) rfl rfl (mm_plays sc P hP N SW hN (upd nu 9 v) (h0 := (mp_upd_ne _ _ (by omega)).trans h0) (hS := hSW) (h9 := h9) (h7 := (by rw [mp_upd_ne _ _ (by omega)]; exact h7)) la hla ..) ?_
  rintro _ _ ⟨rfl, rfl⟩
  rcases hRq : (sp_play (upd nu 9 v) la me P N SW 20 0 (Int32.ofNat 0, (upd nu 9 v) 4, (upd nu 9 v) 4, 0, 0, lo, bo, (am_fold 9 (sp_begOne (sp_cut P tc) (sp_cut P ts)) (co, sh, si)).1, (am_fold 9 (sp_begOne (sp_cut P tc) (sp_cut P ts)) (co, sh, si)).2.1, se, (am_fold 9 (sp_begOne (sp_cut P tc) (sp_cut P ts)) (co, sh, si)).2.2, er, of_, bi, bt, so)).2 with ⟨rd2, pr2, pv2, sa2, pd2, lo2, bo2, co2, sh2, se2, si2, er2, of2, bi2, bt2, so2⟩
  have q := sp_play_rd (upd nu 9 v) la me P N SW 20 0 (Int32.ofNat 0, (upd nu 9 v) 4, (upd nu 9 v) 4, 0, 0, lo, bo, (am_fold 9 (sp_begOne (sp_cut P tc) (sp_cut P ts)) (co, sh, si)).1, (am_fold 9 (sp_begOne (sp_cut P tc) (sp_cut P ts)) (co, sh, si)).2.1, se, (am_fold 9 (sp_begOne (sp_cut P tc) (sp_cut P ts)) (co, sh, si)).2.2, er, of_, bi, bt, so) rfl
  have hR1 := q.1
  rw [hRq, q.2.2 (by omega) (by omega)] at hR1
  dsimp only at hR1
  subst hR1
  have hrr : sp_rr P (sp_play (upd nu 9 v) la me P N SW 20 0 (Int32.ofNat 0, (upd nu 9 v) 4, (upd nu 9 v) 4, 0, 0, lo, bo, (am_fold 9 (sp_begOne (sp_cut P tc) (sp_cut P ts)) (co, sh, si)).1, (am_fold 9 (sp_begOne (sp_cut P tc) (sp_cut P ts)) (co, sh, si)).2.1, se, (am_fold 9 (sp_begOne (sp_cut P tc) (sp_cut P ts)) (co, sh, si)).2.2, er, of_, bi, bt, so)).2 (sp_try (upd nu 9 v) la me tc ts P N SW lo bo se er of_ 0) := sp_try_c sp_eqN.rfl' sp_eqN.rfl' sp_eqN.rfl' (fun p hp => (hb p (by omega)).1.trans (if_pos hp)) (fun p hp => (hb p (by omega)).2.1.trans (if_pos hp)) sp_eqN.rfl' (fun p hp => (if_neg (Nat.not_lt_zero p)).symm) (fun p hp => (hb p (by omega)).2.2) sp_eqN.rfl' sp_eqN.rfl'
  rw [hRq] at hrr
  generalize (sp_try (upd nu 9 v) la me tc ts P N SW lo bo se er of_ 0) = RT at hrr ⊢
  obtain ⟨rd3, pr3, pv3, sa3, pd3, lo3, bo3, co3, sh3, se3, si3, er3, of3, bi3, bt3, so3⟩ := RT
  obtain ⟨q1, q2, q3, q4, q5, q6, q7, q8⟩ := hrr
  refine am_Rn.go (t := am_t144) rfl 2 rfl ⟨trivial, trivial, trivial⟩ ?_
  refine am_Rn.br (fun h8 => ?_) (fun h8 => ?_)
  · skip
    have kw0 : w = 0 := h8
    refine am_Rn.go (t := am_t144) rfl 2 rfl ⟨trivial, trivial, trivial⟩ ?_
    refine am_Rn.call (t := am_t144) rfl rfl (mm_peak0 sc N hN ..) ?_
    rintro _ _ ⟨rfl, rfl⟩
    refine am_Rn.go (t := am_t144) rfl 7 rfl ⟨trivial, trivial, trivial, trivial, trivial, trivial, (by exact am_inb_lit rfl), trivial⟩ ?_
    show am_Rn sc 144 (90, _, _, B0 :: B1 :: B2 :: B3 :: B4 :: B5 :: B6 :: B7 :: B8 :: B9 :: B10 :: B11 :: B12 :: bkModel tr ty nx tk pl va fa (Int32.ofNat P) dp cm tx (upd (mp_ru (upd nu 9 v) dn) 9 (nu 9)) (mp_ps (mp_q la me tc ts) ps) (mp_s (Int32.ofNat N) pr2 pv2 sa2 pd2 lo2 bo2 co2 sh2 se2 si2 er2 of2) (sp_cov 80 (mp_s rd pr pv sa pd lo bo co sh se si er of_) sp) ke ik bi2 bt2 so2 nr ou ho cl :: Bs) _
    rw [mp_nu _ dn (by omega), am_upd_upd, am_upd_self]
    refine am_Rn.go (t := am_t144) rfl 2 rfl ⟨trivial, trivial, trivial⟩ ?_
    refine am_Rn.call (t := am_t144) rfl rfl (mm_sets0 ..) ?_
    rintro _ _ ⟨rfl, rfl⟩
    rw [mp_scov]
    refine am_Rn.go (t := am_t144) rfl 1 rfl ⟨trivial, trivial⟩ ?_
    refine am_Rn.ret (t := am_t144) rfl rfl trivial ?_
    refine ⟨congrArg (fun z => some (Value.int z)) ?_, _, _, _, _, rfl⟩
    unfold an_would
    first
      | exact (sp_peak_c hN q7).trans (if_pos kw0).symm
      | exact (sp_bub_c hN sp_eqN.rfl' q7).trans ((if_neg kw0).trans (if_pos kw1)).symm
      | exact q4.trans ((if_neg kw0).trans (if_neg kw1)).symm
  · skip
    have kw0 : ¬ w = 0 := h8
    refine am_Rn.go (t := am_t144) rfl 3 rfl ⟨trivial, trivial, trivial, trivial⟩ ?_
    refine am_Rn.br (fun h9 => ?_) (fun h9 => ?_)
    · skip
      have kw1 : w = 1 := h9
      refine am_Rn.go (t := am_t144) rfl 1 rfl ⟨trivial, trivial⟩ ?_
      refine am_Rn.call (t := am_t144) rfl rfl (mm_bubble sc N hN ..) ?_
      rintro _ _ ⟨rfl, rfl⟩
      refine am_Rn.go (t := am_t144) rfl 7 rfl ⟨trivial, trivial, trivial, trivial, trivial, trivial, (by exact am_inb_lit rfl), trivial⟩ ?_
      show am_Rn sc 144 (90, _, _, B0 :: B1 :: B2 :: B3 :: B4 :: B5 :: B6 :: B7 :: B8 :: B9 :: B10 :: B11 :: B12 :: bkModel tr ty nx tk pl va fa (Int32.ofNat P) dp cm tx (upd (mp_ru (upd nu 9 v) dn) 9 (nu 9)) (mp_ps (mp_q la me tc ts) ps) (mp_s (Int32.ofNat N) pr2 pv2 sa2 pd2 lo2 bo2 co2 sh2 se2 si2 er2 of2) (sp_cov 80 (mp_s rd pr pv sa pd lo bo co sh se si er of_) sp) ke ik bi2 bt2 so2 nr ou ho cl :: Bs) _
      rw [mp_nu _ dn (by omega), am_upd_upd, am_upd_self]
      refine am_Rn.go (t := am_t144) rfl 2 rfl ⟨trivial, trivial, trivial⟩ ?_
      refine am_Rn.call (t := am_t144) rfl rfl (mm_sets0 ..) ?_
      rintro _ _ ⟨rfl, rfl⟩
      rw [mp_scov]
      refine am_Rn.go (t := am_t144) rfl 1 rfl ⟨trivial, trivial⟩ ?_
      refine am_Rn.ret (t := am_t144) rfl rfl trivial ?_
      refine ⟨congrArg (fun z => some (Value.int z)) ?_, _, _, _, _, rfl⟩
      unfold an_would
      first
        | exact (sp_peak_c hN q7).trans (if_pos kw0).symm
        | exact (sp_bub_c hN sp_eqN.rfl' q7).trans ((if_neg kw0).trans (if_pos kw1)).symm
        | exact q4.trans ((if_neg kw0).trans (if_neg kw1)).symm
    · skip
      have kw1 : ¬ w = 1 := h9
      refine am_Rn.go (t := am_t144) rfl 10 rfl ⟨trivial, trivial, trivial, (by first | exact am_inb_lit rfl | exact am_inb_of (by omega) (by omega)), trivial, trivial, trivial, trivial, trivial, (by exact am_inb_lit rfl), trivial⟩ ?_
      show am_Rn sc 144 (90, _, _, B0 :: B1 :: B2 :: B3 :: B4 :: B5 :: B6 :: B7 :: B8 :: B9 :: B10 :: B11 :: B12 :: bkModel tr ty nx tk pl va fa (Int32.ofNat P) dp cm tx (upd (mp_ru (upd nu 9 v) dn) 9 (nu 9)) (mp_ps (mp_q la me tc ts) ps) (mp_s (Int32.ofNat N) pr2 pv2 sa2 pd2 lo2 bo2 co2 sh2 se2 si2 er2 of2) (sp_cov 80 (mp_s rd pr pv sa pd lo bo co sh se si er of_) sp) ke ik bi2 bt2 so2 nr ou ho cl :: Bs) _
      rw [mp_nu _ dn (by omega), am_upd_upd, am_upd_self]
      refine am_Rn.go (t := am_t144) rfl 2 rfl ⟨trivial, trivial, trivial⟩ ?_
      refine am_Rn.call (t := am_t144) rfl rfl (mm_sets0 ..) ?_
      rintro _ _ ⟨rfl, rfl⟩
      rw [mp_scov]
      refine am_Rn.go (t := am_t144) rfl 1 rfl ⟨trivial, trivial⟩ ?_
      refine am_Rn.ret (t := am_t144) rfl rfl trivial ?_
      refine ⟨congrArg (fun z => some (Value.int z)) ?_, _, _, _, _, rfl⟩
      unfold an_would
      first
        | exact (sp_peak_c hN q7).trans (if_pos kw0).symm
        | exact (sp_bub_c hN sp_eqN.rfl' q7).trans ((if_neg kw0).trans (if_pos kw1)).symm
        | exact q4.trans ((if_neg kw0).trans (if_neg kw1)).symm
theorem mm_would4_V (sc : am_Sc) (v w : Int32) (hv : ¬ (1 ≤ v ∧ v ≤ 9)) (tr : Int64) (ty nx tk pl va fa dp cm : Int32) (tx nu dn la me tc ts ps : Nat → Int32) (P : Nat) (rd pr pv sa pd lo : Int32) (bo co sh se si er of_ sp ke ik bi bt so nr ou ho cl : Nat → Int32) (B0 B1 B2 B3 B4 B5 B6 B7 B8 B9 B10 B11 B12 : List am_E) (Bs : am_M) : am_Rn sc 144 (0, am_entry 144 [.ref 416, .int 4, .int v, .int w], [], B0 :: B1 :: B2 :: B3 :: B4 :: B5 :: B6 :: B7 :: B8 :: B9 :: B10 :: B11 :: B12 :: bkModel tr ty nx tk pl va fa (Int32.ofNat P) dp cm tx (mp_ru nu dn) (mp_ps (mp_q la me tc ts) ps) (mp_s rd pr pv sa pd lo bo co sh se si er of_) sp ke ik bi bt so nr ou ho cl :: Bs) (fun r M' => r = some (.int (-1)) ∧ M' = B0 :: B1 :: B2 :: B3 :: B4 :: B5 :: B6 :: B7 :: B8 :: B9 :: B10 :: B11 :: B12 :: bkModel tr ty nx tk pl va fa (Int32.ofNat P) dp cm tx (mp_ru nu dn) (mp_ps (mp_q la me tc ts) ps) (mp_s rd pr pv sa pd lo bo co sh se si er of_) sp ke ik bi bt so nr ou ho cl :: Bs) := by
  show am_Rn sc 144 (0, [some (.ref 416), some (.int 4), some (.int v), some (.int w), none, none, none, none], [], _) _
  refine am_Rn.go (t := am_t144) rfl 6 rfl ⟨trivial, trivial, trivial, trivial, trivial, trivial, trivial⟩ ?_
  refine am_Rn.brT (by decide) ?_
  refine am_Rn.go (t := am_t144) rfl 5 rfl ⟨trivial, trivial, trivial, trivial, trivial, trivial⟩ ?_
  refine am_Rn.brF (by decide) ?_
  refine am_Rn.go (t := am_t144) rfl 3 rfl ⟨trivial, trivial, trivial, trivial⟩ ?_
  refine am_Rn.brF (by decide) ?_
  refine am_Rn.go (t := am_t144) rfl 5 rfl ⟨trivial, trivial, trivial, trivial, trivial, trivial⟩ ?_
  refine am_Rn.call (t := am_t144) rfl rfl (sx_in ..) ?_
  rintro _ _ ⟨rfl, rfl⟩
  refine am_Rn.go (t := am_t144) rfl 1 rfl ⟨trivial, trivial⟩ ?_
  refine am_Rn.brF (fun z => am_b0.mp z (by decide)) ?_
  refine am_Rn.go (t := am_t144) rfl 4 rfl ⟨trivial, trivial, trivial, trivial, trivial⟩ ?_
  refine am_Rn.brT (by decide) ?_
  refine am_Rn.go (t := am_t144) rfl 3 rfl ⟨trivial, trivial, trivial, trivial⟩ ?_
  refine am_Rn.call (t := am_t144) rfl rfl (sx_in ..) ?_
  rintro _ _ ⟨rfl, rfl⟩
  refine am_Rn.go (t := am_t144) rfl 1 rfl ⟨trivial, trivial⟩ ?_
  refine am_Rn.brT (am_b0.mpr hv) ?_
  refine am_Rn.go (t := am_t144) rfl 1 rfl ⟨trivial, trivial⟩ ?_
  refine am_Rn.ret (t := am_t144) rfl rfl trivial ?_
  exact ⟨rfl, rfl⟩
theorem mm_would4_W (sc : am_Sc) (v w : Int32) (hv : 1 ≤ v ∧ v ≤ 9) (hw : ¬ (0 ≤ w ∧ w ≤ 2)) (tr : Int64) (ty nx tk pl va fa dp cm : Int32) (tx nu dn la me tc ts ps : Nat → Int32) (P : Nat) (rd pr pv sa pd lo : Int32) (bo co sh se si er of_ sp ke ik bi bt so nr ou ho cl : Nat → Int32) (B0 B1 B2 B3 B4 B5 B6 B7 B8 B9 B10 B11 B12 : List am_E) (Bs : am_M) : am_Rn sc 144 (0, am_entry 144 [.ref 416, .int 4, .int v, .int w], [], B0 :: B1 :: B2 :: B3 :: B4 :: B5 :: B6 :: B7 :: B8 :: B9 :: B10 :: B11 :: B12 :: bkModel tr ty nx tk pl va fa (Int32.ofNat P) dp cm tx (mp_ru nu dn) (mp_ps (mp_q la me tc ts) ps) (mp_s rd pr pv sa pd lo bo co sh se si er of_) sp ke ik bi bt so nr ou ho cl :: Bs) (fun r M' => r = some (.int (-1)) ∧ M' = B0 :: B1 :: B2 :: B3 :: B4 :: B5 :: B6 :: B7 :: B8 :: B9 :: B10 :: B11 :: B12 :: bkModel tr ty nx tk pl va fa (Int32.ofNat P) dp cm tx (mp_ru nu dn) (mp_ps (mp_q la me tc ts) ps) (mp_s rd pr pv sa pd lo bo co sh se si er of_) sp ke ik bi bt so nr ou ho cl :: Bs) := by
  show am_Rn sc 144 (0, [some (.ref 416), some (.int 4), some (.int v), some (.int w), none, none, none, none], [], _) _
  refine am_Rn.go (t := am_t144) rfl 6 rfl ⟨trivial, trivial, trivial, trivial, trivial, trivial, trivial⟩ ?_
  refine am_Rn.brT (by decide) ?_
  refine am_Rn.go (t := am_t144) rfl 5 rfl ⟨trivial, trivial, trivial, trivial, trivial, trivial⟩ ?_
  refine am_Rn.brF (by decide) ?_
  refine am_Rn.go (t := am_t144) rfl 3 rfl ⟨trivial, trivial, trivial, trivial⟩ ?_
  refine am_Rn.brF (by decide) ?_
  refine am_Rn.go (t := am_t144) rfl 5 rfl ⟨trivial, trivial, trivial, trivial, trivial, trivial⟩ ?_
  refine am_Rn.call (t := am_t144) rfl rfl (sx_in ..) ?_
  rintro _ _ ⟨rfl, rfl⟩
  refine am_Rn.go (t := am_t144) rfl 1 rfl ⟨trivial, trivial⟩ ?_
  refine am_Rn.brF (fun z => am_b0.mp z (by decide)) ?_
  refine am_Rn.go (t := am_t144) rfl 4 rfl ⟨trivial, trivial, trivial, trivial, trivial⟩ ?_
  refine am_Rn.brT (by decide) ?_
  refine am_Rn.go (t := am_t144) rfl 3 rfl ⟨trivial, trivial, trivial, trivial⟩ ?_
  refine am_Rn.call (t := am_t144) rfl rfl (sx_in ..) ?_
  rintro _ _ ⟨rfl, rfl⟩
  refine am_Rn.go (t := am_t144) rfl 1 rfl ⟨trivial, trivial⟩ ?_
  refine am_Rn.brF (fun z => am_b0.mp z hv) ?_
  refine am_Rn.go (t := am_t144) rfl 3 rfl ⟨trivial, trivial, trivial, trivial⟩ ?_
  refine am_Rn.call (t := am_t144) rfl rfl (sx_in ..) ?_
  rintro _ _ ⟨rfl, rfl⟩
  refine am_Rn.go (t := am_t144) rfl 1 rfl ⟨trivial, trivial⟩ ?_
  refine am_Rn.brT (am_b0.mpr hw) ?_
  refine am_Rn.go (t := am_t144) rfl 1 rfl ⟨trivial, trivial⟩ ?_
  refine am_Rn.ret (t := am_t144) rfl rfl trivial ?_
  exact ⟨rfl, rfl⟩
theorem mm_would_F (sc : am_Sc) (q v w : Int32) (hq : ¬ (0 ≤ q ∧ q ≤ 4)) (tr : Int64) (ty nx tk pl va fa dp cm : Int32) (tx nu dn la me tc ts ps : Nat → Int32) (P : Nat) (rd pr pv sa pd lo : Int32) (bo co sh se si er of_ sp ke ik bi bt so nr ou ho cl : Nat → Int32) (B0 B1 B2 B3 B4 B5 B6 B7 B8 B9 B10 B11 B12 : List am_E) (Bs : am_M) : am_Rn sc 144 (0, am_entry 144 [.ref 416, .int q, .int v, .int w], [], B0 :: B1 :: B2 :: B3 :: B4 :: B5 :: B6 :: B7 :: B8 :: B9 :: B10 :: B11 :: B12 :: bkModel tr ty nx tk pl va fa (Int32.ofNat P) dp cm tx (mp_ru nu dn) (mp_ps (mp_q la me tc ts) ps) (mp_s rd pr pv sa pd lo bo co sh se si er of_) sp ke ik bi bt so nr ou ho cl :: Bs) (fun r M' => r = some (.int (-1)) ∧ M' = B0 :: B1 :: B2 :: B3 :: B4 :: B5 :: B6 :: B7 :: B8 :: B9 :: B10 :: B11 :: B12 :: bkModel tr ty nx tk pl va fa (Int32.ofNat P) dp cm tx (mp_ru nu dn) (mp_ps (mp_q la me tc ts) ps) (mp_s rd pr pv sa pd lo bo co sh se si er of_) sp ke ik bi bt so nr ou ho cl :: Bs) := by
  show am_Rn sc 144 (0, [some (.ref 416), some (.int q), some (.int v), some (.int w), none, none, none, none], [], _) _
  refine am_Rn.go (t := am_t144) rfl 6 rfl ⟨trivial, trivial, trivial, trivial, trivial, trivial, trivial⟩ ?_
  refine am_Rn.br (fun h1 => ?_) (fun h1 => ?_)
  · skip
    refine am_Rn.go (t := am_t144) rfl 5 rfl ⟨trivial, trivial, trivial, trivial, trivial, trivial⟩ ?_
    refine am_Rn.br (fun h2 => ?_) (fun h2 => ?_)
    · skip
      refine am_Rn.go (t := am_t144) rfl 6 rfl ⟨trivial, trivial, trivial, trivial, trivial, trivial, trivial⟩ ?_
      refine am_Rn.call (t := am_t144) rfl rfl (sx_in ..) ?_
      rintro _ _ ⟨rfl, rfl⟩
      refine am_Rn.go (t := am_t144) rfl 1 rfl ⟨trivial, trivial⟩ ?_
      refine am_Rn.brT (am_b0.mpr hq) ?_
      refine am_Rn.go (t := am_t144) rfl 1 rfl ⟨trivial, trivial⟩ ?_
      refine am_Rn.ret (t := am_t144) rfl rfl trivial ?_
      exact ⟨rfl, rfl⟩
    · skip
      refine am_Rn.go (t := am_t144) rfl 3 rfl ⟨trivial, trivial, trivial, trivial⟩ ?_
      refine am_Rn.br (fun h4 => ?_) (fun h4 => ?_)
      · skip
        refine am_Rn.go (t := am_t144) rfl 6 rfl ⟨trivial, trivial, trivial, trivial, trivial, trivial, trivial⟩ ?_
        refine am_Rn.call (t := am_t144) rfl rfl (sx_in ..) ?_
        rintro _ _ ⟨rfl, rfl⟩
        refine am_Rn.go (t := am_t144) rfl 1 rfl ⟨trivial, trivial⟩ ?_
        refine am_Rn.brT (am_b0.mpr hq) ?_
        refine am_Rn.go (t := am_t144) rfl 1 rfl ⟨trivial, trivial⟩ ?_
        refine am_Rn.ret (t := am_t144) rfl rfl trivial ?_
        exact ⟨rfl, rfl⟩
      · skip
        refine am_Rn.go (t := am_t144) rfl 5 rfl ⟨trivial, trivial, trivial, trivial, trivial, trivial⟩ ?_
        refine am_Rn.call (t := am_t144) rfl rfl (sx_in ..) ?_
        rintro _ _ ⟨rfl, rfl⟩
        refine am_Rn.go (t := am_t144) rfl 1 rfl ⟨trivial, trivial⟩ ?_
        refine am_Rn.brT (am_b0.mpr hq) ?_
        refine am_Rn.go (t := am_t144) rfl 1 rfl ⟨trivial, trivial⟩ ?_
        refine am_Rn.ret (t := am_t144) rfl rfl trivial ?_
        exact ⟨rfl, rfl⟩
  · skip
    refine am_Rn.go (t := am_t144) rfl 3 rfl ⟨trivial, trivial, trivial, trivial⟩ ?_
    refine am_Rn.br (fun h7 => ?_) (fun h7 => ?_)
    · skip
      refine am_Rn.go (t := am_t144) rfl 5 rfl ⟨trivial, trivial, trivial, trivial, trivial, trivial⟩ ?_
      refine am_Rn.br (fun h8 => ?_) (fun h8 => ?_)
      · skip
        refine am_Rn.go (t := am_t144) rfl 6 rfl ⟨trivial, trivial, trivial, trivial, trivial, trivial, trivial⟩ ?_
        refine am_Rn.call (t := am_t144) rfl rfl (sx_in ..) ?_
        rintro _ _ ⟨rfl, rfl⟩
        refine am_Rn.go (t := am_t144) rfl 1 rfl ⟨trivial, trivial⟩ ?_
        refine am_Rn.brT (am_b0.mpr hq) ?_
        refine am_Rn.go (t := am_t144) rfl 1 rfl ⟨trivial, trivial⟩ ?_
        refine am_Rn.ret (t := am_t144) rfl rfl trivial ?_
        exact ⟨rfl, rfl⟩
      · skip
        refine am_Rn.go (t := am_t144) rfl 3 rfl ⟨trivial, trivial, trivial, trivial⟩ ?_
        refine am_Rn.br (fun h10 => ?_) (fun h10 => ?_)
        · skip
          refine am_Rn.go (t := am_t144) rfl 6 rfl ⟨trivial, trivial, trivial, trivial, trivial, trivial, trivial⟩ ?_
          refine am_Rn.call (t := am_t144) rfl rfl (sx_in ..) ?_
          rintro _ _ ⟨rfl, rfl⟩
          refine am_Rn.go (t := am_t144) rfl 1 rfl ⟨trivial, trivial⟩ ?_
          refine am_Rn.brT (am_b0.mpr hq) ?_
          refine am_Rn.go (t := am_t144) rfl 1 rfl ⟨trivial, trivial⟩ ?_
          refine am_Rn.ret (t := am_t144) rfl rfl trivial ?_
          exact ⟨rfl, rfl⟩
        · skip
          refine am_Rn.go (t := am_t144) rfl 5 rfl ⟨trivial, trivial, trivial, trivial, trivial, trivial⟩ ?_
          refine am_Rn.call (t := am_t144) rfl rfl (sx_in ..) ?_
          rintro _ _ ⟨rfl, rfl⟩
          refine am_Rn.go (t := am_t144) rfl 1 rfl ⟨trivial, trivial⟩ ?_
          refine am_Rn.brT (am_b0.mpr hq) ?_
          refine am_Rn.go (t := am_t144) rfl 1 rfl ⟨trivial, trivial⟩ ?_
          refine am_Rn.ret (t := am_t144) rfl rfl trivial ?_
          exact ⟨rfl, rfl⟩
    · skip
      refine am_Rn.go (t := am_t144) rfl 3 rfl ⟨trivial, trivial, trivial, trivial⟩ ?_
      refine am_Rn.br (fun h13 => ?_) (fun h13 => ?_)
      · skip
        refine am_Rn.go (t := am_t144) rfl 5 rfl ⟨trivial, trivial, trivial, trivial, trivial, trivial⟩ ?_
        refine am_Rn.br (fun h14 => ?_) (fun h14 => ?_)
        · skip
          refine am_Rn.go (t := am_t144) rfl 6 rfl ⟨trivial, trivial, trivial, trivial, trivial, trivial, trivial⟩ ?_
          refine am_Rn.call (t := am_t144) rfl rfl (sx_in ..) ?_
          rintro _ _ ⟨rfl, rfl⟩
          refine am_Rn.go (t := am_t144) rfl 1 rfl ⟨trivial, trivial⟩ ?_
          refine am_Rn.brT (am_b0.mpr hq) ?_
          refine am_Rn.go (t := am_t144) rfl 1 rfl ⟨trivial, trivial⟩ ?_
          refine am_Rn.ret (t := am_t144) rfl rfl trivial ?_
          exact ⟨rfl, rfl⟩
        · skip
          refine am_Rn.go (t := am_t144) rfl 3 rfl ⟨trivial, trivial, trivial, trivial⟩ ?_
          refine am_Rn.br (fun h16 => ?_) (fun h16 => ?_)
          · skip
            refine am_Rn.go (t := am_t144) rfl 6 rfl ⟨trivial, trivial, trivial, trivial, trivial, trivial, trivial⟩ ?_
            refine am_Rn.call (t := am_t144) rfl rfl (sx_in ..) ?_
            rintro _ _ ⟨rfl, rfl⟩
            refine am_Rn.go (t := am_t144) rfl 1 rfl ⟨trivial, trivial⟩ ?_
            refine am_Rn.brT (am_b0.mpr hq) ?_
            refine am_Rn.go (t := am_t144) rfl 1 rfl ⟨trivial, trivial⟩ ?_
            refine am_Rn.ret (t := am_t144) rfl rfl trivial ?_
            exact ⟨rfl, rfl⟩
          · skip
            refine am_Rn.go (t := am_t144) rfl 5 rfl ⟨trivial, trivial, trivial, trivial, trivial, trivial⟩ ?_
            refine am_Rn.call (t := am_t144) rfl rfl (sx_in ..) ?_
            rintro _ _ ⟨rfl, rfl⟩
            refine am_Rn.go (t := am_t144) rfl 1 rfl ⟨trivial, trivial⟩ ?_
            refine am_Rn.brT (am_b0.mpr hq) ?_
            refine am_Rn.go (t := am_t144) rfl 1 rfl ⟨trivial, trivial⟩ ?_
            refine am_Rn.ret (t := am_t144) rfl rfl trivial ?_
            exact ⟨rfl, rfl⟩
      · skip
        refine am_Rn.go (t := am_t144) rfl 6 rfl ⟨trivial, trivial, trivial, trivial, trivial, trivial, trivial⟩ ?_
        refine am_Rn.br (fun h19 => ?_) (fun h19 => ?_)
        · skip
          refine am_Rn.go (t := am_t144) rfl 6 rfl ⟨trivial, trivial, trivial, trivial, trivial, trivial, trivial⟩ ?_
          refine am_Rn.call (t := am_t144) rfl rfl (sx_in ..) ?_
          rintro _ _ ⟨rfl, rfl⟩
          refine am_Rn.go (t := am_t144) rfl 1 rfl ⟨trivial, trivial⟩ ?_
          refine am_Rn.brT (am_b0.mpr hq) ?_
          refine am_Rn.go (t := am_t144) rfl 1 rfl ⟨trivial, trivial⟩ ?_
          refine am_Rn.ret (t := am_t144) rfl rfl trivial ?_
          exact ⟨rfl, rfl⟩
        · skip
          refine am_Rn.go (t := am_t144) rfl 3 rfl ⟨trivial, trivial, trivial, trivial⟩ ?_
          refine am_Rn.br (fun h21 => ?_) (fun h21 => ?_)
          · skip
            refine am_Rn.go (t := am_t144) rfl 6 rfl ⟨trivial, trivial, trivial, trivial, trivial, trivial, trivial⟩ ?_
            refine am_Rn.call (t := am_t144) rfl rfl (sx_in ..) ?_
            rintro _ _ ⟨rfl, rfl⟩
            refine am_Rn.go (t := am_t144) rfl 1 rfl ⟨trivial, trivial⟩ ?_
            refine am_Rn.brT (am_b0.mpr hq) ?_
            refine am_Rn.go (t := am_t144) rfl 1 rfl ⟨trivial, trivial⟩ ?_
            refine am_Rn.ret (t := am_t144) rfl rfl trivial ?_
            exact ⟨rfl, rfl⟩
          · skip
            refine am_Rn.go (t := am_t144) rfl 5 rfl ⟨trivial, trivial, trivial, trivial, trivial, trivial⟩ ?_
            refine am_Rn.call (t := am_t144) rfl rfl (sx_in ..) ?_
            rintro _ _ ⟨rfl, rfl⟩
            refine am_Rn.go (t := am_t144) rfl 1 rfl ⟨trivial, trivial⟩ ?_
            refine am_Rn.brT (am_b0.mpr hq) ?_
            refine am_Rn.go (t := am_t144) rfl 1 rfl ⟨trivial, trivial⟩ ?_
            refine am_Rn.ret (t := am_t144) rfl rfl trivial ?_
            exact ⟨rfl, rfl⟩
