/-! ===== what is tried ===== -/
def sp_try0 (nu tc ts : Nat → Int32) (lo : Int32) (bo se er of_ : Nat → Int32) (k : Nat) : sp_R := (Int32.ofNat 0, nu 4, nu 4, 0, 0, lo, bo, tc, ts, (fun p => if p < k then 0 else se p), (fun _ => -9), er, of_, (fun _ => 0), (fun _ => 0), (fun _ => 0))
def sp_try (nu la me tc ts : Nat → Int32) (P N S : Nat) (lo : Int32) (bo se er of_ : Nat → Int32) (k : Nat) : sp_R := (sp_play nu la me P N S 20 0 (sp_try0 nu tc ts lo bo se er of_ k)).2
def sp_bo (R : sp_R) : Nat → Int32 := R.2.2.2.2.2.2.1
def sp_revF (pk : Nat → Int32) (x : Int32) (d k : Nat) : Int32 := match d with
  | 0 => -9
  | d + 1 => if x ≤ pk k then Int32.ofNat k else sp_revF pk x d (k + 1)
def an_would (nu : Nat → Int32) (N : Nat) (R : sp_R) (w : Int32) : Int32 := if w = 0 then sp_peak (sp_bo R) N else if w = 1 then am_fold N (sp_bubOne nu (sp_bo R)) 0 else R.2.2.2.1
theorem sp_rr.symm {P : Nat} {R R' : sp_R} (h : sp_rr P R R') : sp_rr P R' R := by
  obtain ⟨rd, pr, pv, sa, pd, lo, bo, co, sh, se, si, er, of_, bi, bt, so⟩ := R
  obtain ⟨rd', pr', pv', sa', pd', lo', bo', co', sh', se', si', er', of', bi', bt', so'⟩ := R'
  obtain ⟨h1, h2, h3, h4, h5, h6, h7, h8, h9, h10, h11, h12, h13⟩ := h
  exact ⟨h1.symm, h2.symm, h3.symm, h4.symm, h5.symm, h6.symm, h7.symm, h8.symm, h9.symm, h10.symm, h11.symm, h12.symm, h13.symm⟩
theorem sp_rr.trans {P : Nat} {R R' R2 : sp_R} (h : sp_rr P R R') (k : sp_rr P R' R2) : sp_rr P R R2 := by
  obtain ⟨rd, pr, pv, sa, pd, lo, bo, co, sh, se, si, er, of_, bi, bt, so⟩ := R
  obtain ⟨rd', pr', pv', sa', pd', lo', bo', co', sh', se', si', er', of', bi', bt', so'⟩ := R'
  obtain ⟨rd2, pr2, pv2, sa2, pd2, lo2, bo2, co2, sh2, se2, si2, er2, of2, bi2, bt2, so2⟩ := R2
  obtain ⟨h1, h2, h3, h4, h5, h6, h7, h8, h9, h10, h11, h12, h13⟩ := h
  obtain ⟨k1, k2, k3, k4, k5, k6, k7, k8, k9, k10, k11, k12, k13⟩ := k
  exact ⟨h1.trans k1, h2.trans k2, h3.trans k3, h4.trans k4, h5.trans k5, h6.trans k6, h7.trans k7, h8.trans k8, h9.trans k9, h10.trans k10, h11.trans k11, h12.trans k12, h13.trans k13⟩
/-- any room begun anew, and the one that is tried -/
theorem sp_try_c {nu nu' la la' me me' tc' ts' : Nat → Int32} {P N S k : Nat} {lo : Int32} {bo bo' se er er' of_ of' co sh si se' bi bt so : Nat → Int32} (h : sp_eqN 10 nu nu') (hl : sp_eqN P la la') (hm : sp_eqN P me me') (hc : sp_eqN P co tc') (hs : sp_eqN P sh ts') (hb : sp_eqN 20 bo bo') (he : ∀ p, p < P → se p = if p < k then 0 else se' p) (hsi : ∀ p, p < P → si p = -9) (h1 : sp_eqN P er er') (h2 : sp_eqN P of_ of') : sp_rr P (sp_play nu la me P N S 20 0 (Int32.ofNat 0, nu 4, nu 4, 0, 0, lo, bo, co, sh, se, si, er, of_, bi, bt, so)).2 (sp_try nu' la' me' tc' ts' P N S lo bo' se' er' of' k) :=
  (sp_play_c h hl hm 20 0 (R := (Int32.ofNat 0, nu 4, nu 4, 0, 0, lo, bo, co, sh, se, si, er, of_, bi, bt, so)) (R' := sp_try0 nu' tc' ts' lo bo' se' er' of' k) ⟨rfl, h 4 (by omega), h 4 (by omega), rfl, rfl, rfl, hb, hc, hs, he, hsi, h1, h2⟩).2
theorem sx_playTried (sc : am_Sc) (la me tc ts nu : Nat → Int32) (N S : Nat) (hN : N ≤ 20) (hS : S ≤ 9) (P : Nat) (hP : P ≤ 9) (k0 : Nat) (hk0 : k0 ≤ 9) (tr : Int64) (rn : Nat) (pr pv sa pd lo : Int32) (bo co sh se si er of_ bi bt so : Nat → Int32) (nu5 la5 me5 tc5 ts5 : Nat → Int32)  (rd6 : Int32) (pr6 pv6 sa6 pd6 lo6 : Int32) (bo6 co6 sh6 se6 si6 er6 of_6 bi6 bt6 so6 : Nat → Int32) (B1 B2 B3 : List am_E) (Bs : am_M) (h0 : nu5 0 = Int32.ofNat N) (h9 : nu5 9 = Int32.ofNat S) (hnu : sp_eqN 10 nu5 nu) (hla : sp_eqN P la5 la) (hme : sp_eqN P me5 me) (htc : sp_eqN P tc5 tc) (hts : sp_eqN P ts5 ts) : am_Rn sc 91 (0, am_entry 91 [.ref 0, .int (Int32.ofNat k0)], [], bkMain tr :: B1 :: B2 :: B3 :: bkRoom 128 32 (Int32.ofNat rn) pr pv sa pd lo bo co sh se si er of_ bi bt so :: bkRules 160 nu5 la5 me5 tc5 ts5 (Int32.ofNat P) :: bkRoom 192 160 rd6 pr6 pv6 sa6 pd6 lo6 bo6 co6 sh6 se6 si6 er6 of_6 bi6 bt6 so6 :: Bs) (fun r M' => r = none ∧ ∃ R : sp_R, R.1 = Int32.ofNat N ∧ sp_rr P R (sp_try nu la me tc ts P N S lo bo se er of_ k0) ∧ M' = bkMain tr :: B1 :: B2 :: B3 :: bkRoom 128 32 (Int32.ofNat rn) pr pv sa pd lo bo co sh se si er of_ bi bt so :: bkRules 160 nu5 la5 me5 tc5 ts5 (Int32.ofNat P) :: bkRoomT 192 160 R :: Bs) := by
  show am_Rn sc 91 (0, [some (.ref 0), some (.int (Int32.ofNat k0)), none], [], _) _
  have L : ∀ (d i : Nat), i + d = k0 → am_Rn sc 91 (7, [some (.ref 0), some (.int (Int32.ofNat k0)), some (.int (Int32.ofNat i))], [], bkMain tr :: B1 :: B2 :: B3 :: bkRoom 128 32 (Int32.ofNat rn) pr pv sa pd lo bo co sh se si er of_ bi bt so :: bkRules 160 nu5 la5 me5 tc5 ts5 (Int32.ofNat P) :: bkRoom 192 160 (Int32.ofNat rn) pr pv sa pd lo (sp_cp 20 bo bo6) (sp_cp 9 co co6) (sp_cp 9 sh sh6) (am_fold i sp_zeroOne (sp_cp 9 se se6)) (sp_cp 9 si si6) (sp_cp 9 er er6) (sp_cp 9 of_ of_6) bi6 bt6 so6 :: Bs) (fun r M' => r = none ∧ ∃ R : sp_R, R.1 = Int32.ofNat N ∧ sp_rr P R (sp_try nu la me tc ts P N S lo bo se er of_ k0) ∧ M' = bkMain tr :: B1 :: B2 :: B3 :: bkRoom 128 32 (Int32.ofNat rn) pr pv sa pd lo bo co sh se si er of_ bi bt so :: bkRules 160 nu5 la5 me5 tc5 ts5 (Int32.ofNat P) :: bkRoomT 192 160 R :: Bs) := by
    intro d
    induction d with
    | zero =>
      intro i  hi
      have hiP : i = k0 := by omega
      subst i
      refine am_Rn.go (t := am_t91) rfl 3 rfl ⟨trivial, trivial, trivial, trivial⟩ ?_
      refine am_Rn.brT (by first | exact (am_le (by omega) (by omega)).mpr (Nat.le_refl _) | exact fun q => absurd ((am_lt (by omega) (by omega)).mp q) (Nat.lt_irrefl _) | exact (am_lt (by omega) (by omega)).mpr (by omega) | decide) ?_
      refine am_Rn.go (t := am_t91) rfl 2 rfl ⟨trivial, trivial, trivial⟩ ?_
      refine am_Rn.call (t := am_t91) rfl rfl (sx_begin_B ..) ?_
      rintro _ _ ⟨rfl, rfl⟩
      refine am_Rn.go (t := am_t91) rfl 3 rfl ⟨trivial, trivial, trivial, trivial⟩ ?_
      refine am_Rn.call (t := am_t91) rfl rfl (sx_play_B sc 20 (by omega) nu5 la5 me5 tc5 ts5 P hP N S 0 hN h0 hS h9 (hrN := by omega) ..) ?_
      rintro _ _ ⟨rfl, rfl⟩
      refine am_Rn.go (t := am_t91) rfl 1 rfl ⟨trivial, trivial⟩ ?_
      refine am_Rn.ret (t := am_t91) rfl rfl trivial ?_
      refine ⟨rfl, _, ?_, ?_, rfl⟩
      · have q := sp_play_rd nu5 la5 me5 P N S 20 0 (Int32.ofNat 0, nu5 4, nu5 4, 0, 0, lo, sp_cp 20 bo bo6, (am_fold 9 (sp_begOne tc5 ts5) (sp_cp 9 co co6, sp_cp 9 sh sh6, sp_cp 9 si si6)).1, (am_fold 9 (sp_begOne tc5 ts5) (sp_cp 9 co co6, sp_cp 9 sh sh6, sp_cp 9 si si6)).2.1, (am_fold k0 sp_zeroOne (sp_cp 9 se se6)), (am_fold 9 (sp_begOne tc5 ts5) (sp_cp 9 co co6, sp_cp 9 sh sh6, sp_cp 9 si si6)).2.2, sp_cp 9 er er6, sp_cp 9 of_ of_6, bi6, bt6, so6) rfl
        rw [q.1, q.2.2 (by omega) (by omega)]
      · have hb := sp_beg_spec tc5 ts5 (sp_cp 9 co co6, sp_cp 9 sh sh6, sp_cp 9 si si6) 9
        exact sp_try_c hnu hla hme (fun p hp => (hb p (by omega)).1.trans (htc p hp)) (fun p hp => (hb p (by omega)).2.1.trans (hts p hp)) (sp_eqN.cp _ _ (by omega)) (fun p hp => by rw [sp_zero_spec, sp_cp_lt _ _ (show p < 9 by omega)]) (fun p hp => (hb p (by omega)).2.2) (sp_eqN.cp _ _ (by omega)) (sp_eqN.cp _ _ (by omega))
    | succ d ih =>
      intro i  hi
      have hiP : i < k0 := by omega
      have e1 : (Int32.ofNat i).toNatClampNeg = i := am_tn i (by omega)
      have g := ih (i + 1) (by omega)
      rw [am_fold_succ i sp_zeroOne, ← am_inc] at g
      generalize hX : (am_fold i sp_zeroOne (sp_cp 9 se se6)) = X at g ⊢
      refine am_Rn.go (t := am_t91) rfl 3 rfl ⟨trivial, trivial, trivial, trivial⟩ ?_
      refine am_Rn.brF (fun q => absurd ((am_le (by omega) (by omega)).mp q) (by omega)) ?_
      refine am_Rn.go (t := am_t91) rfl 3 rfl ⟨trivial, trivial, trivial, trivial⟩ ?_
      refine am_Rn.brF (fun q => absurd ((am_le (i := 9) (by omega) (by omega)).mp q) (by omega)) ?_
      refine am_Rn.go (t := am_t91) rfl 8 rfl ⟨trivial, trivial, trivial, trivial, trivial, (by first | exact am_inb_lit rfl | exact am_inb_of (by omega) (by omega)), trivial, trivial, trivial⟩ ?_
      rw [e1]
      exact g
  refine am_Rn.go (t := am_t91) rfl 4 rfl ⟨trivial, trivial, trivial, trivial, trivial⟩ ?_
  refine am_Rn.call (t := am_t91) rfl rfl (sx_become_BA ..) ?_
  rintro _ _ ⟨rfl, rfl⟩
  refine am_Rn.go (t := am_t91) rfl 2 rfl ⟨trivial, trivial, trivial⟩ ?_
  exact L k0 0 (by omega)
theorem sx_revive_T (sc : am_Sc) (x0 : Int32) (tr : Int64) (nu la me tc ts : Nat → Int32) (P : Nat) (hP : P ≤ 9) (rn : Nat) (pr pv sa pd lo : Int32) (bo co sh se si er of_ bi bt so : Nat → Int32) (nu5 la5 me5 tc5 ts5 : Nat → Int32) (pe5 : Int32) (rd6 : Int32) (pr6 pv6 sa6 pd6 lo6 : Int32) (bo6 co6 sh6 se6 si6 er6 of_6 bi6 bt6 so6 : Nat → Int32) (B2 B3 : List am_E) (Bs : am_M) (hx : 0 ≤ x0 ∧ x0 ≤ 999) (N S : Nat) (hN : N ≤ 20) (h0 : nu 0 = Int32.ofNat N) (hS : S ≤ 9) (h9 : nu 9 = Int32.ofNat S) : am_Rn sc 71 (0, am_entry 71 [.ref 0, .int x0], [], bkMain tr :: bkRules 32 nu la me tc ts (Int32.ofNat P) :: B2 :: B3 :: bkRoom 128 32 (Int32.ofNat rn) pr pv sa pd lo bo co sh se si er of_ bi bt so :: bkRules 160 nu5 la5 me5 tc5 ts5 pe5 :: bkRoom 192 160 rd6 pr6 pv6 sa6 pd6 lo6 bo6 co6 sh6 se6 si6 er6 of_6 bi6 bt6 so6 :: Bs) (fun r M' => r = some (.int (sp_revF (fun k => sp_peak (sp_bo (sp_try nu la me tc ts P N S lo bo se er of_ k)) N) x0 (P + 1) 0)) ∧ ∃ nu9 la9 me9 tc9 ts9 pe9 R, M' = bkMain tr :: bkRules 32 nu la me tc ts (Int32.ofNat P) :: B2 :: B3 :: bkRoom 128 32 (Int32.ofNat rn) pr pv sa pd lo bo co sh se si er of_ bi bt so :: bkRules 160 nu9 la9 me9 tc9 ts9 pe9 :: bkRoomT 192 160 R :: Bs) := by
  show am_Rn sc 71 (0, [some (.ref 0), some (.int x0), none], [], _) _
  have L : ∀ (d i : Nat) (R : sp_R), i + d = P + 1 → am_Rn sc 71 (14, [some (.ref 0), some (.int x0), some (.int (Int32.ofNat i))], [], bkMain tr :: bkRules 32 nu la me tc ts (Int32.ofNat P) :: B2 :: B3 :: bkRoom 128 32 (Int32.ofNat rn) pr pv sa pd lo bo co sh se si er of_ bi bt so :: bkRules 160 (sp_cp 10 nu nu5) (sp_cp 9 la la5) (sp_cp 9 me me5) (sp_cp 9 tc tc5) (sp_cp 9 ts ts5) (Int32.ofNat P) :: bkRoomT 192 160 R :: Bs) (fun r M' => r = some (.int (sp_revF (fun k => sp_peak (sp_bo (sp_try nu la me tc ts P N S lo bo se er of_ k)) N) x0 d i)) ∧ ∃ nu9 la9 me9 tc9 ts9 pe9 R, M' = bkMain tr :: bkRules 32 nu la me tc ts (Int32.ofNat P) :: B2 :: B3 :: bkRoom 128 32 (Int32.ofNat rn) pr pv sa pd lo bo co sh se si er of_ bi bt so :: bkRules 160 nu9 la9 me9 tc9 ts9 pe9 :: bkRoomT 192 160 R :: Bs) := by
    intro d
    induction d with
    | zero =>
      intro i R hi
      have hiP : i = P + 1 := by omega
      subst i
      refine am_Rn.go (t := am_t71) rfl 5 rfl ⟨trivial, trivial, trivial, trivial, trivial, trivial⟩ ?_
      refine am_Rn.brT ((am_lt (by omega) (by omega)).mpr (by omega)) ?_
      refine am_Rn.go (t := am_t71) rfl 1 rfl ⟨trivial, trivial⟩ ?_
      refine am_Rn.ret (t := am_t71) rfl rfl trivial ?_
      exact ⟨rfl, _, _, _, _, _, _, _, rfl⟩
    | succ d ih =>
      intro i R hi
      obtain ⟨rd6, pr6, pv6, sa6, pd6, lo6, bo6, co6, sh6, se6, si6, er6, of_6, bi6, bt6, so6⟩ := R
      have hgt : ¬ Int32.ofNat P < Int32.ofNat i := fun q => absurd ((am_lt (by omega) (by omega)).mp q) (by omega)
      rcases Classical.em (x0 ≤ (fun k => sp_peak (sp_bo (sp_try nu la me tc ts P N S lo bo se er of_ k)) N) i) with h3 | h3
      · skip
        rw [show sp_revF (fun k => sp_peak (sp_bo (sp_try nu la me tc ts P N S lo bo se er of_ k)) N) x0 (d + 1) i = Int32.ofNat i from if_pos h3]
        refine am_Rn.go (t := am_t71) rfl 5 rfl ⟨trivial, trivial, trivial, trivial, trivial, trivial⟩ ?_
        refine am_Rn.brF hgt ?_
        refine am_Rn.go (t := am_t71) rfl 2 rfl ⟨trivial, trivial, trivial⟩ ?_
        refine am_Rn.call (t := am_t71) rfl rfl (sx_playTried sc la me tc ts nu N S hN hS P hP i (by omega) (h0 := (sp_cp_lt nu nu5 (by omega)).trans h0) (h9 := (sp_cp_lt nu nu5 (by omega)).trans h9) (hnu := sp_eqN.cp _ _ (by omega)) (hla := sp_eqN.cp _ _ (by omega)) (hme := sp_eqN.cp _ _ (by omega)) (htc := sp_eqN.cp _ _ (by omega)) (hts := sp_eqN.cp _ _ (by omega)) ..) ?_
        rintro _ _ ⟨rfl, R2, hR1, hR2, rfl⟩
        obtain ⟨rd2, pr2, pv2, sa2, pd2, lo2, bo2, co2, sh2, se2, si2, er2, of2, bi2, bt2, so2⟩ := R2
        dsimp only at hR1
        subst hR1
        have hpk : sp_peak bo2 N = (fun k => sp_peak (sp_bo (sp_try nu la me tc ts P N S lo bo se er of_ k)) N) i := by
          have hR2' := hR2
          revert hR2'
          show _ → sp_peak bo2 N = sp_peak (sp_bo (sp_try nu la me tc ts P N S lo bo se er of_ i)) N
          generalize sp_try nu la me tc ts P N S lo bo se er of_ i = RT
          obtain ⟨rd3, pr3, pv3, sa3, pd3, lo3, bo3, co3, sh3, se3, si3, er3, of3, bi3, bt3, so3⟩ := RT
          rintro ⟨q1, q2, q3, q4, q5, q6, q7, q8⟩
          exact sp_peak_c hN q7
        refine am_Rn.go (t := am_t71) rfl 2 rfl ⟨trivial, trivial, trivial⟩ ?_
        refine am_Rn.call (t := am_t71) rfl rfl (sx_peak_B sc N hN ..) ?_
        rintro _ _ ⟨rfl, rfl⟩
        rw [hpk]
        refine am_Rn.go (t := am_t71) rfl 2 rfl ⟨trivial, trivial, trivial⟩ ?_
        refine am_Rn.brF (Int32.not_lt.mpr h3) ?_
        refine am_Rn.go (t := am_t71) rfl 1 rfl ⟨trivial, trivial⟩ ?_
        refine am_Rn.ret (t := am_t71) rfl rfl trivial ?_
        exact ⟨rfl, _, _, _, _, _, _, (Int32.ofNat N, pr2, pv2, sa2, pd2, lo2, bo2, co2, sh2, se2, si2, er2, of2, bi2, bt2, so2), rfl⟩
      · skip
        rw [show sp_revF (fun k => sp_peak (sp_bo (sp_try nu la me tc ts P N S lo bo se er of_ k)) N) x0 (d + 1) i = sp_revF (fun k => sp_peak (sp_bo (sp_try nu la me tc ts P N S lo bo se er of_ k)) N) x0 d (i + 1) from if_neg h3]
        refine am_Rn.go (t := am_t71) rfl 5 rfl ⟨trivial, trivial, trivial, trivial, trivial, trivial⟩ ?_
        refine am_Rn.brF hgt ?_
        refine am_Rn.go (t := am_t71) rfl 2 rfl ⟨trivial, trivial, trivial⟩ ?_
        refine am_Rn.call (t := am_t71) rfl rfl (sx_playTried sc la me tc ts nu N S hN hS P hP i (by omega) (h0 := (sp_cp_lt nu nu5 (by omega)).trans h0) (h9 := (sp_cp_lt nu nu5 (by omega)).trans h9) (hnu := sp_eqN.cp _ _ (by omega)) (hla := sp_eqN.cp _ _ (by omega)) (hme := sp_eqN.cp _ _ (by omega)) (htc := sp_eqN.cp _ _ (by omega)) (hts := sp_eqN.cp _ _ (by omega)) ..) ?_
        rintro _ _ ⟨rfl, R2, hR1, hR2, rfl⟩
        obtain ⟨rd2, pr2, pv2, sa2, pd2, lo2, bo2, co2, sh2, se2, si2, er2, of2, bi2, bt2, so2⟩ := R2
        dsimp only at hR1
        subst hR1
        have hpk : sp_peak bo2 N = (fun k => sp_peak (sp_bo (sp_try nu la me tc ts P N S lo bo se er of_ k)) N) i := by
          have hR2' := hR2
          revert hR2'
          show _ → sp_peak bo2 N = sp_peak (sp_bo (sp_try nu la me tc ts P N S lo bo se er of_ i)) N
          generalize sp_try nu la me tc ts P N S lo bo se er of_ i = RT
          obtain ⟨rd3, pr3, pv3, sa3, pd3, lo3, bo3, co3, sh3, se3, si3, er3, of3, bi3, bt3, so3⟩ := RT
          rintro ⟨q1, q2, q3, q4, q5, q6, q7, q8⟩
          exact sp_peak_c hN q7
        refine am_Rn.go (t := am_t71) rfl 2 rfl ⟨trivial, trivial, trivial⟩ ?_
        refine am_Rn.call (t := am_t71) rfl rfl (sx_peak_B sc N hN ..) ?_
        rintro _ _ ⟨rfl, rfl⟩
        rw [hpk]
        refine am_Rn.go (t := am_t71) rfl 2 rfl ⟨trivial, trivial, trivial⟩ ?_
        refine am_Rn.brT (Int32.not_le.mp h3) ?_
        refine am_Rn.go (t := am_t71) rfl 2 rfl ⟨trivial, trivial, trivial⟩ ?_
        have g := ih (i + 1) (Int32.ofNat N, pr2, pv2, sa2, pd2, lo2, bo2, co2, sh2, se2, si2, er2, of2, bi2, bt2, so2) (by omega)
        rw [← am_inc] at g
        exact g
  refine am_Rn.go (t := am_t71) rfl 3 rfl ⟨trivial, trivial, trivial, trivial⟩ ?_
  refine am_Rn.call (t := am_t71) rfl rfl (sx_isWithin ..) ?_
  rintro _ _ ⟨rfl, rfl⟩
  refine am_Rn.go (t := am_t71) rfl 1 rfl ⟨trivial, trivial⟩ ?_
  refine am_Rn.brF (fun z => am_b0.mp z hx) ?_
  refine am_Rn.go (t := am_t71) rfl 4 rfl ⟨trivial, trivial, trivial, trivial, trivial⟩ ?_
  refine am_Rn.call (t := am_t71) rfl rfl (sx_rbecome_vt ..) ?_
  rintro _ _ ⟨rfl, rfl⟩
  refine am_Rn.go (t := am_t71) rfl 2 rfl ⟨trivial, trivial, trivial⟩ ?_
  exact L (P + 1) 0 (rd6, pr6, pv6, sa6, pd6, lo6, bo6, co6, sh6, se6, si6, er6, of_6, bi6, bt6, so6) (by omega)
theorem sx_revive_F (sc : am_Sc) (x0 : Int32) (tr : Int64) (Bs : am_M) (hx : ¬ (0 ≤ x0 ∧ x0 ≤ 999)) : am_Rn sc 71 (0, am_entry 71 [.ref 0, .int x0], [], bkMain tr :: Bs) (fun r M' => r = some (.int (-1)) ∧ M' = bkMain tr :: Bs) := by
  show am_Rn sc 71 (0, [some (.ref 0), some (.int x0), none], [], _) _
  refine am_Rn.go (t := am_t71) rfl 3 rfl ⟨trivial, trivial, trivial, trivial⟩ ?_
  refine am_Rn.call (t := am_t71) rfl rfl (sx_isWithin ..) ?_
  rintro _ _ ⟨rfl, rfl⟩
  refine am_Rn.go (t := am_t71) rfl 1 rfl ⟨trivial, trivial⟩ ?_
  refine am_Rn.brT (am_b0.mpr hx) ?_
  refine am_Rn.go (t := am_t71) rfl 1 rfl ⟨trivial, trivial⟩ ?_
  refine am_Rn.ret (t := am_t71) rfl rfl trivial ?_
  exact ⟨rfl, rfl⟩
theorem sx_would0_T (sc : am_Sc) (v w : Int32) (tr : Int64) (nu la me tc ts : Nat → Int32) (P : Nat) (hP : P ≤ 9) (rn : Nat) (pr pv sa pd lo : Int32) (bo co sh se si er of_ bi bt so : Nat → Int32) (nu5 la5 me5 tc5 ts5 : Nat → Int32) (pe5 : Int32) (rd6 : Int32) (pr6 pv6 sa6 pd6 lo6 : Int32) (bo6 co6 sh6 se6 si6 er6 of_6 bi6 bt6 so6 : Nat → Int32) (B2 B3 : List am_E) (Bs : am_M) (hv : 0 ≤ v ∧ v ≤ 99) (hw : (0 ≤ w ∧ w ≤ 2)) (N SW : Nat) (hN : N ≤ 20) (h0 : nu 0 = Int32.ofNat N) (hSW : SW ≤ 9) (h9 : (upd nu 5 v) 9 = Int32.ofNat SW) : am_Rn sc 72 (0, am_entry 72 [.ref 0, .int 0, .int v, .int w], [], bkMain tr :: bkRules 32 nu la me tc ts (Int32.ofNat P) :: B2 :: B3 :: bkRoom 128 32 (Int32.ofNat rn) pr pv sa pd lo bo co sh se si er of_ bi bt so :: bkRules 160 nu5 la5 me5 tc5 ts5 pe5 :: bkRoom 192 160 rd6 pr6 pv6 sa6 pd6 lo6 bo6 co6 sh6 se6 si6 er6 of_6 bi6 bt6 so6 :: Bs) (fun r M' => r = some (.int (an_would (upd nu 5 v) N (sp_try (upd nu 5 v) la me tc ts P N SW lo bo se er of_ 0) w)) ∧ ∃ nu9 la9 me9 tc9 ts9 pe9 R, M' = bkMain tr :: bkRules 32 nu la me tc ts (Int32.ofNat P) :: B2 :: B3 :: bkRoom 128 32 (Int32.ofNat rn) pr pv sa pd lo bo co sh se si er of_ bi bt so :: bkRules 160 nu9 la9 me9 tc9 ts9 pe9 :: bkRoomT 192 160 R :: Bs) := by
  show am_Rn sc 72 (0, [some (.ref 0), some (.int 0), some (.int v), some (.int w), none, none], [], _) _
  have hu9 : (upd (sp_cp 10 nu nu5) 5 v) 9 = Int32.ofNat SW := (mp_upd_ne _ _ (by omega)).trans ((sp_cp_lt nu nu5 (by omega)).trans ((mp_upd_ne nu v (show 9 ≠ 5 by omega)).symm.trans h9))
  refine am_Rn.go (t := am_t72) rfl 6 rfl ⟨trivial, trivial, trivial, trivial, trivial, trivial, trivial⟩ ?_
  refine am_Rn.call (t := am_t72) rfl rfl (sx_isWithin ..) ?_
  rintro _ _ ⟨rfl, rfl⟩
  refine am_Rn.go (t := am_t72) rfl 1 rfl ⟨trivial, trivial⟩ ?_
  refine am_Rn.brF (fun z => am_b0.mp z (by decide)) ?_
  refine am_Rn.go (t := am_t72) rfl 3 rfl ⟨trivial, trivial, trivial, trivial⟩ ?_
  refine am_Rn.call (t := am_t72) rfl rfl (sx_isWithin ..) ?_
  rintro _ _ ⟨rfl, rfl⟩
  refine am_Rn.go (t := am_t72) rfl 1 rfl ⟨trivial, trivial⟩ ?_
  refine am_Rn.brF (fun z => am_b0.mp z hw) ?_
  refine am_Rn.go (t := am_t72) rfl 7 rfl ⟨trivial, trivial, (by exact am_inb_lit rfl), trivial, trivial, trivial, trivial, trivial⟩ ?_
  refine am_Rn.brF (by decide) ?_
  refine am_Rn.go (t := am_t72) rfl 9 rfl ⟨trivial, trivial, (by exact am_inb_lit rfl), trivial, trivial, trivial, trivial, trivial, (by exact am_inb_lit rfl), trivial⟩ ?_
  refine am_Rn.call (t := am_t72) rfl rfl (sx_isWithin ..) ?_
  rintro _ _ ⟨rfl, rfl⟩
  refine am_Rn.go (t := am_t72) rfl 1 rfl ⟨trivial, trivial⟩ ?_
  refine am_Rn.brF (fun z => am_b0.mp z hv) ?_
  refine am_Rn.go (t := am_t72) rfl 4 rfl ⟨trivial, trivial, trivial, trivial, trivial⟩ ?_
  refine am_Rn.call (t := am_t72) rfl rfl (sx_rbecome_vt ..) ?_
  rintro _ _ ⟨rfl, rfl⟩
  refine am_Rn.go (t := am_t72) rfl 6 rfl ⟨trivial, trivial, trivial, trivial, trivial, (by exact am_inb_lit rfl), trivial⟩ ?_
  show am_Rn sc 72 (48, _, _, bkMain tr :: bkRules 32 nu la me tc ts (Int32.ofNat P) :: B2 :: B3 :: bkRoom 128 32 (Int32.ofNat rn) pr pv sa pd lo bo co sh se si er of_ bi bt so :: bkRules 160 (upd (sp_cp 10 nu nu5) 5 v) (sp_cp 9 la la5) (sp_cp 9 me me5) (sp_cp 9 tc tc5) (sp_cp 9 ts ts5) (Int32.ofNat P) :: bkRoom 192 160 rd6 pr6 pv6 sa6 pd6 lo6 bo6 co6 sh6 se6 si6 er6 of_6 bi6 bt6 so6 :: Bs) _
  refine am_Rn.go (t := am_t72) rfl 2 rfl ⟨trivial, trivial, trivial⟩ ?_
  refine am_Rn.call (t := am_t72) rfl rfl (sx_playTried sc la me tc ts (upd nu 5 v) N SW hN hSW P hP 0 (by omega) (h0 := (mp_upd_ne _ _ (by omega)).trans ((sp_cp_lt nu nu5 (by omega)).trans h0)) (h9 := hu9) (hnu := sp_upd_c (sp_eqN.cp _ _ (by omega)) 5 rfl) (hla := sp_eqN.cp _ _ (by omega)) (hme := sp_eqN.cp _ _ (by omega)) (htc := sp_eqN.cp _ _ (by omega)) (hts := sp_eqN.cp _ _ (by omega)) ..) ?_
  rintro _ _ ⟨rfl, R2, hR1, hR2, rfl⟩
  obtain ⟨rd2, pr2, pv2, sa2, pd2, lo2, bo2, co2, sh2, se2, si2, er2, of2, bi2, bt2, so2⟩ := R2
  dsimp only at hR1
  subst hR1
  generalize (sp_try (upd nu 5 v) la me tc ts P N SW lo bo se er of_ 0) = RT at hR2 ⊢
  obtain ⟨rd3, pr3, pv3, sa3, pd3, lo3, bo3, co3, sh3, se3, si3, er3, of3, bi3, bt3, so3⟩ := RT
  obtain ⟨q1, q2, q3, q4, q5, q6, q7, q8⟩ := hR2
  refine am_Rn.go (t := am_t72) rfl 2 rfl ⟨trivial, trivial, trivial⟩ ?_
  refine am_Rn.br (fun kw0 => ?_) (fun kw0 => ?_)
  · skip
    refine am_Rn.go (t := am_t72) rfl 2 rfl ⟨trivial, trivial, trivial⟩ ?_
    refine am_Rn.call (t := am_t72) rfl rfl (sx_peak_B sc N hN ..) ?_
    rintro _ _ ⟨rfl, rfl⟩
    refine am_Rn.ret (t := am_t72) rfl rfl trivial ?_
    refine ⟨congrArg (fun z => some (Value.int z)) ?_, _, _, _, _, _, _, (Int32.ofNat N, pr2, pv2, sa2, pd2, lo2, bo2, co2, sh2, se2, si2, er2, of2, bi2, bt2, so2), rfl⟩
    unfold an_would
    first
      | exact (sp_peak_c hN q7).trans (if_pos kw0).symm
      | exact (sp_bub_c hN (sp_upd_c (sp_eqN.cp _ _ (by omega)) 5 rfl) q7).trans ((if_neg kw0).trans (if_pos kw1)).symm
      | exact q4.trans ((if_neg kw0).trans (if_neg kw1)).symm
  refine am_Rn.br (fun kw1 => ?_) (fun kw1 => ?_)
  · skip
    refine am_Rn.go (t := am_t72) rfl 2 rfl ⟨trivial, trivial, trivial⟩ ?_
    refine am_Rn.call (t := am_t72) rfl rfl (sx_bubble_B sc N hN ..) ?_
    rintro _ _ ⟨rfl, rfl⟩
    refine am_Rn.ret (t := am_t72) rfl rfl trivial ?_
    refine ⟨congrArg (fun z => some (Value.int z)) ?_, _, _, _, _, _, _, (Int32.ofNat N, pr2, pv2, sa2, pd2, lo2, bo2, co2, sh2, se2, si2, er2, of2, bi2, bt2, so2), rfl⟩
    unfold an_would
    first
      | exact (sp_peak_c hN q7).trans (if_pos kw0).symm
      | exact (sp_bub_c hN (sp_upd_c (sp_eqN.cp _ _ (by omega)) 5 rfl) q7).trans ((if_neg kw0).trans (if_pos kw1)).symm
      | exact q4.trans ((if_neg kw0).trans (if_neg kw1)).symm
  refine am_Rn.go (t := am_t72) rfl 3 rfl ⟨trivial, trivial, trivial, trivial⟩ ?_
  refine am_Rn.ret (t := am_t72) rfl rfl trivial ?_
  refine ⟨congrArg (fun z => some (Value.int z)) ?_, _, _, _, _, _, _, (Int32.ofNat N, pr2, pv2, sa2, pd2, lo2, bo2, co2, sh2, se2, si2, er2, of2, bi2, bt2, so2), rfl⟩
  unfold an_would
  first
    | exact (sp_peak_c hN q7).trans (if_pos kw0).symm
    | exact (sp_bub_c hN (sp_upd_c (sp_eqN.cp _ _ (by omega)) 5 rfl) q7).trans ((if_neg kw0).trans (if_pos kw1)).symm
    | exact q4.trans ((if_neg kw0).trans (if_neg kw1)).symm
theorem sx_would0_V (sc : am_Sc) (v w : Int32) (tr : Int64) (Bs : am_M) (hv : ¬ (0 ≤ v ∧ v ≤ 99)) (hw : (0 ≤ w ∧ w ≤ 2)) : am_Rn sc 72 (0, am_entry 72 [.ref 0, .int 0, .int v, .int w], [], bkMain tr :: Bs) (fun r M' => r = some (.int (-1)) ∧ M' = bkMain tr :: Bs) := by
  show am_Rn sc 72 (0, [some (.ref 0), some (.int 0), some (.int v), some (.int w), none, none], [], _) _
  refine am_Rn.go (t := am_t72) rfl 6 rfl ⟨trivial, trivial, trivial, trivial, trivial, trivial, trivial⟩ ?_
  refine am_Rn.call (t := am_t72) rfl rfl (sx_isWithin ..) ?_
  rintro _ _ ⟨rfl, rfl⟩
  refine am_Rn.go (t := am_t72) rfl 1 rfl ⟨trivial, trivial⟩ ?_
  refine am_Rn.brF (fun z => am_b0.mp z (by decide)) ?_
  refine am_Rn.go (t := am_t72) rfl 3 rfl ⟨trivial, trivial, trivial, trivial⟩ ?_
  refine am_Rn.call (t := am_t72) rfl rfl (sx_isWithin ..) ?_
  rintro _ _ ⟨rfl, rfl⟩
  refine am_Rn.go (t := am_t72) rfl 1 rfl ⟨trivial, trivial⟩ ?_
  refine am_Rn.brF (fun z => am_b0.mp z hw) ?_
  refine am_Rn.go (t := am_t72) rfl 7 rfl ⟨trivial, trivial, (by exact am_inb_lit rfl), trivial, trivial, trivial, trivial, trivial⟩ ?_
  refine am_Rn.brF (by decide) ?_
  refine am_Rn.go (t := am_t72) rfl 9 rfl ⟨trivial, trivial, (by exact am_inb_lit rfl), trivial, trivial, trivial, trivial, trivial, (by exact am_inb_lit rfl), trivial⟩ ?_
  refine am_Rn.call (t := am_t72) rfl rfl (sx_isWithin ..) ?_
  rintro _ _ ⟨rfl, rfl⟩
  refine am_Rn.go (t := am_t72) rfl 1 rfl ⟨trivial, trivial⟩ ?_
  refine am_Rn.brT (am_b0.mpr hv) ?_
  refine am_Rn.go (t := am_t72) rfl 1 rfl ⟨trivial, trivial⟩ ?_
  refine am_Rn.ret (t := am_t72) rfl rfl trivial ?_
  exact ⟨rfl, rfl⟩
theorem sx_would1_T (sc : am_Sc) (v w : Int32) (tr : Int64) (nu la me tc ts : Nat → Int32) (P : Nat) (hP : P ≤ 9) (rn : Nat) (pr pv sa pd lo : Int32) (bo co sh se si er of_ bi bt so : Nat → Int32) (nu5 la5 me5 tc5 ts5 : Nat → Int32) (pe5 : Int32) (rd6 : Int32) (pr6 pv6 sa6 pd6 lo6 : Int32) (bo6 co6 sh6 se6 si6 er6 of_6 bi6 bt6 so6 : Nat → Int32) (B2 B3 : List am_E) (Bs : am_M) (hv : 0 ≤ v ∧ v ≤ 9) (hw : (0 ≤ w ∧ w ≤ 2)) (N SW : Nat) (hN : N ≤ 20) (h0 : nu 0 = Int32.ofNat N) (hSW : SW ≤ 9) (h9 : (upd nu 6 v) 9 = Int32.ofNat SW) : am_Rn sc 72 (0, am_entry 72 [.ref 0, .int 1, .int v, .int w], [], bkMain tr :: bkRules 32 nu la me tc ts (Int32.ofNat P) :: B2 :: B3 :: bkRoom 128 32 (Int32.ofNat rn) pr pv sa pd lo bo co sh se si er of_ bi bt so :: bkRules 160 nu5 la5 me5 tc5 ts5 pe5 :: bkRoom 192 160 rd6 pr6 pv6 sa6 pd6 lo6 bo6 co6 sh6 se6 si6 er6 of_6 bi6 bt6 so6 :: Bs) (fun r M' => r = some (.int (an_would (upd nu 6 v) N (sp_try (upd nu 6 v) la me tc ts P N SW lo bo se er of_ 0) w)) ∧ ∃ nu9 la9 me9 tc9 ts9 pe9 R, M' = bkMain tr :: bkRules 32 nu la me tc ts (Int32.ofNat P) :: B2 :: B3 :: bkRoom 128 32 (Int32.ofNat rn) pr pv sa pd lo bo co sh se si er of_ bi bt so :: bkRules 160 nu9 la9 me9 tc9 ts9 pe9 :: bkRoomT 192 160 R :: Bs) := by
  show am_Rn sc 72 (0, [some (.ref 0), some (.int 1), some (.int v), some (.int w), none, none], [], _) _
  have hu9 : (upd (sp_cp 10 nu nu5) 6 v) 9 = Int32.ofNat SW := (mp_upd_ne _ _ (by omega)).trans ((sp_cp_lt nu nu5 (by omega)).trans ((mp_upd_ne nu v (show 9 ≠ 6 by omega)).symm.trans h9))
  refine am_Rn.go (t := am_t72) rfl 6 rfl ⟨trivial, trivial, trivial, trivial, trivial, trivial, trivial⟩ ?_
  refine am_Rn.call (t := am_t72) rfl rfl (sx_isWithin ..) ?_
  rintro _ _ ⟨rfl, rfl⟩
  refine am_Rn.go (t := am_t72) rfl 1 rfl ⟨trivial, trivial⟩ ?_
  refine am_Rn.brF (fun z => am_b0.mp z (by decide)) ?_
  refine am_Rn.go (t := am_t72) rfl 3 rfl ⟨trivial, trivial, trivial, trivial⟩ ?_
  refine am_Rn.call (t := am_t72) rfl rfl (sx_isWithin ..) ?_
  rintro _ _ ⟨rfl, rfl⟩
  refine am_Rn.go (t := am_t72) rfl 1 rfl ⟨trivial, trivial⟩ ?_
  refine am_Rn.brF (fun z => am_b0.mp z hw) ?_
  refine am_Rn.go (t := am_t72) rfl 7 rfl ⟨trivial, trivial, (by exact am_inb_lit rfl), trivial, trivial, trivial, trivial, trivial⟩ ?_
  refine am_Rn.brF (by decide) ?_
  refine am_Rn.go (t := am_t72) rfl 9 rfl ⟨trivial, trivial, (by exact am_inb_lit rfl), trivial, trivial, trivial, trivial, trivial, (by exact am_inb_lit rfl), trivial⟩ ?_
  refine am_Rn.call (t := am_t72) rfl rfl (sx_isWithin ..) ?_
  rintro _ _ ⟨rfl, rfl⟩
  refine am_Rn.go (t := am_t72) rfl 1 rfl ⟨trivial, trivial⟩ ?_
  refine am_Rn.brF (fun z => am_b0.mp z hv) ?_
  refine am_Rn.go (t := am_t72) rfl 4 rfl ⟨trivial, trivial, trivial, trivial, trivial⟩ ?_
  refine am_Rn.call (t := am_t72) rfl rfl (sx_rbecome_vt ..) ?_
  rintro _ _ ⟨rfl, rfl⟩
  refine am_Rn.go (t := am_t72) rfl 6 rfl ⟨trivial, trivial, trivial, trivial, trivial, (by exact am_inb_lit rfl), trivial⟩ ?_
  show am_Rn sc 72 (48, _, _, bkMain tr :: bkRules 32 nu la me tc ts (Int32.ofNat P) :: B2 :: B3 :: bkRoom 128 32 (Int32.ofNat rn) pr pv sa pd lo bo co sh se si er of_ bi bt so :: bkRules 160 (upd (sp_cp 10 nu nu5) 6 v) (sp_cp 9 la la5) (sp_cp 9 me me5) (sp_cp 9 tc tc5) (sp_cp 9 ts ts5) (Int32.ofNat P) :: bkRoom 192 160 rd6 pr6 pv6 sa6 pd6 lo6 bo6 co6 sh6 se6 si6 er6 of_6 bi6 bt6 so6 :: Bs) _
  refine am_Rn.go (t := am_t72) rfl 2 rfl ⟨trivial, trivial, trivial⟩ ?_
  refine am_Rn.call (t := am_t72) rfl rfl (sx_playTried sc la me tc ts (upd nu 6 v) N SW hN hSW P hP 0 (by omega) (h0 := (mp_upd_ne _ _ (by omega)).trans ((sp_cp_lt nu nu5 (by omega)).trans h0)) (h9 := hu9) (hnu := sp_upd_c (sp_eqN.cp _ _ (by omega)) 6 rfl) (hla := sp_eqN.cp _ _ (by omega)) (hme := sp_eqN.cp _ _ (by omega)) (htc := sp_eqN.cp _ _ (by omega)) (hts := sp_eqN.cp _ _ (by omega)) ..) ?_
  rintro _ _ ⟨rfl, R2, hR1, hR2, rfl⟩
  obtain ⟨rd2, pr2, pv2, sa2, pd2, lo2, bo2, co2, sh2, se2, si2, er2, of2, bi2, bt2, so2⟩ := R2
  dsimp only at hR1
  subst hR1
  generalize (sp_try (upd nu 6 v) la me tc ts P N SW lo bo se er of_ 0) = RT at hR2 ⊢
  obtain ⟨rd3, pr3, pv3, sa3, pd3, lo3, bo3, co3, sh3, se3, si3, er3, of3, bi3, bt3, so3⟩ := RT
  obtain ⟨q1, q2, q3, q4, q5, q6, q7, q8⟩ := hR2
  refine am_Rn.go (t := am_t72) rfl 2 rfl ⟨trivial, trivial, trivial⟩ ?_
  refine am_Rn.br (fun kw0 => ?_) (fun kw0 => ?_)
  · skip
    refine am_Rn.go (t := am_t72) rfl 2 rfl ⟨trivial, trivial, trivial⟩ ?_
    refine am_Rn.call (t := am_t72) rfl rfl (sx_peak_B sc N hN ..) ?_
    rintro _ _ ⟨rfl, rfl⟩
    refine am_Rn.ret (t := am_t72) rfl rfl trivial ?_
    refine ⟨congrArg (fun z => some (Value.int z)) ?_, _, _, _, _, _, _, (Int32.ofNat N, pr2, pv2, sa2, pd2, lo2, bo2, co2, sh2, se2, si2, er2, of2, bi2, bt2, so2), rfl⟩
    unfold an_would
    first
      | exact (sp_peak_c hN q7).trans (if_pos kw0).symm
      | exact (sp_bub_c hN (sp_upd_c (sp_eqN.cp _ _ (by omega)) 6 rfl) q7).trans ((if_neg kw0).trans (if_pos kw1)).symm
      | exact q4.trans ((if_neg kw0).trans (if_neg kw1)).symm
  refine am_Rn.br (fun kw1 => ?_) (fun kw1 => ?_)
  · skip
    refine am_Rn.go (t := am_t72) rfl 2 rfl ⟨trivial, trivial, trivial⟩ ?_
    refine am_Rn.call (t := am_t72) rfl rfl (sx_bubble_B sc N hN ..) ?_
    rintro _ _ ⟨rfl, rfl⟩
    refine am_Rn.ret (t := am_t72) rfl rfl trivial ?_
    refine ⟨congrArg (fun z => some (Value.int z)) ?_, _, _, _, _, _, _, (Int32.ofNat N, pr2, pv2, sa2, pd2, lo2, bo2, co2, sh2, se2, si2, er2, of2, bi2, bt2, so2), rfl⟩
    unfold an_would
    first
      | exact (sp_peak_c hN q7).trans (if_pos kw0).symm
      | exact (sp_bub_c hN (sp_upd_c (sp_eqN.cp _ _ (by omega)) 6 rfl) q7).trans ((if_neg kw0).trans (if_pos kw1)).symm
      | exact q4.trans ((if_neg kw0).trans (if_neg kw1)).symm
  refine am_Rn.go (t := am_t72) rfl 3 rfl ⟨trivial, trivial, trivial, trivial⟩ ?_
  refine am_Rn.ret (t := am_t72) rfl rfl trivial ?_
  refine ⟨congrArg (fun z => some (Value.int z)) ?_, _, _, _, _, _, _, (Int32.ofNat N, pr2, pv2, sa2, pd2, lo2, bo2, co2, sh2, se2, si2, er2, of2, bi2, bt2, so2), rfl⟩
  unfold an_would
  first
    | exact (sp_peak_c hN q7).trans (if_pos kw0).symm
    | exact (sp_bub_c hN (sp_upd_c (sp_eqN.cp _ _ (by omega)) 6 rfl) q7).trans ((if_neg kw0).trans (if_pos kw1)).symm
    | exact q4.trans ((if_neg kw0).trans (if_neg kw1)).symm
theorem sx_would1_V (sc : am_Sc) (v w : Int32) (tr : Int64) (Bs : am_M) (hv : ¬ (0 ≤ v ∧ v ≤ 9)) (hw : (0 ≤ w ∧ w ≤ 2)) : am_Rn sc 72 (0, am_entry 72 [.ref 0, .int 1, .int v, .int w], [], bkMain tr :: Bs) (fun r M' => r = some (.int (-1)) ∧ M' = bkMain tr :: Bs) := by
  show am_Rn sc 72 (0, [some (.ref 0), some (.int 1), some (.int v), some (.int w), none, none], [], _) _
  refine am_Rn.go (t := am_t72) rfl 6 rfl ⟨trivial, trivial, trivial, trivial, trivial, trivial, trivial⟩ ?_
  refine am_Rn.call (t := am_t72) rfl rfl (sx_isWithin ..) ?_
  rintro _ _ ⟨rfl, rfl⟩
  refine am_Rn.go (t := am_t72) rfl 1 rfl ⟨trivial, trivial⟩ ?_
  refine am_Rn.brF (fun z => am_b0.mp z (by decide)) ?_
  refine am_Rn.go (t := am_t72) rfl 3 rfl ⟨trivial, trivial, trivial, trivial⟩ ?_
  refine am_Rn.call (t := am_t72) rfl rfl (sx_isWithin ..) ?_
  rintro _ _ ⟨rfl, rfl⟩
  refine am_Rn.go (t := am_t72) rfl 1 rfl ⟨trivial, trivial⟩ ?_
  refine am_Rn.brF (fun z => am_b0.mp z hw) ?_
  refine am_Rn.go (t := am_t72) rfl 7 rfl ⟨trivial, trivial, (by exact am_inb_lit rfl), trivial, trivial, trivial, trivial, trivial⟩ ?_
  refine am_Rn.brF (by decide) ?_
  refine am_Rn.go (t := am_t72) rfl 9 rfl ⟨trivial, trivial, (by exact am_inb_lit rfl), trivial, trivial, trivial, trivial, trivial, (by exact am_inb_lit rfl), trivial⟩ ?_
  refine am_Rn.call (t := am_t72) rfl rfl (sx_isWithin ..) ?_
  rintro _ _ ⟨rfl, rfl⟩
  refine am_Rn.go (t := am_t72) rfl 1 rfl ⟨trivial, trivial⟩ ?_
  refine am_Rn.brT (am_b0.mpr hv) ?_
  refine am_Rn.go (t := am_t72) rfl 1 rfl ⟨trivial, trivial⟩ ?_
  refine am_Rn.ret (t := am_t72) rfl rfl trivial ?_
  exact ⟨rfl, rfl⟩
theorem sx_would2_T (sc : am_Sc) (v w : Int32) (tr : Int64) (nu la me tc ts : Nat → Int32) (P : Nat) (hP : P ≤ 9) (rn : Nat) (pr pv sa pd lo : Int32) (bo co sh se si er of_ bi bt so : Nat → Int32) (nu5 la5 me5 tc5 ts5 : Nat → Int32) (pe5 : Int32) (rd6 : Int32) (pr6 pv6 sa6 pd6 lo6 : Int32) (bo6 co6 sh6 se6 si6 er6 of_6 bi6 bt6 so6 : Nat → Int32) (B2 B3 : List am_E) (Bs : am_M) (hv : 0 ≤ v ∧ v ≤ 99) (hw : (0 ≤ w ∧ w ≤ 2)) (N SW : Nat) (hN : N ≤ 20) (h0 : nu 0 = Int32.ofNat N) (hSW : SW ≤ 9) (h9 : (upd nu 7 v) 9 = Int32.ofNat SW) : am_Rn sc 72 (0, am_entry 72 [.ref 0, .int 2, .int v, .int w], [], bkMain tr :: bkRules 32 nu la me tc ts (Int32.ofNat P) :: B2 :: B3 :: bkRoom 128 32 (Int32.ofNat rn) pr pv sa pd lo bo co sh se si er of_ bi bt so :: bkRules 160 nu5 la5 me5 tc5 ts5 pe5 :: bkRoom 192 160 rd6 pr6 pv6 sa6 pd6 lo6 bo6 co6 sh6 se6 si6 er6 of_6 bi6 bt6 so6 :: Bs) (fun r M' => r = some (.int (an_would (upd nu 7 v) N (sp_try (upd nu 7 v) la me tc ts P N SW lo bo se er of_ 0) w)) ∧ ∃ nu9 la9 me9 tc9 ts9 pe9 R, M' = bkMain tr :: bkRules 32 nu la me tc ts (Int32.ofNat P) :: B2 :: B3 :: bkRoom 128 32 (Int32.ofNat rn) pr pv sa pd lo bo co sh se si er of_ bi bt so :: bkRules 160 nu9 la9 me9 tc9 ts9 pe9 :: bkRoomT 192 160 R :: Bs) := by
  show am_Rn sc 72 (0, [some (.ref 0), some (.int 2), some (.int v), some (.int w), none, none], [], _) _
  have hu9 : (upd (sp_cp 10 nu nu5) 7 v) 9 = Int32.ofNat SW := (mp_upd_ne _ _ (by omega)).trans ((sp_cp_lt nu nu5 (by omega)).trans ((mp_upd_ne nu v (show 9 ≠ 7 by omega)).symm.trans h9))
  refine am_Rn.go (t := am_t72) rfl 6 rfl ⟨trivial, trivial, trivial, trivial, trivial, trivial, trivial⟩ ?_
  refine am_Rn.call (t := am_t72) rfl rfl (sx_isWithin ..) ?_
  rintro _ _ ⟨rfl, rfl⟩
  refine am_Rn.go (t := am_t72) rfl 1 rfl ⟨trivial, trivial⟩ ?_
  refine am_Rn.brF (fun z => am_b0.mp z (by decide)) ?_
  refine am_Rn.go (t := am_t72) rfl 3 rfl ⟨trivial, trivial, trivial, trivial⟩ ?_
  refine am_Rn.call (t := am_t72) rfl rfl (sx_isWithin ..) ?_
  rintro _ _ ⟨rfl, rfl⟩
  refine am_Rn.go (t := am_t72) rfl 1 rfl ⟨trivial, trivial⟩ ?_
  refine am_Rn.brF (fun z => am_b0.mp z hw) ?_
  refine am_Rn.go (t := am_t72) rfl 7 rfl ⟨trivial, trivial, (by exact am_inb_lit rfl), trivial, trivial, trivial, trivial, trivial⟩ ?_
  refine am_Rn.brT (by decide) ?_
  refine am_Rn.go (t := am_t72) rfl 8 rfl ⟨trivial, trivial, trivial, trivial, trivial, trivial, trivial, (by exact am_inb_lit rfl), trivial⟩ ?_
  refine am_Rn.call (t := am_t72) rfl rfl (sx_isWithin ..) ?_
  rintro _ _ ⟨rfl, rfl⟩
  refine am_Rn.go (t := am_t72) rfl 1 rfl ⟨trivial, trivial⟩ ?_
  refine am_Rn.brF (fun z => am_b0.mp z hv) ?_
  refine am_Rn.go (t := am_t72) rfl 4 rfl ⟨trivial, trivial, trivial, trivial, trivial⟩ ?_
  refine am_Rn.call (t := am_t72) rfl rfl (sx_rbecome_vt ..) ?_
  rintro _ _ ⟨rfl, rfl⟩
  refine am_Rn.go (t := am_t72) rfl 6 rfl ⟨trivial, trivial, trivial, trivial, trivial, (by exact am_inb_lit rfl), trivial⟩ ?_
  show am_Rn sc 72 (48, _, _, bkMain tr :: bkRules 32 nu la me tc ts (Int32.ofNat P) :: B2 :: B3 :: bkRoom 128 32 (Int32.ofNat rn) pr pv sa pd lo bo co sh se si er of_ bi bt so :: bkRules 160 (upd (sp_cp 10 nu nu5) 7 v) (sp_cp 9 la la5) (sp_cp 9 me me5) (sp_cp 9 tc tc5) (sp_cp 9 ts ts5) (Int32.ofNat P) :: bkRoom 192 160 rd6 pr6 pv6 sa6 pd6 lo6 bo6 co6 sh6 se6 si6 er6 of_6 bi6 bt6 so6 :: Bs) _
  refine am_Rn.go (t := am_t72) rfl 2 rfl ⟨trivial, trivial, trivial⟩ ?_
  refine am_Rn.call (t := am_t72) rfl rfl (sx_playTried sc la me tc ts (upd nu 7 v) N SW hN hSW P hP 0 (by omega) (h0 := (mp_upd_ne _ _ (by omega)).trans ((sp_cp_lt nu nu5 (by omega)).trans h0)) (h9 := hu9) (hnu := sp_upd_c (sp_eqN.cp _ _ (by omega)) 7 rfl) (hla := sp_eqN.cp _ _ (by omega)) (hme := sp_eqN.cp _ _ (by omega)) (htc := sp_eqN.cp _ _ (by omega)) (hts := sp_eqN.cp _ _ (by omega)) ..) ?_
  rintro _ _ ⟨rfl, R2, hR1, hR2, rfl⟩
  obtain ⟨rd2, pr2, pv2, sa2, pd2, lo2, bo2, co2, sh2, se2, si2, er2, of2, bi2, bt2, so2⟩ := R2
  dsimp only at hR1
  subst hR1
  generalize (sp_try (upd nu 7 v) la me tc ts P N SW lo bo se er of_ 0) = RT at hR2 ⊢
  obtain ⟨rd3, pr3, pv3, sa3, pd3, lo3, bo3, co3, sh3, se3, si3, er3, of3, bi3, bt3, so3⟩ := RT
  obtain ⟨q1, q2, q3, q4, q5, q6, q7, q8⟩ := hR2
  refine am_Rn.go (t := am_t72) rfl 2 rfl ⟨trivial, trivial, trivial⟩ ?_
  refine am_Rn.br (fun kw0 => ?_) (fun kw0 => ?_)
  · skip
    refine am_Rn.go (t := am_t72) rfl 2 rfl ⟨trivial, trivial, trivial⟩ ?_
    refine am_Rn.call (t := am_t72) rfl rfl (sx_peak_B sc N hN ..) ?_
    rintro _ _ ⟨rfl, rfl⟩
    refine am_Rn.ret (t := am_t72) rfl rfl trivial ?_
    refine ⟨congrArg (fun z => some (Value.int z)) ?_, _, _, _, _, _, _, (Int32.ofNat N, pr2, pv2, sa2, pd2, lo2, bo2, co2, sh2, se2, si2, er2, of2, bi2, bt2, so2), rfl⟩
    unfold an_would
    first
      | exact (sp_peak_c hN q7).trans (if_pos kw0).symm
      | exact (sp_bub_c hN (sp_upd_c (sp_eqN.cp _ _ (by omega)) 7 rfl) q7).trans ((if_neg kw0).trans (if_pos kw1)).symm
      | exact q4.trans ((if_neg kw0).trans (if_neg kw1)).symm
  refine am_Rn.br (fun kw1 => ?_) (fun kw1 => ?_)
  · skip
    refine am_Rn.go (t := am_t72) rfl 2 rfl ⟨trivial, trivial, trivial⟩ ?_
    refine am_Rn.call (t := am_t72) rfl rfl (sx_bubble_B sc N hN ..) ?_
    rintro _ _ ⟨rfl, rfl⟩
    refine am_Rn.ret (t := am_t72) rfl rfl trivial ?_
    refine ⟨congrArg (fun z => some (Value.int z)) ?_, _, _, _, _, _, _, (Int32.ofNat N, pr2, pv2, sa2, pd2, lo2, bo2, co2, sh2, se2, si2, er2, of2, bi2, bt2, so2), rfl⟩
    unfold an_would
    first
      | exact (sp_peak_c hN q7).trans (if_pos kw0).symm
      | exact (sp_bub_c hN (sp_upd_c (sp_eqN.cp _ _ (by omega)) 7 rfl) q7).trans ((if_neg kw0).trans (if_pos kw1)).symm
      | exact q4.trans ((if_neg kw0).trans (if_neg kw1)).symm
  refine am_Rn.go (t := am_t72) rfl 3 rfl ⟨trivial, trivial, trivial, trivial⟩ ?_
  refine am_Rn.ret (t := am_t72) rfl rfl trivial ?_
  refine ⟨congrArg (fun z => some (Value.int z)) ?_, _, _, _, _, _, _, (Int32.ofNat N, pr2, pv2, sa2, pd2, lo2, bo2, co2, sh2, se2, si2, er2, of2, bi2, bt2, so2), rfl⟩
  unfold an_would
  first
    | exact (sp_peak_c hN q7).trans (if_pos kw0).symm
    | exact (sp_bub_c hN (sp_upd_c (sp_eqN.cp _ _ (by omega)) 7 rfl) q7).trans ((if_neg kw0).trans (if_pos kw1)).symm
    | exact q4.trans ((if_neg kw0).trans (if_neg kw1)).symm
theorem sx_would2_V (sc : am_Sc) (v w : Int32) (tr : Int64) (Bs : am_M) (hv : ¬ (0 ≤ v ∧ v ≤ 99)) (hw : (0 ≤ w ∧ w ≤ 2)) : am_Rn sc 72 (0, am_entry 72 [.ref 0, .int 2, .int v, .int w], [], bkMain tr :: Bs) (fun r M' => r = some (.int (-1)) ∧ M' = bkMain tr :: Bs) := by
  show am_Rn sc 72 (0, [some (.ref 0), some (.int 2), some (.int v), some (.int w), none, none], [], _) _
  refine am_Rn.go (t := am_t72) rfl 6 rfl ⟨trivial, trivial, trivial, trivial, trivial, trivial, trivial⟩ ?_
  refine am_Rn.call (t := am_t72) rfl rfl (sx_isWithin ..) ?_
  rintro _ _ ⟨rfl, rfl⟩
  refine am_Rn.go (t := am_t72) rfl 1 rfl ⟨trivial, trivial⟩ ?_
  refine am_Rn.brF (fun z => am_b0.mp z (by decide)) ?_
  refine am_Rn.go (t := am_t72) rfl 3 rfl ⟨trivial, trivial, trivial, trivial⟩ ?_
  refine am_Rn.call (t := am_t72) rfl rfl (sx_isWithin ..) ?_
  rintro _ _ ⟨rfl, rfl⟩
  refine am_Rn.go (t := am_t72) rfl 1 rfl ⟨trivial, trivial⟩ ?_
  refine am_Rn.brF (fun z => am_b0.mp z hw) ?_
  refine am_Rn.go (t := am_t72) rfl 7 rfl ⟨trivial, trivial, (by exact am_inb_lit rfl), trivial, trivial, trivial, trivial, trivial⟩ ?_
  refine am_Rn.brT (by decide) ?_
  refine am_Rn.go (t := am_t72) rfl 8 rfl ⟨trivial, trivial, trivial, trivial, trivial, trivial, trivial, (by exact am_inb_lit rfl), trivial⟩ ?_
  refine am_Rn.call (t := am_t72) rfl rfl (sx_isWithin ..) ?_
  rintro _ _ ⟨rfl, rfl⟩
  refine am_Rn.go (t := am_t72) rfl 1 rfl ⟨trivial, trivial⟩ ?_
  refine am_Rn.brT (am_b0.mpr hv) ?_
  refine am_Rn.go (t := am_t72) rfl 1 rfl ⟨trivial, trivial⟩ ?_
  refine am_Rn.ret (t := am_t72) rfl rfl trivial ?_
  exact ⟨rfl, rfl⟩
theorem sx_would3_T (sc : am_Sc) (v w : Int32) (tr : Int64) (nu la me tc ts : Nat → Int32) (P : Nat) (hP : P ≤ 9) (rn : Nat) (pr pv sa pd lo : Int32) (bo co sh se si er of_ bi bt so : Nat → Int32) (nu5 la5 me5 tc5 ts5 : Nat → Int32) (pe5 : Int32) (rd6 : Int32) (pr6 pv6 sa6 pd6 lo6 : Int32) (bo6 co6 sh6 se6 si6 er6 of_6 bi6 bt6 so6 : Nat → Int32) (B2 B3 : List am_E) (Bs : am_M) (hv : 0 ≤ v ∧ v ≤ 9) (hw : (0 ≤ w ∧ w ≤ 2)) (N SW : Nat) (hN : N ≤ 20) (h0 : nu 0 = Int32.ofNat N) (hSW : SW ≤ 9) (h9 : (upd nu 8 v) 9 = Int32.ofNat SW) : am_Rn sc 72 (0, am_entry 72 [.ref 0, .int 3, .int v, .int w], [], bkMain tr :: bkRules 32 nu la me tc ts (Int32.ofNat P) :: B2 :: B3 :: bkRoom 128 32 (Int32.ofNat rn) pr pv sa pd lo bo co sh se si er of_ bi bt so :: bkRules 160 nu5 la5 me5 tc5 ts5 pe5 :: bkRoom 192 160 rd6 pr6 pv6 sa6 pd6 lo6 bo6 co6 sh6 se6 si6 er6 of_6 bi6 bt6 so6 :: Bs) (fun r M' => r = some (.int (an_would (upd nu 8 v) N (sp_try (upd nu 8 v) la me tc ts P N SW lo bo se er of_ 0) w)) ∧ ∃ nu9 la9 me9 tc9 ts9 pe9 R, M' = bkMain tr :: bkRules 32 nu la me tc ts (Int32.ofNat P) :: B2 :: B3 :: bkRoom 128 32 (Int32.ofNat rn) pr pv sa pd lo bo co sh se si er of_ bi bt so :: bkRules 160 nu9 la9 me9 tc9 ts9 pe9 :: bkRoomT 192 160 R :: Bs) := by
  show am_Rn sc 72 (0, [some (.ref 0), some (.int 3), some (.int v), some (.int w), none, none], [], _) _
  have hu9 : (upd (sp_cp 10 nu nu5) 8 v) 9 = Int32.ofNat SW := (mp_upd_ne _ _ (by omega)).trans ((sp_cp_lt nu nu5 (by omega)).trans ((mp_upd_ne nu v (show 9 ≠ 8 by omega)).symm.trans h9))
  refine am_Rn.go (t := am_t72) rfl 6 rfl ⟨trivial, trivial, trivial, trivial, trivial, trivial, trivial⟩ ?_
  refine am_Rn.call (t := am_t72) rfl rfl (sx_isWithin ..) ?_
  rintro _ _ ⟨rfl, rfl⟩
  refine am_Rn.go (t := am_t72) rfl 1 rfl ⟨trivial, trivial⟩ ?_
  refine am_Rn.brF (fun z => am_b0.mp z (by decide)) ?_
  refine am_Rn.go (t := am_t72) rfl 3 rfl ⟨trivial, trivial, trivial, trivial⟩ ?_
  refine am_Rn.call (t := am_t72) rfl rfl (sx_isWithin ..) ?_
  rintro _ _ ⟨rfl, rfl⟩
  refine am_Rn.go (t := am_t72) rfl 1 rfl ⟨trivial, trivial⟩ ?_
  refine am_Rn.brF (fun z => am_b0.mp z hw) ?_
  refine am_Rn.go (t := am_t72) rfl 7 rfl ⟨trivial, trivial, (by exact am_inb_lit rfl), trivial, trivial, trivial, trivial, trivial⟩ ?_
  refine am_Rn.brF (by decide) ?_
  refine am_Rn.go (t := am_t72) rfl 9 rfl ⟨trivial, trivial, (by exact am_inb_lit rfl), trivial, trivial, trivial, trivial, trivial, (by exact am_inb_lit rfl), trivial⟩ ?_
  refine am_Rn.call (t := am_t72) rfl rfl (sx_isWithin ..) ?_
  rintro _ _ ⟨rfl, rfl⟩
  refine am_Rn.go (t := am_t72) rfl 1 rfl ⟨trivial, trivial⟩ ?_
  refine am_Rn.brF (fun z => am_b0.mp z hv) ?_
  refine am_Rn.go (t := am_t72) rfl 4 rfl ⟨trivial, trivial, trivial, trivial, trivial⟩ ?_
  refine am_Rn.call (t := am_t72) rfl rfl (sx_rbecome_vt ..) ?_
  rintro _ _ ⟨rfl, rfl⟩
  refine am_Rn.go (t := am_t72) rfl 6 rfl ⟨trivial, trivial, trivial, trivial, trivial, (by exact am_inb_lit rfl), trivial⟩ ?_
  show am_Rn sc 72 (48, _, _, bkMain tr :: bkRules 32 nu la me tc ts (Int32.ofNat P) :: B2 :: B3 :: bkRoom 128 32 (Int32.ofNat rn) pr pv sa pd lo bo co sh se si er of_ bi bt so :: bkRules 160 (upd (sp_cp 10 nu nu5) 8 v) (sp_cp 9 la la5) (sp_cp 9 me me5) (sp_cp 9 tc tc5) (sp_cp 9 ts ts5) (Int32.ofNat P) :: bkRoom 192 160 rd6 pr6 pv6 sa6 pd6 lo6 bo6 co6 sh6 se6 si6 er6 of_6 bi6 bt6 so6 :: Bs) _
  refine am_Rn.go (t := am_t72) rfl 2 rfl ⟨trivial, trivial, trivial⟩ ?_
  refine am_Rn.call (t := am_t72) rfl rfl (sx_playTried sc la me tc ts (upd nu 8 v) N SW hN hSW P hP 0 (by omega) (h0 := (mp_upd_ne _ _ (by omega)).trans ((sp_cp_lt nu nu5 (by omega)).trans h0)) (h9 := hu9) (hnu := sp_upd_c (sp_eqN.cp _ _ (by omega)) 8 rfl) (hla := sp_eqN.cp _ _ (by omega)) (hme := sp_eqN.cp _ _ (by omega)) (htc := sp_eqN.cp _ _ (by omega)) (hts := sp_eqN.cp _ _ (by omega)) ..) ?_
  rintro _ _ ⟨rfl, R2, hR1, hR2, rfl⟩
  obtain ⟨rd2, pr2, pv2, sa2, pd2, lo2, bo2, co2, sh2, se2, si2, er2, of2, bi2, bt2, so2⟩ := R2
  dsimp only at hR1
  subst hR1
  generalize (sp_try (upd nu 8 v) la me tc ts P N SW lo bo se er of_ 0) = RT at hR2 ⊢
  obtain ⟨rd3, pr3, pv3, sa3, pd3, lo3, bo3, co3, sh3, se3, si3, er3, of3, bi3, bt3, so3⟩ := RT
  obtain ⟨q1, q2, q3, q4, q5, q6, q7, q8⟩ := hR2
  refine am_Rn.go (t := am_t72) rfl 2 rfl ⟨trivial, trivial, trivial⟩ ?_
  refine am_Rn.br (fun kw0 => ?_) (fun kw0 => ?_)
  · skip
    refine am_Rn.go (t := am_t72) rfl 2 rfl ⟨trivial, trivial, trivial⟩ ?_
    refine am_Rn.call (t := am_t72) rfl rfl (sx_peak_B sc N hN ..) ?_
    rintro _ _ ⟨rfl, rfl⟩
    refine am_Rn.ret (t := am_t72) rfl rfl trivial ?_
    refine ⟨congrArg (fun z => some (Value.int z)) ?_, _, _, _, _, _, _, (Int32.ofNat N, pr2, pv2, sa2, pd2, lo2, bo2, co2, sh2, se2, si2, er2, of2, bi2, bt2, so2), rfl⟩
    unfold an_would
    first
      | exact (sp_peak_c hN q7).trans (if_pos kw0).symm
      | exact (sp_bub_c hN (sp_upd_c (sp_eqN.cp _ _ (by omega)) 8 rfl) q7).trans ((if_neg kw0).trans (if_pos kw1)).symm
      | exact q4.trans ((if_neg kw0).trans (if_neg kw1)).symm
  refine am_Rn.br (fun kw1 => ?_) (fun kw1 => ?_)
  · skip
    refine am_Rn.go (t := am_t72) rfl 2 rfl ⟨trivial, trivial, trivial⟩ ?_
    refine am_Rn.call (t := am_t72) rfl rfl (sx_bubble_B sc N hN ..) ?_
    rintro _ _ ⟨rfl, rfl⟩
    refine am_Rn.ret (t := am_t72) rfl rfl trivial ?_
    refine ⟨congrArg (fun z => some (Value.int z)) ?_, _, _, _, _, _, _, (Int32.ofNat N, pr2, pv2, sa2, pd2, lo2, bo2, co2, sh2, se2, si2, er2, of2, bi2, bt2, so2), rfl⟩
    unfold an_would
    first
      | exact (sp_peak_c hN q7).trans (if_pos kw0).symm
      | exact (sp_bub_c hN (sp_upd_c (sp_eqN.cp _ _ (by omega)) 8 rfl) q7).trans ((if_neg kw0).trans (if_pos kw1)).symm
      | exact q4.trans ((if_neg kw0).trans (if_neg kw1)).symm
  refine am_Rn.go (t := am_t72) rfl 3 rfl ⟨trivial, trivial, trivial, trivial⟩ ?_
  refine am_Rn.ret (t := am_t72) rfl rfl trivial ?_
  refine ⟨congrArg (fun z => some (Value.int z)) ?_, _, _, _, _, _, _, (Int32.ofNat N, pr2, pv2, sa2, pd2, lo2, bo2, co2, sh2, se2, si2, er2, of2, bi2, bt2, so2), rfl⟩
  unfold an_would
  first
    | exact (sp_peak_c hN q7).trans (if_pos kw0).symm
    | exact (sp_bub_c hN (sp_upd_c (sp_eqN.cp _ _ (by omega)) 8 rfl) q7).trans ((if_neg kw0).trans (if_pos kw1)).symm
    | exact q4.trans ((if_neg kw0).trans (if_neg kw1)).symm
theorem sx_would3_V (sc : am_Sc) (v w : Int32) (tr : Int64) (Bs : am_M) (hv : ¬ (0 ≤ v ∧ v ≤ 9)) (hw : (0 ≤ w ∧ w ≤ 2)) : am_Rn sc 72 (0, am_entry 72 [.ref 0, .int 3, .int v, .int w], [], bkMain tr :: Bs) (fun r M' => r = some (.int (-1)) ∧ M' = bkMain tr :: Bs) := by
  show am_Rn sc 72 (0, [some (.ref 0), some (.int 3), some (.int v), some (.int w), none, none], [], _) _
  refine am_Rn.go (t := am_t72) rfl 6 rfl ⟨trivial, trivial, trivial, trivial, trivial, trivial, trivial⟩ ?_
  refine am_Rn.call (t := am_t72) rfl rfl (sx_isWithin ..) ?_
  rintro _ _ ⟨rfl, rfl⟩
  refine am_Rn.go (t := am_t72) rfl 1 rfl ⟨trivial, trivial⟩ ?_
  refine am_Rn.brF (fun z => am_b0.mp z (by decide)) ?_
  refine am_Rn.go (t := am_t72) rfl 3 rfl ⟨trivial, trivial, trivial, trivial⟩ ?_
  refine am_Rn.call (t := am_t72) rfl rfl (sx_isWithin ..) ?_
  rintro _ _ ⟨rfl, rfl⟩
  refine am_Rn.go (t := am_t72) rfl 1 rfl ⟨trivial, trivial⟩ ?_
  refine am_Rn.brF (fun z => am_b0.mp z hw) ?_
  refine am_Rn.go (t := am_t72) rfl 7 rfl ⟨trivial, trivial, (by exact am_inb_lit rfl), trivial, trivial, trivial, trivial, trivial⟩ ?_
  refine am_Rn.brF (by decide) ?_
  refine am_Rn.go (t := am_t72) rfl 9 rfl ⟨trivial, trivial, (by exact am_inb_lit rfl), trivial, trivial, trivial, trivial, trivial, (by exact am_inb_lit rfl), trivial⟩ ?_
  refine am_Rn.call (t := am_t72) rfl rfl (sx_isWithin ..) ?_
  rintro _ _ ⟨rfl, rfl⟩
  refine am_Rn.go (t := am_t72) rfl 1 rfl ⟨trivial, trivial⟩ ?_
  refine am_Rn.brT (am_b0.mpr hv) ?_
  refine am_Rn.go (t := am_t72) rfl 1 rfl ⟨trivial, trivial⟩ ?_
  refine am_Rn.ret (t := am_t72) rfl rfl trivial ?_
  exact ⟨rfl, rfl⟩
theorem sx_would4_T (sc : am_Sc) (v w : Int32) (tr : Int64) (nu la me tc ts : Nat → Int32) (P : Nat) (hP : P ≤ 9) (rn : Nat) (pr pv sa pd lo : Int32) (bo co sh se si er of_ bi bt so : Nat → Int32) (nu5 la5 me5 tc5 ts5 : Nat → Int32) (pe5 : Int32) (rd6 : Int32) (pr6 pv6 sa6 pd6 lo6 : Int32) (bo6 co6 sh6 se6 si6 er6 of_6 bi6 bt6 so6 : Nat → Int32) (B2 B3 : List am_E) (Bs : am_M) (hv : 1 ≤ v ∧ v ≤ 9) (hw : (0 ≤ w ∧ w ≤ 2)) (N SW : Nat) (hN : N ≤ 20) (h0 : nu 0 = Int32.ofNat N) (hSW : SW ≤ 9) (h9 : (upd nu 9 v) 9 = Int32.ofNat SW) : am_Rn sc 72 (0, am_entry 72 [.ref 0, .int 4, .int v, .int w], [], bkMain tr :: bkRules 32 nu la me tc ts (Int32.ofNat P) :: B2 :: B3 :: bkRoom 128 32 (Int32.ofNat rn) pr pv sa pd lo bo co sh se si er of_ bi bt so :: bkRules 160 nu5 la5 me5 tc5 ts5 pe5 :: bkRoom 192 160 rd6 pr6 pv6 sa6 pd6 lo6 bo6 co6 sh6 se6 si6 er6 of_6 bi6 bt6 so6 :: Bs) (fun r M' => r = some (.int (an_would (upd nu 9 v) N (sp_try (upd nu 9 v) la me tc ts P N SW lo bo se er of_ 0) w)) ∧ ∃ nu9 la9 me9 tc9 ts9 pe9 R, M' = bkMain tr :: bkRules 32 nu la me tc ts (Int32.ofNat P) :: B2 :: B3 :: bkRoom 128 32 (Int32.ofNat rn) pr pv sa pd lo bo co sh se si er of_ bi bt so :: bkRules 160 nu9 la9 me9 tc9 ts9 pe9 :: bkRoomT 192 160 R :: Bs) := by
  show am_Rn sc 72 (0, [some (.ref 0), some (.int 4), some (.int v), some (.int w), none, none], [], _) _
  have hu9 : (upd (sp_cp 10 nu nu5) 9 v) 9 = Int32.ofNat SW := (mp_upd_eq _ _ _).trans ((mp_upd_eq nu 9 v).symm.trans h9)
  refine am_Rn.go (t := am_t72) rfl 6 rfl ⟨trivial, trivial, trivial, trivial, trivial, trivial, trivial⟩ ?_
  refine am_Rn.call (t := am_t72) rfl rfl (sx_isWithin ..) ?_
  rintro _ _ ⟨rfl, rfl⟩
  refine am_Rn.go (t := am_t72) rfl 1 rfl ⟨trivial, trivial⟩ ?_
  refine am_Rn.brF (fun z => am_b0.mp z (by decide)) ?_
  refine am_Rn.go (t := am_t72) rfl 3 rfl ⟨trivial, trivial, trivial, trivial⟩ ?_
  refine am_Rn.call (t := am_t72) rfl rfl (sx_isWithin ..) ?_
  rintro _ _ ⟨rfl, rfl⟩
  refine am_Rn.go (t := am_t72) rfl 1 rfl ⟨trivial, trivial⟩ ?_
  refine am_Rn.brF (fun z => am_b0.mp z hw) ?_
  refine am_Rn.go (t := am_t72) rfl 7 rfl ⟨trivial, trivial, (by exact am_inb_lit rfl), trivial, trivial, trivial, trivial, trivial⟩ ?_
  refine am_Rn.brF (by decide) ?_
  refine am_Rn.go (t := am_t72) rfl 9 rfl ⟨trivial, trivial, (by exact am_inb_lit rfl), trivial, trivial, trivial, trivial, trivial, (by exact am_inb_lit rfl), trivial⟩ ?_
  refine am_Rn.call (t := am_t72) rfl rfl (sx_isWithin ..) ?_
  rintro _ _ ⟨rfl, rfl⟩
  refine am_Rn.go (t := am_t72) rfl 1 rfl ⟨trivial, trivial⟩ ?_
  refine am_Rn.brF (fun z => am_b0.mp z hv) ?_
  refine am_Rn.go (t := am_t72) rfl 4 rfl ⟨trivial, trivial, trivial, trivial, trivial⟩ ?_
  refine am_Rn.call (t := am_t72) rfl rfl (sx_rbecome_vt ..) ?_
  rintro _ _ ⟨rfl, rfl⟩
  refine am_Rn.go (t := am_t72) rfl 6 rfl ⟨trivial, trivial, trivial, trivial, trivial, (by exact am_inb_lit rfl), trivial⟩ ?_
  show am_Rn sc 72 (48, _, _, bkMain tr :: bkRules 32 nu la me tc ts (Int32.ofNat P) :: B2 :: B3 :: bkRoom 128 32 (Int32.ofNat rn) pr pv sa pd lo bo co sh se si er of_ bi bt so :: bkRules 160 (upd (sp_cp 10 nu nu5) 9 v) (sp_cp 9 la la5) (sp_cp 9 me me5) (sp_cp 9 tc tc5) (sp_cp 9 ts ts5) (Int32.ofNat P) :: bkRoom 192 160 rd6 pr6 pv6 sa6 pd6 lo6 bo6 co6 sh6 se6 si6 er6 of_6 bi6 bt6 so6 :: Bs) _
  refine am_Rn.go (t := am_t72) rfl 2 rfl ⟨trivial, trivial, trivial⟩ ?_
  refine am_Rn.call (t := am_t72) rfl rfl (sx_playTried sc la me tc ts (upd nu 9 v) N SW hN hSW P hP 0 (by omega) (h0 := (mp_upd_ne _ _ (by omega)).trans ((sp_cp_lt nu nu5 (by omega)).trans h0)) (h9 := hu9) (hnu := sp_upd_c (sp_eqN.cp _ _ (by omega)) 9 rfl) (hla := sp_eqN.cp _ _ (by omega)) (hme := sp_eqN.cp _ _ (by omega)) (htc := sp_eqN.cp _ _ (by omega)) (hts := sp_eqN.cp _ _ (by omega)) ..) ?_
  rintro _ _ ⟨rfl, R2, hR1, hR2, rfl⟩
  obtain ⟨rd2, pr2, pv2, sa2, pd2, lo2, bo2, co2, sh2, se2, si2, er2, of2, bi2, bt2, so2⟩ := R2
  dsimp only at hR1
  subst hR1
  generalize (sp_try (upd nu 9 v) la me tc ts P N SW lo bo se er of_ 0) = RT at hR2 ⊢
  obtain ⟨rd3, pr3, pv3, sa3, pd3, lo3, bo3, co3, sh3, se3, si3, er3, of3, bi3, bt3, so3⟩ := RT
  obtain ⟨q1, q2, q3, q4, q5, q6, q7, q8⟩ := hR2
  refine am_Rn.go (t := am_t72) rfl 2 rfl ⟨trivial, trivial, trivial⟩ ?_
  refine am_Rn.br (fun kw0 => ?_) (fun kw0 => ?_)
  · skip
    refine am_Rn.go (t := am_t72) rfl 2 rfl ⟨trivial, trivial, trivial⟩ ?_
    refine am_Rn.call (t := am_t72) rfl rfl (sx_peak_B sc N hN ..) ?_
    rintro _ _ ⟨rfl, rfl⟩
    refine am_Rn.ret (t := am_t72) rfl rfl trivial ?_
    refine ⟨congrArg (fun z => some (Value.int z)) ?_, _, _, _, _, _, _, (Int32.ofNat N, pr2, pv2, sa2, pd2, lo2, bo2, co2, sh2, se2, si2, er2, of2, bi2, bt2, so2), rfl⟩
    unfold an_would
    first
      | exact (sp_peak_c hN q7).trans (if_pos kw0).symm
      | exact (sp_bub_c hN (sp_upd_c (sp_eqN.cp _ _ (by omega)) 9 rfl) q7).trans ((if_neg kw0).trans (if_pos kw1)).symm
      | exact q4.trans ((if_neg kw0).trans (if_neg kw1)).symm
  refine am_Rn.br (fun kw1 => ?_) (fun kw1 => ?_)
  · skip
    refine am_Rn.go (t := am_t72) rfl 2 rfl ⟨trivial, trivial, trivial⟩ ?_
    refine am_Rn.call (t := am_t72) rfl rfl (sx_bubble_B sc N hN ..) ?_
    rintro _ _ ⟨rfl, rfl⟩
    refine am_Rn.ret (t := am_t72) rfl rfl trivial ?_
    refine ⟨congrArg (fun z => some (Value.int z)) ?_, _, _, _, _, _, _, (Int32.ofNat N, pr2, pv2, sa2, pd2, lo2, bo2, co2, sh2, se2, si2, er2, of2, bi2, bt2, so2), rfl⟩
    unfold an_would
    first
      | exact (sp_peak_c hN q7).trans (if_pos kw0).symm
      | exact (sp_bub_c hN (sp_upd_c (sp_eqN.cp _ _ (by omega)) 9 rfl) q7).trans ((if_neg kw0).trans (if_pos kw1)).symm
      | exact q4.trans ((if_neg kw0).trans (if_neg kw1)).symm
  refine am_Rn.go (t := am_t72) rfl 3 rfl ⟨trivial, trivial, trivial, trivial⟩ ?_
  refine am_Rn.ret (t := am_t72) rfl rfl trivial ?_
  refine ⟨congrArg (fun z => some (Value.int z)) ?_, _, _, _, _, _, _, (Int32.ofNat N, pr2, pv2, sa2, pd2, lo2, bo2, co2, sh2, se2, si2, er2, of2, bi2, bt2, so2), rfl⟩
  unfold an_would
  first
    | exact (sp_peak_c hN q7).trans (if_pos kw0).symm
    | exact (sp_bub_c hN (sp_upd_c (sp_eqN.cp _ _ (by omega)) 9 rfl) q7).trans ((if_neg kw0).trans (if_pos kw1)).symm
    | exact q4.trans ((if_neg kw0).trans (if_neg kw1)).symm
theorem sx_would4_V (sc : am_Sc) (v w : Int32) (tr : Int64) (Bs : am_M) (hv : ¬ (1 ≤ v ∧ v ≤ 9)) (hw : (0 ≤ w ∧ w ≤ 2)) : am_Rn sc 72 (0, am_entry 72 [.ref 0, .int 4, .int v, .int w], [], bkMain tr :: Bs) (fun r M' => r = some (.int (-1)) ∧ M' = bkMain tr :: Bs) := by
  show am_Rn sc 72 (0, [some (.ref 0), some (.int 4), some (.int v), some (.int w), none, none], [], _) _
  refine am_Rn.go (t := am_t72) rfl 6 rfl ⟨trivial, trivial, trivial, trivial, trivial, trivial, trivial⟩ ?_
  refine am_Rn.call (t := am_t72) rfl rfl (sx_isWithin ..) ?_
  rintro _ _ ⟨rfl, rfl⟩
  refine am_Rn.go (t := am_t72) rfl 1 rfl ⟨trivial, trivial⟩ ?_
  refine am_Rn.brF (fun z => am_b0.mp z (by decide)) ?_
  refine am_Rn.go (t := am_t72) rfl 3 rfl ⟨trivial, trivial, trivial, trivial⟩ ?_
  refine am_Rn.call (t := am_t72) rfl rfl (sx_isWithin ..) ?_
  rintro _ _ ⟨rfl, rfl⟩
  refine am_Rn.go (t := am_t72) rfl 1 rfl ⟨trivial, trivial⟩ ?_
  refine am_Rn.brF (fun z => am_b0.mp z hw) ?_
  refine am_Rn.go (t := am_t72) rfl 7 rfl ⟨trivial, trivial, (by exact am_inb_lit rfl), trivial, trivial, trivial, trivial, trivial⟩ ?_
  refine am_Rn.brF (by decide) ?_
  refine am_Rn.go (t := am_t72) rfl 9 rfl ⟨trivial, trivial, (by exact am_inb_lit rfl), trivial, trivial, trivial, trivial, trivial, (by exact am_inb_lit rfl), trivial⟩ ?_
  refine am_Rn.call (t := am_t72) rfl rfl (sx_isWithin ..) ?_
  rintro _ _ ⟨rfl, rfl⟩
  refine am_Rn.go (t := am_t72) rfl 1 rfl ⟨trivial, trivial⟩ ?_
  refine am_Rn.brT (am_b0.mpr hv) ?_
  refine am_Rn.go (t := am_t72) rfl 1 rfl ⟨trivial, trivial⟩ ?_
  refine am_Rn.ret (t := am_t72) rfl rfl trivial ?_
  exact ⟨rfl, rfl⟩
theorem sx_would_F (sc : am_Sc) (q v w : Int32) (tr : Int64) (Bs : am_M) (hw : ¬ ((0 ≤ q ∧ q ≤ 4) ∧ (0 ≤ w ∧ w ≤ 2))) : am_Rn sc 72 (0, am_entry 72 [.ref 0, .int q, .int v, .int w], [], bkMain tr :: Bs) (fun r M' => r = some (.int (-1)) ∧ M' = bkMain tr :: Bs) := by
  show am_Rn sc 72 (0, [some (.ref 0), some (.int q), some (.int v), some (.int w), none, none], [], _) _
  refine am_Rn.go (t := am_t72) rfl 6 rfl ⟨trivial, trivial, trivial, trivial, trivial, trivial, trivial⟩ ?_
  refine am_Rn.call (t := am_t72) rfl rfl (sx_isWithin ..) ?_
  rintro _ _ ⟨rfl, rfl⟩
  refine am_Rn.go (t := am_t72) rfl 1 rfl ⟨trivial, trivial⟩ ?_
  refine am_Rn.brB (fun h1 => ?_) (fun h1 => ?_)
  · skip
    refine am_Rn.go (t := am_t72) rfl 1 rfl ⟨trivial, trivial⟩ ?_
    refine am_Rn.ret (t := am_t72) rfl rfl trivial ?_
    exact ⟨rfl, rfl⟩
  · skip
    refine am_Rn.go (t := am_t72) rfl 3 rfl ⟨trivial, trivial, trivial, trivial⟩ ?_
    refine am_Rn.call (t := am_t72) rfl rfl (sx_isWithin ..) ?_
    rintro _ _ ⟨rfl, rfl⟩
    refine am_Rn.go (t := am_t72) rfl 1 rfl ⟨trivial, trivial⟩ ?_
    refine am_Rn.brB (fun h2 => ?_) (fun h2 => ?_)
    · skip
      refine am_Rn.go (t := am_t72) rfl 1 rfl ⟨trivial, trivial⟩ ?_
      refine am_Rn.ret (t := am_t72) rfl rfl trivial ?_
      exact ⟨rfl, rfl⟩
    · skip
      exact absurd ⟨(by assumption : 0 ≤ q ∧ q ≤ 5 - 1), (by assumption)⟩ hw
