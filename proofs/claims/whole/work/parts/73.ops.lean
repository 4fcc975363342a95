set_option maxRecDepth 8000 in
set_option maxHeartbeats 400000 in
theorem am_op2 (sc : am_Sc) (i : Nat) (hi : i + 4 ≤ sc.1) (hL : sc.1 ≤ 2048) (K : Option Value → am_M → Prop) (M : am_M) (hI : am_Inv M) (hk : ∀ M, am_Inv M → am_Rn sc 171 (674, [some (.ref 1030), some (.ref 0), some (.ref 416), some (.int (Int32.ofNat i))], [], M) K) : am_Rn sc 171 (80, [some (.ref 1030), some (.ref 0), some (.ref 416), some (.int (Int32.ofNat i))], [], M) K := by
  refine hI _ ?_
  intro tr nu la me tc ts P tx n it fa nx pl ki va tw nu3 la3 me3 tc3 ts3 pe3 rn pr pv sa pd lo bo co sh se si er of_ bi bt so nu5 la5 me5 tc5 ts5 pe5 R6 k7 R8 k9 R10 nr ho ou rc fr cl C bw br le mnx mtk mpl mva mfa mdp mtx mnu mdn mla mme mtc mts m3a m3b m3c m3d mpr mpv msa mpd mlo mbo mco msh mse msi mer mof msp mke mik mbi mbt mso mou N S hM cP cn cC cr cN c0 cS c9 cu cm cl1 cl2 cl3 cl4 cla ct cR ci1 ci2 ccl cnr cho
  subst hM
  obtain ⟨-, rfl, rfl, rfl, rfl, rfl, b1, b2, b3, b4, b5, b6, b7⟩ := cR
  have m0 : mnu 0 = Int32.ofNat N := (cm 0 (by omega)).symm.trans c0
  have m9 : mnu 9 = Int32.ofNat S := (cm 9 (by omega)).symm.trans c9
  have m7 : 0 ≤ mnu 7 := by rw [← cm 7 (by omega)]; exact (cu 7 (by omega) (by omega)).1
  have mla_ : ∀ q, q < P → mla q = 0 ∨ mla q = 1 ∨ mla q = 2 ∨ mla q = 3 ∨ mla q = 4 := fun q hq => by rw [← cl1 q hq]; exact cla q hq
  have hcf : sp_items tx n 401 0 0 (sp_usual nu3, la3, me3, tc3, ts3, 0) 0 = sp_items mtx n 401 0 0 (sp_usual nu3, la3, me3, tc3, ts3, 0) 0 := sp_items_h (sp_t_cf ct) _ _ _ _ _
  have hdd0 : sp_dd (sp_usual nu3, la3, me3, tc3, ts3, 0) (sp_cov 10 sp_usualM mdn, m3a, m3b, m3c, m3d, 0) := ⟨sp_nn0 nu3 mdn, rfl, Nat.zero_le 9, fun p hp => absurd hp (Nat.not_lt_zero p), fun p hp => absurd hp (Nat.not_lt_zero p), fun p hp => absurd hp (Nat.not_lt_zero p), fun p hp => absurd hp (Nat.not_lt_zero p), fun p hp => absurd hp (Nat.not_lt_zero p)⟩
  have hmf : ∀ q, q < n → 0 ≤ mtx q := fun q hq => (ct q hq).2
  rcases sp_items_dd (c := mtx) (n := n) 401 0 0 (sp_usual nu3, la3, me3, tc3, ts3, 0) (sp_cov 10 sp_usualM mdn, m3a, m3b, m3c, m3d, 0) 0 hdd0 with ⟨p, e1, e2⟩ | ⟨X, Y, j, e1, e2, e3⟩
  · skip
    refine am_Rn.go (t := am_t171) rfl 1 rfl ⟨trivial, trivial⟩ ?_
    show am_Rn sc 171 (81, _, [.ref 0], _) _
    refine am_Rn.call (t := am_t171) rfl rfl (sx_rules_F (hn := cn) (p := p) (hS := hcf.trans e1) ..) ?_
    rintro _ _ ⟨it2, nx2, pl2, ki2, va2, tw2, nu4, la4, me4, tc4, ts4, pe4, rfl, rfl⟩
    refine am_Rn.go (t := am_t171) rfl 1 rfl ⟨trivial, trivial⟩ ?_
    show am_Rn sc 171 (83, _, [.ref 416, _], _) _
    refine am_Rn.call (t := am_t171) rfl rfl (mm_rules (n := n) (hn := cn) (tx := mtx) (hf := hmf) ..) ?_
    rw [e2]
    rintro _ _ ⟨nx5, tk5, pl5, va5, dn5, la6, me6, tc6, ts6, dp5, rfl, rfl⟩
    refine am_Rn.go (t := am_t171) rfl 1 rfl ⟨trivial, trivial⟩ ?_
    refine am_Rn.brT rfl ?_
    exact hk _ (am_Inv_mk (P := P) (n := n) (rn := rn) (C := C) (N := N) (S := S) cP cn cC cr cN c0 cS c9 cu cm cl1 cl2 cl3 cl4 cla ct ⟨rfl, rfl, rfl, rfl, rfl, rfl, b1, b2, b3, b4, b5, b6, b7⟩ ci1 ci2 ccl cnr cho)
  · skip
    obtain ⟨nuX, laX, meX, tcX, tsX, PX⟩ := X
    obtain ⟨nuY, laY, meY, tcY, tsY, PY⟩ := Y
    obtain ⟨g1, g2, g3, g4, g5, g6, g7, g8⟩ := e3
    dsimp only at g1 g2 g3 g4 g5 g6 g7 g8
    subst g2
    obtain ⟨s1, s2⟩ := sp_settle_c (nu := nu) (nu' := mnu) g1
    obtain ⟨N2, hN2, eN2⟩ := am_rng (k := 20) (by omega) ⟨Int32.le_trans (by decide) (s2 0 (by omega) (by omega)).1, (s2 0 (by omega) (by omega)).2⟩
    obtain ⟨S2, hS2, eS2⟩ := am_rng (k := 9) (by omega) ⟨Int32.le_trans (by decide) (s2 9 (by omega) (by omega)).1, (s2 9 (by omega) (by omega)).2⟩
    have hbx := sp_beg_spec (sp_cp 9 tcX tc) (sp_cp 9 tsX ts) (co, sh, si) 9
    have hbm := sp_beg_spec (sp_cut PX tcY) (sp_cut PX tsY) (mco, msh, msi) 9
    have hfx := sp_for_spec (se, er, of_) 9
    have hfm := sp_for_spec (mse, mer, mof) 9
    refine am_Rn.go (t := am_t171) rfl 1 rfl ⟨trivial, trivial⟩ ?_
    show am_Rn sc 171 (81, _, [.ref 0], _) _
    refine am_Rn.call (t := am_t171) rfl rfl (sx_rules_T (hP := cP) (hn := cn) (X := ((nuX, laX, meX, tcX, tsX, PX), j)) (hS := hcf.trans e1) ..) ?_
    rintro _ _ ⟨fa2, nx2, pl2, ki2, va2, tw2, rfl, rfl⟩
    refine am_Rn.go (t := am_t171) rfl 1 rfl ⟨trivial, trivial⟩ ?_
    show am_Rn sc 171 (83, _, [.ref 416, _], _) _
    refine am_Rn.call (t := am_t171) rfl rfl (mm_rules (n := n) (hn := cn) (tx := mtx) (hf := hmf) ..) ?_
    rw [e2]
    rintro _ _ ⟨nx5, tk5, pl5, va5, rfl, rfl⟩
    refine am_Rn.go (t := am_t171) rfl 1 rfl ⟨trivial, trivial⟩ ?_
    refine am_Rn.brT rfl ?_
    exact hk _ (am_Inv_mk (P := PX) (n := 0) (rn := 0) (C := C) (N := N2) (S := S2) g3 (by omega) cC (Nat.zero_le N2) hN2 eN2 hS2 eS2 s2 s1 (fun p hp => (sp_cp_lt laX la (show p < 9 by omega)).trans (g4 p hp)) (fun p hp => (sp_cp_lt meX me (show p < 9 by omega)).trans (g5 p hp)) (fun p hp => (sp_cp_lt tcX tc (show p < 9 by omega)).trans (g6 p hp)) (fun p hp => (sp_cp_lt tsX ts (show p < 9 by omega)).trans (g7 p hp)) (fun p hp => by rw [sp_cp_lt laX la (show p < 9 by omega)]; exact g8 p hp) (fun i hi => absurd hi (Nat.not_lt_zero i)) ⟨rfl, s1 4 (by omega), s1 4 (by omega), rfl, rfl, rfl, b1, fun p hp => (hbx p (by omega)).1.trans ((sp_cp_lt tcX tc (show p < 9 by omega)).trans ((g6 p hp).trans ((if_pos hp).symm.trans (hbm p (by omega)).1.symm))), fun p hp => (hbx p (by omega)).2.1.trans ((sp_cp_lt tsX ts (show p < 9 by omega)).trans ((g7 p hp).trans ((if_pos hp).symm.trans (hbm p (by omega)).2.1.symm))), fun p hp => (hfx p (by omega)).1.trans (hfm p (by omega)).1.symm, fun p hp => (hbx p (by omega)).2.2.trans (hbm p (by omega)).2.2.symm, fun p hp => (hfx p (by omega)).2.1.trans (hfm p (by omega)).2.1.symm, fun p hp => (hfx p (by omega)).2.2.trans (hfm p (by omega)).2.2.symm⟩ ⟨rfl, Or.inl rfl⟩ ⟨rfl, Or.inl rfl⟩ ccl cnr cho)
set_option maxRecDepth 8000 in
set_option maxHeartbeats 400000 in
theorem am_op16 (sc : am_Sc) (i : Nat) (hi : i + 4 ≤ sc.1) (hL : sc.1 ≤ 2048) (K : Option Value → am_M → Prop) (M : am_M) (hI : am_Inv M) (hk : ∀ M, am_Inv M → am_Rn sc 171 (674, [some (.ref 1030), some (.ref 0), some (.ref 416), some (.int (Int32.ofNat i))], [], M) K) : am_Rn sc 171 (348, [some (.ref 1030), some (.ref 0), some (.ref 416), some (.int (Int32.ofNat i))], [], M) K := by
  refine hI _ ?_
  intro tr nu la me tc ts P tx n it fa nx pl ki va tw nu3 la3 me3 tc3 ts3 pe3 rn pr pv sa pd lo bo co sh se si er of_ bi bt so nu5 la5 me5 tc5 ts5 pe5 R6 k7 R8 k9 R10 nr ho ou rc fr cl C bw br le mnx mtk mpl mva mfa mdp mtx mnu mdn mla mme mtc mts m3a m3b m3c m3d mpr mpv msa mpd mlo mbo mco msh mse msi mer mof msp mke mik mbi mbt mso mou N S hM cP cn cC cr cN c0 cS c9 cu cm cl1 cl2 cl3 cl4 cla ct cR ci1 ci2 ccl cnr cho
  subst hM
  obtain ⟨-, rfl, rfl, rfl, rfl, rfl, b1, b2, b3, b4, b5, b6, b7⟩ := cR
  have m0 : mnu 0 = Int32.ofNat N := (cm 0 (by omega)).symm.trans c0
  have m9 : mnu 9 = Int32.ofNat S := (cm 9 (by omega)).symm.trans c9
  have m7 : 0 ≤ mnu 7 := by rw [← cm 7 (by omega)]; exact (cu 7 (by omega) (by omega)).1
  have mla_ : ∀ q, q < P → mla q = 0 ∨ mla q = 1 ∨ mla q = 2 ∨ mla q = 3 ∨ mla q = 4 := fun q hq => by rw [← cl1 q hq]; exact cla q hq
  obtain ⟨w1, hw1⟩ : ∃ w, sc.2 (Int32.ofNat i + 1).toNatClampNeg = w := ⟨_, rfl⟩
  refine am_Rn.go (t := am_t171) rfl 6 rfl ⟨trivial, trivial, trivial, trivial, trivial, (by exact am_inbS1 (by omega) hL), trivial⟩ ?_
  show am_Rn sc 171 (354, _, [.int (sc.2 (Int32.ofNat i + 1).toNatClampNeg), .ref 0], _) _
  rw [hw1]
  refine am_Rn.call (t := am_t171) rfl rfl (sx_lot (hP := cP) ..) ?_
  rintro _ _ ⟨rfl, rfl⟩
  refine am_Rn.go (t := am_t171) rfl 6 rfl ⟨trivial, trivial, trivial, trivial, trivial, (by exact am_inbS1 (by omega) hL), trivial⟩ ?_
  show am_Rn sc 171 (361, _, [.int (sc.2 (Int32.ofNat i + 1).toNatClampNeg), .ref 416, _], _) _
  rw [hw1]
  refine am_Rn.call (t := am_t171) rfl rfl (mm_lot ..) ?_
  rintro _ _ ⟨rfl, rfl⟩
  refine am_Rn.go (t := am_t171) rfl 1 rfl ⟨trivial, trivial⟩ ?_
  refine am_Rn.brT rfl ?_
  exact hk _ (am_Inv_mk (P := P) (n := n) (rn := rn) (C := C) (N := N) (S := S) cP cn cC cr cN c0 cS c9 cu cm cl1 cl2 cl3 cl4 cla ct ⟨rfl, rfl, rfl, rfl, rfl, rfl, b1, b2, b3, b4, b5, b6, b7⟩ ci1 ci2 ccl cnr cho)
set_option maxRecDepth 8000 in
set_option maxHeartbeats 400000 in
theorem am_op17 (sc : am_Sc) (i : Nat) (hi : i + 4 ≤ sc.1) (hL : sc.1 ≤ 2048) (K : Option Value → am_M → Prop) (M : am_M) (hI : am_Inv M) (hk : ∀ M, am_Inv M → am_Rn sc 171 (674, [some (.ref 1030), some (.ref 0), some (.ref 416), some (.int (Int32.ofNat i))], [], M) K) : am_Rn sc 171 (365, [some (.ref 1030), some (.ref 0), some (.ref 416), some (.int (Int32.ofNat i))], [], M) K := by
  refine hI _ ?_
  intro tr nu la me tc ts P tx n it fa nx pl ki va tw nu3 la3 me3 tc3 ts3 pe3 rn pr pv sa pd lo bo co sh se si er of_ bi bt so nu5 la5 me5 tc5 ts5 pe5 R6 k7 R8 k9 R10 nr ho ou rc fr cl C bw br le mnx mtk mpl mva mfa mdp mtx mnu mdn mla mme mtc mts m3a m3b m3c m3d mpr mpv msa mpd mlo mbo mco msh mse msi mer mof msp mke mik mbi mbt mso mou N S hM cP cn cC cr cN c0 cS c9 cu cm cl1 cl2 cl3 cl4 cla ct cR ci1 ci2 ccl cnr cho
  subst hM
  obtain ⟨-, rfl, rfl, rfl, rfl, rfl, b1, b2, b3, b4, b5, b6, b7⟩ := cR
  have m0 : mnu 0 = Int32.ofNat N := (cm 0 (by omega)).symm.trans c0
  have m9 : mnu 9 = Int32.ofNat S := (cm 9 (by omega)).symm.trans c9
  have m7 : 0 ≤ mnu 7 := by rw [← cm 7 (by omega)]; exact (cu 7 (by omega) (by omega)).1
  have mla_ : ∀ q, q < P → mla q = 0 ∨ mla q = 1 ∨ mla q = 2 ∨ mla q = 3 ∨ mla q = 4 := fun q hq => by rw [← cl1 q hq]; exact cla q hq
  obtain ⟨w1, hw1⟩ : ∃ w, sc.2 (Int32.ofNat i + 1).toNatClampNeg = w := ⟨_, rfl⟩
  obtain ⟨w2, hw2⟩ : ∃ w, sc.2 (Int32.ofNat i + 2).toNatClampNeg = w := ⟨_, rfl⟩
  rcases Classical.em ((0 ≤ w1 ∧ w1 ≤ 2) ∧ (0 ≤ w2 ∧ w2 ≤ 99)) with h | h
  · skip
    obtain ⟨k1, hk1, rfl⟩ := am_rng (k := 2) (by omega) h.1
    refine am_Rn.go (t := am_t171) rfl 11 rfl ⟨trivial, trivial, trivial, trivial, trivial, (by exact am_inbS1 (by omega) hL), trivial, trivial, trivial, trivial, (by exact am_inbS2 (by omega) hL), trivial⟩ ?_
    show am_Rn sc 171 (376, _, [.int (sc.2 (Int32.ofNat i + 2).toNatClampNeg), .int (sc.2 (Int32.ofNat i + 1).toNatClampNeg), .ref 0], _) _
    rw [hw1, hw2]
    refine am_Rn.call (t := am_t171) rfl rfl (sx_ride_T (w := k1) (hw := by omega) (hv := h.2) ..) ?_
    rintro _ _ ⟨rfl, rfl⟩
    refine am_Rn.go (t := am_t171) rfl 11 rfl ⟨trivial, trivial, trivial, trivial, trivial, (by exact am_inbS1 (by omega) hL), trivial, trivial, trivial, trivial, (by exact am_inbS2 (by omega) hL), trivial⟩ ?_
    show am_Rn sc 171 (388, _, [.int (sc.2 (Int32.ofNat i + 2).toNatClampNeg), .int (sc.2 (Int32.ofNat i + 1).toNatClampNeg), .ref 416, _], _) _
    rw [hw1, hw2]
    refine am_Rn.call (t := am_t171) rfl rfl (mm_ride_T (w := k1) (hw := by omega) (hv := h.2) ..) ?_
    rintro _ _ ⟨rfl, rfl⟩
    refine am_Rn.go (t := am_t171) rfl 1 rfl ⟨trivial, trivial⟩ ?_
    refine am_Rn.brT rfl ?_
    exact hk _ (am_Inv_mk (P := P) (n := n) (rn := rn) (C := C) (N := N) (S := S) cP cn cC cr cN c0 cS c9 cu cm cl1 cl2 cl3 cl4 cla ct ⟨rfl, rfl, rfl, rfl, rfl, rfl, b1, b2, b3, b4, b5, b6, b7⟩ ci1 ci2 ccl (sp_bd_upd (b := 99) (by omega) cnr h.2) cho)
  · skip
    refine am_Rn.go (t := am_t171) rfl 11 rfl ⟨trivial, trivial, trivial, trivial, trivial, (by exact am_inbS1 (by omega) hL), trivial, trivial, trivial, trivial, (by exact am_inbS2 (by omega) hL), trivial⟩ ?_
    show am_Rn sc 171 (376, _, [.int (sc.2 (Int32.ofNat i + 2).toNatClampNeg), .int (sc.2 (Int32.ofNat i + 1).toNatClampNeg), .ref 0], _) _
    rw [hw1, hw2]
    refine am_Rn.call (t := am_t171) rfl rfl (sx_ride_F (hw := h) ..) ?_
    rintro _ _ ⟨rfl, rfl⟩
    refine am_Rn.go (t := am_t171) rfl 11 rfl ⟨trivial, trivial, trivial, trivial, trivial, (by exact am_inbS1 (by omega) hL), trivial, trivial, trivial, trivial, (by exact am_inbS2 (by omega) hL), trivial⟩ ?_
    show am_Rn sc 171 (388, _, [.int (sc.2 (Int32.ofNat i + 2).toNatClampNeg), .int (sc.2 (Int32.ofNat i + 1).toNatClampNeg), .ref 416, _], _) _
    rw [hw1, hw2]
    refine am_Rn.call (t := am_t171) rfl rfl (mm_ride_F (hw := h) ..) ?_
    rintro _ _ ⟨rfl, rfl⟩
    refine am_Rn.go (t := am_t171) rfl 1 rfl ⟨trivial, trivial⟩ ?_
    refine am_Rn.brT rfl ?_
    exact hk _ (am_Inv_mk (P := P) (n := n) (rn := rn) (C := C) (N := N) (S := S) cP cn cC cr cN c0 cS c9 cu cm cl1 cl2 cl3 cl4 cla ct ⟨rfl, rfl, rfl, rfl, rfl, rfl, b1, b2, b3, b4, b5, b6, b7⟩ ci1 ci2 ccl cnr cho)
set_option maxRecDepth 8000 in
set_option maxHeartbeats 400000 in
theorem am_op18 (sc : am_Sc) (i : Nat) (hi : i + 4 ≤ sc.1) (hL : sc.1 ≤ 2048) (K : Option Value → am_M → Prop) (M : am_M) (hI : am_Inv M) (hk : ∀ M, am_Inv M → am_Rn sc 171 (674, [some (.ref 1030), some (.ref 0), some (.ref 416), some (.int (Int32.ofNat i))], [], M) K) : am_Rn sc 171 (392, [some (.ref 1030), some (.ref 0), some (.ref 416), some (.int (Int32.ofNat i))], [], M) K := by
  refine hI _ ?_
  intro tr nu la me tc ts P tx n it fa nx pl ki va tw nu3 la3 me3 tc3 ts3 pe3 rn pr pv sa pd lo bo co sh se si er of_ bi bt so nu5 la5 me5 tc5 ts5 pe5 R6 k7 R8 k9 R10 nr ho ou rc fr cl C bw br le mnx mtk mpl mva mfa mdp mtx mnu mdn mla mme mtc mts m3a m3b m3c m3d mpr mpv msa mpd mlo mbo mco msh mse msi mer mof msp mke mik mbi mbt mso mou N S hM cP cn cC cr cN c0 cS c9 cu cm cl1 cl2 cl3 cl4 cla ct cR ci1 ci2 ccl cnr cho
  subst hM
  obtain ⟨-, rfl, rfl, rfl, rfl, rfl, b1, b2, b3, b4, b5, b6, b7⟩ := cR
  have m0 : mnu 0 = Int32.ofNat N := (cm 0 (by omega)).symm.trans c0
  have m9 : mnu 9 = Int32.ofNat S := (cm 9 (by omega)).symm.trans c9
  have m7 : 0 ≤ mnu 7 := by rw [← cm 7 (by omega)]; exact (cu 7 (by omega) (by omega)).1
  have mla_ : ∀ q, q < P → mla q = 0 ∨ mla q = 1 ∨ mla q = 2 ∨ mla q = 3 ∨ mla q = 4 := fun q hq => by rw [← cl1 q hq]; exact cla q hq
  obtain ⟨w1, hw1⟩ : ∃ w, sc.2 (Int32.ofNat i + 1).toNatClampNeg = w := ⟨_, rfl⟩
  obtain ⟨w2, hw2⟩ : ∃ w, sc.2 (Int32.ofNat i + 2).toNatClampNeg = w := ⟨_, rfl⟩
  obtain ⟨w3, hw3⟩ : ∃ w, sc.2 (Int32.ofNat i + 3).toNatClampNeg = w := ⟨_, rfl⟩
  rcases Classical.em ((2 ≤ w1 ∧ w1 ≤ 3) ∧ (1 ≤ w2 ∧ w2 ≤ 8) ∧ (0 ≤ w3 ∧ w3 ≤ 1)) with h | h
  · skip
    obtain ⟨m, hm, rfl⟩ := am_rng (k := 3) (by omega) ⟨Int32.le_trans (by decide) h.1.1, h.1.2⟩
    have hm2 : 2 ≤ m := (am_le (i := 2) (by omega) (by omega)).mp h.1.1
    obtain ⟨l, hl, rfl⟩ := am_rng (k := 8) (by omega) ⟨Int32.le_trans (by decide) h.2.1.1, h.2.1.2⟩
    have hl1 : 1 ≤ l := (am_le (i := 1) (by omega) (by omega)).mp h.2.1.1
    obtain ⟨w, hw, rfl⟩ := am_rng (k := 1) (by omega) h.2.2
    rcases (show m = 2 ∨ m = 3 by omega) with rfl | rfl <;> rcases (show w = 0 ∨ w = 1 by omega) with rfl | rfl
    · skip
      refine am_Rn.go (t := am_t171) rfl 16 rfl ⟨trivial, trivial, trivial, trivial, trivial, (by exact am_inbS1 (by omega) hL), trivial, trivial, trivial, trivial, (by exact am_inbS2 (by omega) hL), trivial, trivial, trivial, trivial, (by exact am_inbS3 (by omega) hL), trivial⟩ ?_
      show am_Rn sc 171 (408, _, [.int (sc.2 (Int32.ofNat i + 3).toNatClampNeg), .int (sc.2 (Int32.ofNat i + 2).toNatClampNeg), .int (sc.2 (Int32.ofNat i + 1).toNatClampNeg), .ref 0], _) _
      rw [hw1, hw2, hw3]
      refine am_Rn.call (t := am_t171) rfl rfl (sx_rests0 (m := 2) (l := l) (hm2 := by omega) (hm := by omega) (hl1 := hl1) (hl := hl) ..) ?_
      rintro _ _ ⟨rfl, ou9, rfl⟩
      refine am_Rn.go (t := am_t171) rfl 16 rfl ⟨trivial, trivial, trivial, trivial, trivial, (by exact am_inbS1 (by omega) hL), trivial, trivial, trivial, trivial, (by exact am_inbS2 (by omega) hL), trivial, trivial, trivial, trivial, (by exact am_inbS3 (by omega) hL), trivial⟩ ?_
      show am_Rn sc 171 (425, _, [.int (sc.2 (Int32.ofNat i + 3).toNatClampNeg), .int (sc.2 (Int32.ofNat i + 2).toNatClampNeg), .int (sc.2 (Int32.ofNat i + 1).toNatClampNeg), .ref 416, _], _) _
      rw [hw1, hw2, hw3]
      refine am_Rn.call (t := am_t171) rfl rfl (mm_rests2 (l := l) (hl1 := hl1) (hl := hl) (hw := by decide) ..) ?_
      rintro _ _ ⟨rfl, ou8, rfl⟩
      refine am_Rn.go (t := am_t171) rfl 1 rfl ⟨trivial, trivial⟩ ?_
      refine am_Rn.brT (by rw [sp_rests2 nr hl]; rfl) ?_
      exact hk _ (am_Inv_mk (P := P) (n := n) (rn := rn) (C := C) (N := N) (S := S) cP cn cC cr cN c0 cS c9 cu cm cl1 cl2 cl3 cl4 cla ct ⟨rfl, rfl, rfl, rfl, rfl, rfl, b1, b2, b3, b4, b5, b6, b7⟩ ci1 ci2 ccl cnr cho)
    · skip
      refine am_Rn.go (t := am_t171) rfl 16 rfl ⟨trivial, trivial, trivial, trivial, trivial, (by exact am_inbS1 (by omega) hL), trivial, trivial, trivial, trivial, (by exact am_inbS2 (by omega) hL), trivial, trivial, trivial, trivial, (by exact am_inbS3 (by omega) hL), trivial⟩ ?_
      show am_Rn sc 171 (408, _, [.int (sc.2 (Int32.ofNat i + 3).toNatClampNeg), .int (sc.2 (Int32.ofNat i + 2).toNatClampNeg), .int (sc.2 (Int32.ofNat i + 1).toNatClampNeg), .ref 0], _) _
      rw [hw1, hw2, hw3]
      refine am_Rn.call (t := am_t171) rfl rfl (sx_rests1 (m := 2) (l := l) (hm2 := by omega) (hm := by omega) (hl1 := hl1) (hl := hl) ..) ?_
      rintro _ _ ⟨rfl, ou9, rfl⟩
      refine am_Rn.go (t := am_t171) rfl 16 rfl ⟨trivial, trivial, trivial, trivial, trivial, (by exact am_inbS1 (by omega) hL), trivial, trivial, trivial, trivial, (by exact am_inbS2 (by omega) hL), trivial, trivial, trivial, trivial, (by exact am_inbS3 (by omega) hL), trivial⟩ ?_
      show am_Rn sc 171 (425, _, [.int (sc.2 (Int32.ofNat i + 3).toNatClampNeg), .int (sc.2 (Int32.ofNat i + 2).toNatClampNeg), .int (sc.2 (Int32.ofNat i + 1).toNatClampNeg), .ref 416, _], _) _
      rw [hw1, hw2, hw3]
      refine am_Rn.call (t := am_t171) rfl rfl (mm_rests2 (l := l) (hl1 := hl1) (hl := hl) (hw := by decide) ..) ?_
      rintro _ _ ⟨rfl, ou8, rfl⟩
      refine am_Rn.go (t := am_t171) rfl 1 rfl ⟨trivial, trivial⟩ ?_
      refine am_Rn.brT (by rw [sp_rests2 nr hl]; rfl) ?_
      exact hk _ (am_Inv_mk (P := P) (n := n) (rn := rn) (C := C) (N := N) (S := S) cP cn cC cr cN c0 cS c9 cu cm cl1 cl2 cl3 cl4 cla ct ⟨rfl, rfl, rfl, rfl, rfl, rfl, b1, b2, b3, b4, b5, b6, b7⟩ ci1 ci2 ccl cnr cho)
    · skip
      refine am_Rn.go (t := am_t171) rfl 16 rfl ⟨trivial, trivial, trivial, trivial, trivial, (by exact am_inbS1 (by omega) hL), trivial, trivial, trivial, trivial, (by exact am_inbS2 (by omega) hL), trivial, trivial, trivial, trivial, (by exact am_inbS3 (by omega) hL), trivial⟩ ?_
      show am_Rn sc 171 (408, _, [.int (sc.2 (Int32.ofNat i + 3).toNatClampNeg), .int (sc.2 (Int32.ofNat i + 2).toNatClampNeg), .int (sc.2 (Int32.ofNat i + 1).toNatClampNeg), .ref 0], _) _
      rw [hw1, hw2, hw3]
      refine am_Rn.call (t := am_t171) rfl rfl (sx_rests0 (m := 3) (l := l) (hm2 := by omega) (hm := by omega) (hl1 := hl1) (hl := hl) ..) ?_
      rintro _ _ ⟨rfl, ou9, rfl⟩
      refine am_Rn.go (t := am_t171) rfl 16 rfl ⟨trivial, trivial, trivial, trivial, trivial, (by exact am_inbS1 (by omega) hL), trivial, trivial, trivial, trivial, (by exact am_inbS2 (by omega) hL), trivial, trivial, trivial, trivial, (by exact am_inbS3 (by omega) hL), trivial⟩ ?_
      show am_Rn sc 171 (425, _, [.int (sc.2 (Int32.ofNat i + 3).toNatClampNeg), .int (sc.2 (Int32.ofNat i + 2).toNatClampNeg), .int (sc.2 (Int32.ofNat i + 1).toNatClampNeg), .ref 416, _], _) _
      rw [hw1, hw2, hw3]
      refine am_Rn.call (t := am_t171) rfl rfl (mm_rests3 (l := l) (hl1 := hl1) (hl := hl) (hw := by decide) ..) ?_
      rintro _ _ ⟨rfl, ou8, rfl⟩
      refine am_Rn.go (t := am_t171) rfl 1 rfl ⟨trivial, trivial⟩ ?_
      refine am_Rn.brT (by rw [sp_rests3 nr hl]; rfl) ?_
      exact hk _ (am_Inv_mk (P := P) (n := n) (rn := rn) (C := C) (N := N) (S := S) cP cn cC cr cN c0 cS c9 cu cm cl1 cl2 cl3 cl4 cla ct ⟨rfl, rfl, rfl, rfl, rfl, rfl, b1, b2, b3, b4, b5, b6, b7⟩ ci1 ci2 ccl cnr cho)
    · skip
      refine am_Rn.go (t := am_t171) rfl 16 rfl ⟨trivial, trivial, trivial, trivial, trivial, (by exact am_inbS1 (by omega) hL), trivial, trivial, trivial, trivial, (by exact am_inbS2 (by omega) hL), trivial, trivial, trivial, trivial, (by exact am_inbS3 (by omega) hL), trivial⟩ ?_
      show am_Rn sc 171 (408, _, [.int (sc.2 (Int32.ofNat i + 3).toNatClampNeg), .int (sc.2 (Int32.ofNat i + 2).toNatClampNeg), .int (sc.2 (Int32.ofNat i + 1).toNatClampNeg), .ref 0], _) _
      rw [hw1, hw2, hw3]
      refine am_Rn.call (t := am_t171) rfl rfl (sx_rests1 (m := 3) (l := l) (hm2 := by omega) (hm := by omega) (hl1 := hl1) (hl := hl) ..) ?_
      rintro _ _ ⟨rfl, ou9, rfl⟩
      refine am_Rn.go (t := am_t171) rfl 16 rfl ⟨trivial, trivial, trivial, trivial, trivial, (by exact am_inbS1 (by omega) hL), trivial, trivial, trivial, trivial, (by exact am_inbS2 (by omega) hL), trivial, trivial, trivial, trivial, (by exact am_inbS3 (by omega) hL), trivial⟩ ?_
      show am_Rn sc 171 (425, _, [.int (sc.2 (Int32.ofNat i + 3).toNatClampNeg), .int (sc.2 (Int32.ofNat i + 2).toNatClampNeg), .int (sc.2 (Int32.ofNat i + 1).toNatClampNeg), .ref 416, _], _) _
      rw [hw1, hw2, hw3]
      refine am_Rn.call (t := am_t171) rfl rfl (mm_rests3 (l := l) (hl1 := hl1) (hl := hl) (hw := by decide) ..) ?_
      rintro _ _ ⟨rfl, ou8, rfl⟩
      refine am_Rn.go (t := am_t171) rfl 1 rfl ⟨trivial, trivial⟩ ?_
      refine am_Rn.brT (by rw [sp_rests3 nr hl]; rfl) ?_
      exact hk _ (am_Inv_mk (P := P) (n := n) (rn := rn) (C := C) (N := N) (S := S) cP cn cC cr cN c0 cS c9 cu cm cl1 cl2 cl3 cl4 cla ct ⟨rfl, rfl, rfl, rfl, rfl, rfl, b1, b2, b3, b4, b5, b6, b7⟩ ci1 ci2 ccl cnr cho)
  · skip
    refine am_Rn.go (t := am_t171) rfl 16 rfl ⟨trivial, trivial, trivial, trivial, trivial, (by exact am_inbS1 (by omega) hL), trivial, trivial, trivial, trivial, (by exact am_inbS2 (by omega) hL), trivial, trivial, trivial, trivial, (by exact am_inbS3 (by omega) hL), trivial⟩ ?_
    show am_Rn sc 171 (408, _, [.int (sc.2 (Int32.ofNat i + 3).toNatClampNeg), .int (sc.2 (Int32.ofNat i + 2).toNatClampNeg), .int (sc.2 (Int32.ofNat i + 1).toNatClampNeg), .ref 0], _) _
    rw [hw1, hw2, hw3]
    refine am_Rn.call (t := am_t171) rfl rfl (sx_rests_F (hw := h) ..) ?_
    rintro _ _ ⟨rfl, rfl⟩
    refine am_Rn.go (t := am_t171) rfl 16 rfl ⟨trivial, trivial, trivial, trivial, trivial, (by exact am_inbS1 (by omega) hL), trivial, trivial, trivial, trivial, (by exact am_inbS2 (by omega) hL), trivial, trivial, trivial, trivial, (by exact am_inbS3 (by omega) hL), trivial⟩ ?_
    show am_Rn sc 171 (425, _, [.int (sc.2 (Int32.ofNat i + 3).toNatClampNeg), .int (sc.2 (Int32.ofNat i + 2).toNatClampNeg), .int (sc.2 (Int32.ofNat i + 1).toNatClampNeg), .ref 416, _], _) _
    rw [hw1, hw2, hw3]
    refine am_Rn.call (t := am_t171) rfl rfl (mm_rests_F (hw := h) ..) ?_
    rintro _ _ ⟨rfl, rfl⟩
    refine am_Rn.go (t := am_t171) rfl 1 rfl ⟨trivial, trivial⟩ ?_
    refine am_Rn.brT rfl ?_
    exact hk _ (am_Inv_mk (P := P) (n := n) (rn := rn) (C := C) (N := N) (S := S) cP cn cC cr cN c0 cS c9 cu cm cl1 cl2 cl3 cl4 cla ct ⟨rfl, rfl, rfl, rfl, rfl, rfl, b1, b2, b3, b4, b5, b6, b7⟩ ci1 ci2 ccl cnr cho)
set_option maxRecDepth 8000 in
set_option maxHeartbeats 400000 in
theorem am_op19 (sc : am_Sc) (i : Nat) (hi : i + 4 ≤ sc.1) (hL : sc.1 ≤ 2048) (K : Option Value → am_M → Prop) (M : am_M) (hI : am_Inv M) (hk : ∀ M, am_Inv M → am_Rn sc 171 (674, [some (.ref 1030), some (.ref 0), some (.ref 416), some (.int (Int32.ofNat i))], [], M) K) : am_Rn sc 171 (429, [some (.ref 1030), some (.ref 0), some (.ref 416), some (.int (Int32.ofNat i))], [], M) K := by
  refine hI _ ?_
  intro tr nu la me tc ts P tx n it fa nx pl ki va tw nu3 la3 me3 tc3 ts3 pe3 rn pr pv sa pd lo bo co sh se si er of_ bi bt so nu5 la5 me5 tc5 ts5 pe5 R6 k7 R8 k9 R10 nr ho ou rc fr cl C bw br le mnx mtk mpl mva mfa mdp mtx mnu mdn mla mme mtc mts m3a m3b m3c m3d mpr mpv msa mpd mlo mbo mco msh mse msi mer mof msp mke mik mbi mbt mso mou N S hM cP cn cC cr cN c0 cS c9 cu cm cl1 cl2 cl3 cl4 cla ct cR ci1 ci2 ccl cnr cho
  subst hM
  obtain ⟨-, rfl, rfl, rfl, rfl, rfl, b1, b2, b3, b4, b5, b6, b7⟩ := cR
  have m0 : mnu 0 = Int32.ofNat N := (cm 0 (by omega)).symm.trans c0
  have m9 : mnu 9 = Int32.ofNat S := (cm 9 (by omega)).symm.trans c9
  have m7 : 0 ≤ mnu 7 := by rw [← cm 7 (by omega)]; exact (cu 7 (by omega) (by omega)).1
  have mla_ : ∀ q, q < P → mla q = 0 ∨ mla q = 1 ∨ mla q = 2 ∨ mla q = 3 ∨ mla q = 4 := fun q hq => by rw [← cl1 q hq]; exact cla q hq
  obtain ⟨w1, hw1⟩ : ∃ w, sc.2 (Int32.ofNat i + 1).toNatClampNeg = w := ⟨_, rfl⟩
  obtain ⟨w2, hw2⟩ : ∃ w, sc.2 (Int32.ofNat i + 2).toNatClampNeg = w := ⟨_, rfl⟩
  obtain ⟨w3, hw3⟩ : ∃ w, sc.2 (Int32.ofNat i + 3).toNatClampNeg = w := ⟨_, rfl⟩
  rcases Classical.em ((0 ≤ w1 ∧ w1 ≤ 9) ∧ (0 ≤ w2 ∧ w2 ≤ 9)) with h | h
  · skip
    obtain ⟨a, ha, rfl⟩ := am_rng (k := 9) (by omega) h.1
    obtain ⟨b, hb, rfl⟩ := am_rng (k := 9) (by omega) h.2
    rcases Classical.em (0 ≤ w3 ∧ w3 ≤ ho a) with hv | hv
    · skip
      refine am_Rn.go (t := am_t171) rfl 16 rfl ⟨trivial, trivial, trivial, trivial, trivial, (by exact am_inbS1 (by omega) hL), trivial, trivial, trivial, trivial, (by exact am_inbS2 (by omega) hL), trivial, trivial, trivial, trivial, (by exact am_inbS3 (by omega) hL), trivial⟩ ?_
      show am_Rn sc 171 (445, _, [.int (sc.2 (Int32.ofNat i + 3).toNatClampNeg), .int (sc.2 (Int32.ofNat i + 2).toNatClampNeg), .int (sc.2 (Int32.ofNat i + 1).toNatClampNeg), .ref 0], _) _
      rw [hw1, hw2, hw3]
      refine am_Rn.call (t := am_t171) rfl rfl (sx_hold_T (a := a) (b := b) (ha := ha) (hb := hb) (hv := hv) ..) ?_
      rintro _ _ ⟨rfl, rfl⟩
      refine am_Rn.go (t := am_t171) rfl 16 rfl ⟨trivial, trivial, trivial, trivial, trivial, (by exact am_inbS1 (by omega) hL), trivial, trivial, trivial, trivial, (by exact am_inbS2 (by omega) hL), trivial, trivial, trivial, trivial, (by exact am_inbS3 (by omega) hL), trivial⟩ ?_
      show am_Rn sc 171 (462, _, [.int (sc.2 (Int32.ofNat i + 3).toNatClampNeg), .int (sc.2 (Int32.ofNat i + 2).toNatClampNeg), .int (sc.2 (Int32.ofNat i + 1).toNatClampNeg), .ref 416, _], _) _
      rw [hw1, hw2, hw3]
      refine am_Rn.call (t := am_t171) rfl rfl (mm_hold_T (a := a) (b := b) (ha := ha) (hb := hb) (hv := hv) ..) ?_
      rintro _ _ ⟨rfl, rfl⟩
      refine am_Rn.go (t := am_t171) rfl 1 rfl ⟨trivial, trivial⟩ ?_
      refine am_Rn.brT rfl ?_
      exact hk _ (am_Inv_mk (P := P) (n := n) (rn := rn) (C := C) (N := N) (S := S) cP cn cC cr cN c0 cS c9 cu cm cl1 cl2 cl3 cl4 cla ct ⟨rfl, rfl, rfl, rfl, rfl, rfl, b1, b2, b3, b4, b5, b6, b7⟩ ci1 ci2 ccl cnr (sp_hoOk_step cho ha hb hv))
    · skip
      refine am_Rn.go (t := am_t171) rfl 16 rfl ⟨trivial, trivial, trivial, trivial, trivial, (by exact am_inbS1 (by omega) hL), trivial, trivial, trivial, trivial, (by exact am_inbS2 (by omega) hL), trivial, trivial, trivial, trivial, (by exact am_inbS3 (by omega) hL), trivial⟩ ?_
      show am_Rn sc 171 (445, _, [.int (sc.2 (Int32.ofNat i + 3).toNatClampNeg), .int (sc.2 (Int32.ofNat i + 2).toNatClampNeg), .int (sc.2 (Int32.ofNat i + 1).toNatClampNeg), .ref 0], _) _
      rw [hw1, hw2, hw3]
      refine am_Rn.call (t := am_t171) rfl rfl (sx_hold_V (a := a) (b := b) (ha := ha) (hb := hb) (hv := hv) ..) ?_
      rintro _ _ ⟨rfl, rfl⟩
      refine am_Rn.go (t := am_t171) rfl 16 rfl ⟨trivial, trivial, trivial, trivial, trivial, (by exact am_inbS1 (by omega) hL), trivial, trivial, trivial, trivial, (by exact am_inbS2 (by omega) hL), trivial, trivial, trivial, trivial, (by exact am_inbS3 (by omega) hL), trivial⟩ ?_
      show am_Rn sc 171 (462, _, [.int (sc.2 (Int32.ofNat i + 3).toNatClampNeg), .int (sc.2 (Int32.ofNat i + 2).toNatClampNeg), .int (sc.2 (Int32.ofNat i + 1).toNatClampNeg), .ref 416, _], _) _
      rw [hw1, hw2, hw3]
      refine am_Rn.call (t := am_t171) rfl rfl (mm_hold_V (a := a) (b := b) (ha := ha) (hb := hb) (hv := hv) ..) ?_
      rintro _ _ ⟨rfl, rfl⟩
      refine am_Rn.go (t := am_t171) rfl 1 rfl ⟨trivial, trivial⟩ ?_
      refine am_Rn.brT rfl ?_
      exact hk _ (am_Inv_mk (P := P) (n := n) (rn := rn) (C := C) (N := N) (S := S) cP cn cC cr cN c0 cS c9 cu cm cl1 cl2 cl3 cl4 cla ct ⟨rfl, rfl, rfl, rfl, rfl, rfl, b1, b2, b3, b4, b5, b6, b7⟩ ci1 ci2 ccl cnr cho)
  · skip
    refine am_Rn.go (t := am_t171) rfl 16 rfl ⟨trivial, trivial, trivial, trivial, trivial, (by exact am_inbS1 (by omega) hL), trivial, trivial, trivial, trivial, (by exact am_inbS2 (by omega) hL), trivial, trivial, trivial, trivial, (by exact am_inbS3 (by omega) hL), trivial⟩ ?_
    show am_Rn sc 171 (445, _, [.int (sc.2 (Int32.ofNat i + 3).toNatClampNeg), .int (sc.2 (Int32.ofNat i + 2).toNatClampNeg), .int (sc.2 (Int32.ofNat i + 1).toNatClampNeg), .ref 0], _) _
    rw [hw1, hw2, hw3]
    refine am_Rn.call (t := am_t171) rfl rfl (sx_hold_F (hw := h) ..) ?_
    rintro _ _ ⟨rfl, rfl⟩
    refine am_Rn.go (t := am_t171) rfl 16 rfl ⟨trivial, trivial, trivial, trivial, trivial, (by exact am_inbS1 (by omega) hL), trivial, trivial, trivial, trivial, (by exact am_inbS2 (by omega) hL), trivial, trivial, trivial, trivial, (by exact am_inbS3 (by omega) hL), trivial⟩ ?_
    show am_Rn sc 171 (462, _, [.int (sc.2 (Int32.ofNat i + 3).toNatClampNeg), .int (sc.2 (Int32.ofNat i + 2).toNatClampNeg), .int (sc.2 (Int32.ofNat i + 1).toNatClampNeg), .ref 416, _], _) _
    rw [hw1, hw2, hw3]
    refine am_Rn.call (t := am_t171) rfl rfl (mm_hold_F (hw := h) ..) ?_
    rintro _ _ ⟨rfl, rfl⟩
    refine am_Rn.go (t := am_t171) rfl 1 rfl ⟨trivial, trivial⟩ ?_
    refine am_Rn.brT rfl ?_
    exact hk _ (am_Inv_mk (P := P) (n := n) (rn := rn) (C := C) (N := N) (S := S) cP cn cC cr cN c0 cS c9 cu cm cl1 cl2 cl3 cl4 cla ct ⟨rfl, rfl, rfl, rfl, rfl, rfl, b1, b2, b3, b4, b5, b6, b7⟩ ci1 ci2 ccl cnr cho)
set_option maxRecDepth 8000 in
set_option maxHeartbeats 400000 in
theorem am_op20 (sc : am_Sc) (i : Nat) (hi : i + 4 ≤ sc.1) (hL : sc.1 ≤ 2048) (K : Option Value → am_M → Prop) (M : am_M) (hI : am_Inv M) (hk : ∀ M, am_Inv M → am_Rn sc 171 (674, [some (.ref 1030), some (.ref 0), some (.ref 416), some (.int (Int32.ofNat i))], [], M) K) : am_Rn sc 171 (466, [some (.ref 1030), some (.ref 0), some (.ref 416), some (.int (Int32.ofNat i))], [], M) K := by
  refine hI _ ?_
  intro tr nu la me tc ts P tx n it fa nx pl ki va tw nu3 la3 me3 tc3 ts3 pe3 rn pr pv sa pd lo bo co sh se si er of_ bi bt so nu5 la5 me5 tc5 ts5 pe5 R6 k7 R8 k9 R10 nr ho ou rc fr cl C bw br le mnx mtk mpl mva mfa mdp mtx mnu mdn mla mme mtc mts m3a m3b m3c m3d mpr mpv msa mpd mlo mbo mco msh mse msi mer mof msp mke mik mbi mbt mso mou N S hM cP cn cC cr cN c0 cS c9 cu cm cl1 cl2 cl3 cl4 cla ct cR ci1 ci2 ccl cnr cho
  subst hM
  obtain ⟨-, rfl, rfl, rfl, rfl, rfl, b1, b2, b3, b4, b5, b6, b7⟩ := cR
  have m0 : mnu 0 = Int32.ofNat N := (cm 0 (by omega)).symm.trans c0
  have m9 : mnu 9 = Int32.ofNat S := (cm 9 (by omega)).symm.trans c9
  have m7 : 0 ≤ mnu 7 := by rw [← cm 7 (by omega)]; exact (cu 7 (by omega) (by omega)).1
  have mla_ : ∀ q, q < P → mla q = 0 ∨ mla q = 1 ∨ mla q = 2 ∨ mla q = 3 ∨ mla q = 4 := fun q hq => by rw [← cl1 q hq]; exact cla q hq
  obtain ⟨w1, hw1⟩ : ∃ w, sc.2 (Int32.ofNat i + 1).toNatClampNeg = w := ⟨_, rfl⟩
  rcases Classical.em (0 ≤ w1 ∧ w1 ≤ 1) with h | h
  · skip
    refine am_Rn.go (t := am_t171) rfl 6 rfl ⟨trivial, trivial, trivial, trivial, trivial, (by exact am_inbS1 (by omega) hL), trivial⟩ ?_
    show am_Rn sc 171 (472, _, [.int (sc.2 (Int32.ofNat i + 1).toNatClampNeg), .ref 0], _) _
    rw [hw1]
    refine am_Rn.call (t := am_t171) rfl rfl (sx_out ..) ?_
    rintro _ _ ⟨rfl, rfl⟩
    refine am_Rn.go (t := am_t171) rfl 6 rfl ⟨trivial, trivial, trivial, trivial, trivial, (by exact am_inbS1 (by omega) hL), trivial⟩ ?_
    show am_Rn sc 171 (479, _, [.int (sc.2 (Int32.ofNat i + 1).toNatClampNeg), .ref 416, _], _) _
    rw [hw1]
    refine am_Rn.call (t := am_t171) rfl rfl (mm_out_T (hw := h) (h0 := sp_mean0 cho cnr) ..) ?_
    rintro _ _ ⟨rfl, rfl⟩
    refine am_Rn.go (t := am_t171) rfl 1 rfl ⟨trivial, trivial⟩ ?_
    refine am_Rn.brT rfl ?_
    exact hk _ (am_Inv_mk (P := P) (n := n) (rn := rn) (C := C) (N := N) (S := S) cP cn cC cr cN c0 cS c9 cu cm cl1 cl2 cl3 cl4 cla ct ⟨rfl, rfl, rfl, rfl, rfl, rfl, b1, b2, b3, b4, b5, b6, b7⟩ ci1 ci2 ccl cnr cho)
  · skip
    refine am_Rn.go (t := am_t171) rfl 6 rfl ⟨trivial, trivial, trivial, trivial, trivial, (by exact am_inbS1 (by omega) hL), trivial⟩ ?_
    show am_Rn sc 171 (472, _, [.int (sc.2 (Int32.ofNat i + 1).toNatClampNeg), .ref 0], _) _
    rw [hw1]
    refine am_Rn.call (t := am_t171) rfl rfl (sx_out ..) ?_
    rintro _ _ ⟨rfl, rfl⟩
    refine am_Rn.go (t := am_t171) rfl 6 rfl ⟨trivial, trivial, trivial, trivial, trivial, (by exact am_inbS1 (by omega) hL), trivial⟩ ?_
    show am_Rn sc 171 (479, _, [.int (sc.2 (Int32.ofNat i + 1).toNatClampNeg), .ref 416, _], _) _
    rw [hw1]
    refine am_Rn.call (t := am_t171) rfl rfl (mm_out_F (hw := h) ..) ?_
    rintro _ _ ⟨rfl, rfl⟩
    refine am_Rn.go (t := am_t171) rfl 1 rfl ⟨trivial, trivial⟩ ?_
    refine am_Rn.brT (if_neg h) ?_
    exact hk _ (am_Inv_mk (P := P) (n := n) (rn := rn) (C := C) (N := N) (S := S) cP cn cC cr cN c0 cS c9 cu cm cl1 cl2 cl3 cl4 cla ct ⟨rfl, rfl, rfl, rfl, rfl, rfl, b1, b2, b3, b4, b5, b6, b7⟩ ci1 ci2 ccl cnr cho)
set_option maxRecDepth 8000 in
set_option maxHeartbeats 400000 in
theorem am_op21 (sc : am_Sc) (i : Nat) (hi : i + 4 ≤ sc.1) (hL : sc.1 ≤ 2048) (K : Option Value → am_M → Prop) (M : am_M) (hI : am_Inv M) (hk : ∀ M, am_Inv M → am_Rn sc 171 (674, [some (.ref 1030), some (.ref 0), some (.ref 416), some (.int (Int32.ofNat i))], [], M) K) : am_Rn sc 171 (483, [some (.ref 1030), some (.ref 0), some (.ref 416), some (.int (Int32.ofNat i))], [], M) K := by
  refine hI _ ?_
  intro tr nu la me tc ts P tx n it fa nx pl ki va tw nu3 la3 me3 tc3 ts3 pe3 rn pr pv sa pd lo bo co sh se si er of_ bi bt so nu5 la5 me5 tc5 ts5 pe5 R6 k7 R8 k9 R10 nr ho ou rc fr cl C bw br le mnx mtk mpl mva mfa mdp mtx mnu mdn mla mme mtc mts m3a m3b m3c m3d mpr mpv msa mpd mlo mbo mco msh mse msi mer mof msp mke mik mbi mbt mso mou N S hM cP cn cC cr cN c0 cS c9 cu cm cl1 cl2 cl3 cl4 cla ct cR ci1 ci2 ccl cnr cho
  subst hM
  obtain ⟨-, rfl, rfl, rfl, rfl, rfl, b1, b2, b3, b4, b5, b6, b7⟩ := cR
  have m0 : mnu 0 = Int32.ofNat N := (cm 0 (by omega)).symm.trans c0
  have m9 : mnu 9 = Int32.ofNat S := (cm 9 (by omega)).symm.trans c9
  have m7 : 0 ≤ mnu 7 := by rw [← cm 7 (by omega)]; exact (cu 7 (by omega) (by omega)).1
  have mla_ : ∀ q, q < P → mla q = 0 ∨ mla q = 1 ∨ mla q = 2 ∨ mla q = 3 ∨ mla q = 4 := fun q hq => by rw [← cl1 q hq]; exact cla q hq
  obtain ⟨w1, hw1⟩ : ∃ w, sc.2 (Int32.ofNat i + 1).toNatClampNeg = w := ⟨_, rfl⟩
  rcases Classical.em (0 ≤ w1 ∧ w1 ≤ 999) with h | h
  · skip
    rcases Classical.em (C < 12) with hu | hu
    · skip
      refine am_Rn.go (t := am_t171) rfl 6 rfl ⟨trivial, trivial, trivial, trivial, trivial, (by exact am_inbS1 (by omega) hL), trivial⟩ ?_
      show am_Rn sc 171 (489, _, [.int (sc.2 (Int32.ofNat i + 1).toNatClampNeg), .ref 0], _) _
      rw [hw1]
      refine am_Rn.call (t := am_t171) rfl rfl (sx_clue_T (hC := cC) (hv := h) (hu := hu) ..) ?_
      rintro _ _ ⟨rfl, rfl⟩
      refine am_Rn.go (t := am_t171) rfl 6 rfl ⟨trivial, trivial, trivial, trivial, trivial, (by exact am_inbS1 (by omega) hL), trivial⟩ ?_
      show am_Rn sc 171 (496, _, [.int (sc.2 (Int32.ofNat i + 1).toNatClampNeg), .ref 416, _], _) _
      rw [hw1]
      refine am_Rn.call (t := am_t171) rfl rfl (mm_clue_T (hv := h) (C := C) (hu := hu) ..) ?_
      rintro _ _ ⟨rfl, rfl⟩
      refine am_Rn.go (t := am_t171) rfl 1 rfl ⟨trivial, trivial⟩ ?_
      refine am_Rn.brT rfl ?_
      exact hk _ (am_Inv_mk (P := P) (n := n) (rn := rn) (C := C + 1) (N := N) (S := S) cP cn (by omega) cr cN c0 cS c9 cu cm cl1 cl2 cl3 cl4 cla ct ⟨rfl, rfl, rfl, rfl, rfl, rfl, b1, b2, b3, b4, b5, b6, b7⟩ ci1 ci2 (sp_bd_upd (b := 999) (by omega) ccl h) cnr cho)
    · skip
      refine am_Rn.go (t := am_t171) rfl 6 rfl ⟨trivial, trivial, trivial, trivial, trivial, (by exact am_inbS1 (by omega) hL), trivial⟩ ?_
      show am_Rn sc 171 (489, _, [.int (sc.2 (Int32.ofNat i + 1).toNatClampNeg), .ref 0], _) _
      rw [hw1]
      refine am_Rn.call (t := am_t171) rfl rfl (sx_clue_U (hC := cC) (hv := h) (hu := by omega) ..) ?_
      rintro _ _ ⟨rfl, rfl⟩
      refine am_Rn.go (t := am_t171) rfl 6 rfl ⟨trivial, trivial, trivial, trivial, trivial, (by exact am_inbS1 (by omega) hL), trivial⟩ ?_
      show am_Rn sc 171 (496, _, [.int (sc.2 (Int32.ofNat i + 1).toNatClampNeg), .ref 416, _], _) _
      rw [hw1]
      refine am_Rn.call (t := am_t171) rfl rfl (mm_clue_U (hv := h) (C := C) (hu := by omega) ..) ?_
      rintro _ _ ⟨rfl, rfl⟩
      refine am_Rn.go (t := am_t171) rfl 1 rfl ⟨trivial, trivial⟩ ?_
      refine am_Rn.brT rfl ?_
      exact hk _ (am_Inv_mk (P := P) (n := n) (rn := rn) (C := C) (N := N) (S := S) cP cn cC cr cN c0 cS c9 cu cm cl1 cl2 cl3 cl4 cla ct ⟨rfl, rfl, rfl, rfl, rfl, rfl, b1, b2, b3, b4, b5, b6, b7⟩ ci1 ci2 ccl cnr cho)
  · skip
    refine am_Rn.go (t := am_t171) rfl 6 rfl ⟨trivial, trivial, trivial, trivial, trivial, (by exact am_inbS1 (by omega) hL), trivial⟩ ?_
    show am_Rn sc 171 (489, _, [.int (sc.2 (Int32.ofNat i + 1).toNatClampNeg), .ref 0], _) _
    rw [hw1]
    refine am_Rn.call (t := am_t171) rfl rfl (sx_clue_F (hv := h) ..) ?_
    rintro _ _ ⟨rfl, rfl⟩
    refine am_Rn.go (t := am_t171) rfl 6 rfl ⟨trivial, trivial, trivial, trivial, trivial, (by exact am_inbS1 (by omega) hL), trivial⟩ ?_
    show am_Rn sc 171 (496, _, [.int (sc.2 (Int32.ofNat i + 1).toNatClampNeg), .ref 416, _], _) _
    rw [hw1]
    refine am_Rn.call (t := am_t171) rfl rfl (mm_clue_F (hv := h) ..) ?_
    rintro _ _ ⟨rfl, rfl⟩
    refine am_Rn.go (t := am_t171) rfl 1 rfl ⟨trivial, trivial⟩ ?_
    refine am_Rn.brT rfl ?_
    exact hk _ (am_Inv_mk (P := P) (n := n) (rn := rn) (C := C) (N := N) (S := S) cP cn cC cr cN c0 cS c9 cu cm cl1 cl2 cl3 cl4 cla ct ⟨rfl, rfl, rfl, rfl, rfl, rfl, b1, b2, b3, b4, b5, b6, b7⟩ ci1 ci2 ccl cnr cho)
set_option maxRecDepth 8000 in
set_option maxHeartbeats 400000 in
theorem am_op22 (sc : am_Sc) (i : Nat) (hi : i + 4 ≤ sc.1) (hL : sc.1 ≤ 2048) (K : Option Value → am_M → Prop) (M : am_M) (hI : am_Inv M) (hk : ∀ M, am_Inv M → am_Rn sc 171 (674, [some (.ref 1030), some (.ref 0), some (.ref 416), some (.int (Int32.ofNat i))], [], M) K) : am_Rn sc 171 (500, [some (.ref 1030), some (.ref 0), some (.ref 416), some (.int (Int32.ofNat i))], [], M) K := by
  refine hI _ ?_
  intro tr nu la me tc ts P tx n it fa nx pl ki va tw nu3 la3 me3 tc3 ts3 pe3 rn pr pv sa pd lo bo co sh se si er of_ bi bt so nu5 la5 me5 tc5 ts5 pe5 R6 k7 R8 k9 R10 nr ho ou rc fr cl C bw br le mnx mtk mpl mva mfa mdp mtx mnu mdn mla mme mtc mts m3a m3b m3c m3d mpr mpv msa mpd mlo mbo mco msh mse msi mer mof msp mke mik mbi mbt mso mou N S hM cP cn cC cr cN c0 cS c9 cu cm cl1 cl2 cl3 cl4 cla ct cR ci1 ci2 ccl cnr cho
  subst hM
  obtain ⟨-, rfl, rfl, rfl, rfl, rfl, b1, b2, b3, b4, b5, b6, b7⟩ := cR
  have m0 : mnu 0 = Int32.ofNat N := (cm 0 (by omega)).symm.trans c0
  have m9 : mnu 9 = Int32.ofNat S := (cm 9 (by omega)).symm.trans c9
  have m7 : 0 ≤ mnu 7 := by rw [← cm 7 (by omega)]; exact (cu 7 (by omega) (by omega)).1
  have mla_ : ∀ q, q < P → mla q = 0 ∨ mla q = 1 ∨ mla q = 2 ∨ mla q = 3 ∨ mla q = 4 := fun q hq => by rw [← cl1 q hq]; exact cla q hq
  obtain ⟨w1, hw1⟩ : ∃ w, sc.2 (Int32.ofNat i + 1).toNatClampNeg = w := ⟨_, rfl⟩
  obtain ⟨w2, hw2⟩ : ∃ w, sc.2 (Int32.ofNat i + 2).toNatClampNeg = w := ⟨_, rfl⟩
  rcases Classical.em ((0 ≤ w1 ∧ w1 ≤ 99) ∧ (0 ≤ w2 ∧ w2 ≤ 3)) with h | h
  · skip
    rcases Classical.em (3 ≤ C) with hc | hc
    · skip
      have hE : ∀ A B : Nat, A ≤ 10 → B ≤ 10 → 0 ≤ sp_err mnu cl C (Int32.ofNat A) (Int32.ofNat B) w1 := fun A B hA hB => by
        rw [← sp_err_c cm]
        exact sp_err_bd cu c0 cN ccl cC hA hB h.1
      refine am_Rn.go (t := am_t171) rfl 11 rfl ⟨trivial, trivial, trivial, trivial, trivial, (by exact am_inbS1 (by omega) hL), trivial, trivial, trivial, trivial, (by exact am_inbS2 (by omega) hL), trivial⟩ ?_
      show am_Rn sc 171 (511, _, [.int (sc.2 (Int32.ofNat i + 2).toNatClampNeg), .int (sc.2 (Int32.ofNat i + 1).toNatClampNeg), .ref 0], _) _
      rw [hw1, hw2]
      refine am_Rn.call (t := am_t171) rfl rfl (sx_fit_T (hP := cP) (hC := cC) (hv := h.1) (hw := h.2) (hc := hc) ..) ?_
      rintro _ _ ⟨rfl, rfl⟩
      refine am_Rn.go (t := am_t171) rfl 11 rfl ⟨trivial, trivial, trivial, trivial, trivial, (by exact am_inbS1 (by omega) hL), trivial, trivial, trivial, trivial, (by exact am_inbS2 (by omega) hL), trivial⟩ ?_
      show am_Rn sc 171 (523, _, [.int (sc.2 (Int32.ofNat i + 2).toNatClampNeg), .int (sc.2 (Int32.ofNat i + 1).toNatClampNeg), .ref 416, _], _) _
      rw [hw1, hw2]
      refine am_Rn.call (t := am_t171) rfl rfl (mm_fit_T (C := C) (hC3 := hc) (hC := cC) (hE := hE) (hv := h.1) (hw := h.2) ..) ?_
      rintro _ _ ⟨rfl, rfl⟩
      refine am_Rn.go (t := am_t171) rfl 1 rfl ⟨trivial, trivial⟩ ?_
      refine am_Rn.brT (by rw [sp_fit_eq cm]) ?_
      exact hk _ (am_Inv_mk (P := P) (n := n) (rn := rn) (C := C) (N := N) (S := S) cP cn cC cr cN c0 cS c9 cu cm cl1 cl2 cl3 cl4 cla ct ⟨rfl, rfl, rfl, rfl, rfl, rfl, b1, b2, b3, b4, b5, b6, b7⟩ ci1 ci2 ccl cnr cho)
    · skip
      refine am_Rn.go (t := am_t171) rfl 11 rfl ⟨trivial, trivial, trivial, trivial, trivial, (by exact am_inbS1 (by omega) hL), trivial, trivial, trivial, trivial, (by exact am_inbS2 (by omega) hL), trivial⟩ ?_
      show am_Rn sc 171 (511, _, [.int (sc.2 (Int32.ofNat i + 2).toNatClampNeg), .int (sc.2 (Int32.ofNat i + 1).toNatClampNeg), .ref 0], _) _
      rw [hw1, hw2]
      refine am_Rn.call (t := am_t171) rfl rfl (sx_fit_S (hC := cC) (hv := h.1) (hw := h.2) (hc := by omega) ..) ?_
      rintro _ _ ⟨rfl, rfl⟩
      refine am_Rn.go (t := am_t171) rfl 11 rfl ⟨trivial, trivial, trivial, trivial, trivial, (by exact am_inbS1 (by omega) hL), trivial, trivial, trivial, trivial, (by exact am_inbS2 (by omega) hL), trivial⟩ ?_
      show am_Rn sc 171 (523, _, [.int (sc.2 (Int32.ofNat i + 2).toNatClampNeg), .int (sc.2 (Int32.ofNat i + 1).toNatClampNeg), .ref 416, _], _) _
      rw [hw1, hw2]
      refine am_Rn.call (t := am_t171) rfl rfl (mm_fit_S (C := C) (hC3 := by omega) (hv := h.1) (hw := h.2) ..) ?_
      rintro _ _ ⟨rfl, rfl⟩
      refine am_Rn.go (t := am_t171) rfl 1 rfl ⟨trivial, trivial⟩ ?_
      refine am_Rn.brT rfl ?_
      exact hk _ (am_Inv_mk (P := P) (n := n) (rn := rn) (C := C) (N := N) (S := S) cP cn cC cr cN c0 cS c9 cu cm cl1 cl2 cl3 cl4 cla ct ⟨rfl, rfl, rfl, rfl, rfl, rfl, b1, b2, b3, b4, b5, b6, b7⟩ ci1 ci2 ccl cnr cho)
  · skip
    refine am_Rn.go (t := am_t171) rfl 11 rfl ⟨trivial, trivial, trivial, trivial, trivial, (by exact am_inbS1 (by omega) hL), trivial, trivial, trivial, trivial, (by exact am_inbS2 (by omega) hL), trivial⟩ ?_
    show am_Rn sc 171 (511, _, [.int (sc.2 (Int32.ofNat i + 2).toNatClampNeg), .int (sc.2 (Int32.ofNat i + 1).toNatClampNeg), .ref 0], _) _
    rw [hw1, hw2]
    refine am_Rn.call (t := am_t171) rfl rfl (sx_fit_F (hw := h) ..) ?_
    rintro _ _ ⟨rfl, rfl⟩
    refine am_Rn.go (t := am_t171) rfl 11 rfl ⟨trivial, trivial, trivial, trivial, trivial, (by exact am_inbS1 (by omega) hL), trivial, trivial, trivial, trivial, (by exact am_inbS2 (by omega) hL), trivial⟩ ?_
    show am_Rn sc 171 (523, _, [.int (sc.2 (Int32.ofNat i + 2).toNatClampNeg), .int (sc.2 (Int32.ofNat i + 1).toNatClampNeg), .ref 416, _], _) _
    rw [hw1, hw2]
    refine am_Rn.call (t := am_t171) rfl rfl (mm_fit_F (hw := h) ..) ?_
    rintro _ _ ⟨rfl, rfl⟩
    refine am_Rn.go (t := am_t171) rfl 1 rfl ⟨trivial, trivial⟩ ?_
    refine am_Rn.brT rfl ?_
    exact hk _ (am_Inv_mk (P := P) (n := n) (rn := rn) (C := C) (N := N) (S := S) cP cn cC cr cN c0 cS c9 cu cm cl1 cl2 cl3 cl4 cla ct ⟨rfl, rfl, rfl, rfl, rfl, rfl, b1, b2, b3, b4, b5, b6, b7⟩ ci1 ci2 ccl cnr cho)
set_option maxRecDepth 8000 in
set_option maxHeartbeats 400000 in
theorem am_op23 (sc : am_Sc) (i : Nat) (hi : i + 4 ≤ sc.1) (hL : sc.1 ≤ 2048) (K : Option Value → am_M → Prop) (M : am_M) (hI : am_Inv M) (hk : ∀ M, am_Inv M → am_Rn sc 171 (674, [some (.ref 1030), some (.ref 0), some (.ref 416), some (.int (Int32.ofNat i))], [], M) K) : am_Rn sc 171 (527, [some (.ref 1030), some (.ref 0), some (.ref 416), some (.int (Int32.ofNat i))], [], M) K := by
  refine hI _ ?_
  intro tr nu la me tc ts P tx n it fa nx pl ki va tw nu3 la3 me3 tc3 ts3 pe3 rn pr pv sa pd lo bo co sh se si er of_ bi bt so nu5 la5 me5 tc5 ts5 pe5 R6 k7 R8 k9 R10 nr ho ou rc fr cl C bw br le mnx mtk mpl mva mfa mdp mtx mnu mdn mla mme mtc mts m3a m3b m3c m3d mpr mpv msa mpd mlo mbo mco msh mse msi mer mof msp mke mik mbi mbt mso mou N S hM cP cn cC cr cN c0 cS c9 cu cm cl1 cl2 cl3 cl4 cla ct cR ci1 ci2 ccl cnr cho
  subst hM
  obtain ⟨-, rfl, rfl, rfl, rfl, rfl, b1, b2, b3, b4, b5, b6, b7⟩ := cR
  have m0 : mnu 0 = Int32.ofNat N := (cm 0 (by omega)).symm.trans c0
  have m9 : mnu 9 = Int32.ofNat S := (cm 9 (by omega)).symm.trans c9
  have m7 : 0 ≤ mnu 7 := by rw [← cm 7 (by omega)]; exact (cu 7 (by omega) (by omega)).1
  have mla_ : ∀ q, q < P → mla q = 0 ∨ mla q = 1 ∨ mla q = 2 ∨ mla q = 3 ∨ mla q = 4 := fun q hq => by rw [← cl1 q hq]; exact cla q hq
  obtain ⟨w1, hw1⟩ : ∃ w, sc.2 (Int32.ofNat i + 1).toNatClampNeg = w := ⟨_, rfl⟩
  obtain ⟨w2, hw2⟩ : ∃ w, sc.2 (Int32.ofNat i + 2).toNatClampNeg = w := ⟨_, rfl⟩
  rcases Classical.em (0 ≤ w1 ∧ w1 ≤ Int32.ofNat P - 1) with hp | hp
  · skip
    obtain ⟨q, hq, rfl⟩ := am_pers cP hp
    rcases Classical.em (0 ≤ w2 ∧ w2 ≤ 999) with hv | hv
    · skip
      rcases Classical.em (N ≤ rn) with hov | hov
      · skip
        refine am_Rn.go (t := am_t171) rfl 11 rfl ⟨trivial, trivial, trivial, trivial, trivial, (by exact am_inbS1 (by omega) hL), trivial, trivial, trivial, trivial, (by exact am_inbS2 (by omega) hL), trivial⟩ ?_
        show am_Rn sc 171 (538, _, [.int (sc.2 (Int32.ofNat i + 2).toNatClampNeg), .int (sc.2 (Int32.ofNat i + 1).toNatClampNeg), .ref 0], _) _
        rw [hw1, hw2]
        refine am_Rn.call (t := am_t171) rfl rfl (sx_say_S (hP := cP) (q := q) (hq := hq) (hv := hv) (N := N) (h0 := c0) (hN := cN) (hr := cr) (hov := hov) ..) ?_
        rintro _ _ ⟨rfl, rfl⟩
        refine am_Rn.go (t := am_t171) rfl 11 rfl ⟨trivial, trivial, trivial, trivial, trivial, (by exact am_inbS1 (by omega) hL), trivial, trivial, trivial, trivial, (by exact am_inbS2 (by omega) hL), trivial⟩ ?_
        show am_Rn sc 171 (550, _, [.int (sc.2 (Int32.ofNat i + 2).toNatClampNeg), .int (sc.2 (Int32.ofNat i + 1).toNatClampNeg), .ref 416, _], _) _
        rw [hw1, hw2]
        refine am_Rn.call (t := am_t171) rfl rfl (mm_say_S (hP := cP) (q := q) (hq := hq) (hv := hv) (N := N) (rn := rn) (h0 := m0) (hN := cN) (hr := cr) (hov := hov) ..) ?_
        rintro _ _ ⟨rfl, rfl⟩
        refine am_Rn.go (t := am_t171) rfl 1 rfl ⟨trivial, trivial⟩ ?_
        refine am_Rn.brT rfl ?_
        exact hk _ (am_Inv_mk (P := P) (n := n) (rn := rn) (C := C) (N := N) (S := S) cP cn cC cr cN c0 cS c9 cu cm cl1 cl2 cl3 cl4 cla ct ⟨rfl, rfl, rfl, rfl, rfl, rfl, b1, b2, b3, b4, b5, b6, b7⟩ ci1 ci2 ccl cnr cho)
      · skip
        refine am_Rn.go (t := am_t171) rfl 11 rfl ⟨trivial, trivial, trivial, trivial, trivial, (by exact am_inbS1 (by omega) hL), trivial, trivial, trivial, trivial, (by exact am_inbS2 (by omega) hL), trivial⟩ ?_
        show am_Rn sc 171 (538, _, [.int (sc.2 (Int32.ofNat i + 2).toNatClampNeg), .int (sc.2 (Int32.ofNat i + 1).toNatClampNeg), .ref 0], _) _
        rw [hw1, hw2]
        refine am_Rn.call (t := am_t171) rfl rfl (sx_say_T (hP := cP) (q := q) (hq := hq) (hv := hv) (N := N) (h0 := c0) (hN := cN) (hr := cr) (hov := hov) ..) ?_
        rintro _ _ ⟨rfl, rfl⟩
        refine am_Rn.go (t := am_t171) rfl 11 rfl ⟨trivial, trivial, trivial, trivial, trivial, (by exact am_inbS1 (by omega) hL), trivial, trivial, trivial, trivial, (by exact am_inbS2 (by omega) hL), trivial⟩ ?_
        show am_Rn sc 171 (550, _, [.int (sc.2 (Int32.ofNat i + 2).toNatClampNeg), .int (sc.2 (Int32.ofNat i + 1).toNatClampNeg), .ref 416, _], _) _
        rw [hw1, hw2]
        refine am_Rn.call (t := am_t171) rfl rfl (mm_say_T (hP := cP) (q := q) (hq := hq) (hv := hv) (N := N) (rn := rn) (h0 := m0) (hN := cN) (hr := cr) (hov := hov) ..) ?_
        rintro _ _ ⟨rfl, rfl⟩
        refine am_Rn.go (t := am_t171) rfl 1 rfl ⟨trivial, trivial⟩ ?_
        refine am_Rn.brT (b5 q hq) ?_
        exact hk _ (am_Inv_mk (P := P) (n := n) (rn := rn) (C := C) (N := N) (S := S) cP cn cC cr cN c0 cS c9 cu cm cl1 cl2 cl3 cl4 cla ct ⟨rfl, rfl, rfl, rfl, rfl, rfl, b1, b2, b3, b4, sp_upd_c b5 q rfl, b6, b7⟩ ci1 ci2 ccl cnr cho)
    · skip
      refine am_Rn.go (t := am_t171) rfl 11 rfl ⟨trivial, trivial, trivial, trivial, trivial, (by exact am_inbS1 (by omega) hL), trivial, trivial, trivial, trivial, (by exact am_inbS2 (by omega) hL), trivial⟩ ?_
      show am_Rn sc 171 (538, _, [.int (sc.2 (Int32.ofNat i + 2).toNatClampNeg), .int (sc.2 (Int32.ofNat i + 1).toNatClampNeg), .ref 0], _) _
      rw [hw1, hw2]
      refine am_Rn.call (t := am_t171) rfl rfl (sx_say_V (hP := cP) (q := q) (hq := hq) (hv := hv) ..) ?_
      rintro _ _ ⟨rfl, rfl⟩
      refine am_Rn.go (t := am_t171) rfl 11 rfl ⟨trivial, trivial, trivial, trivial, trivial, (by exact am_inbS1 (by omega) hL), trivial, trivial, trivial, trivial, (by exact am_inbS2 (by omega) hL), trivial⟩ ?_
      show am_Rn sc 171 (550, _, [.int (sc.2 (Int32.ofNat i + 2).toNatClampNeg), .int (sc.2 (Int32.ofNat i + 1).toNatClampNeg), .ref 416, _], _) _
      rw [hw1, hw2]
      refine am_Rn.call (t := am_t171) rfl rfl (mm_say_V (hP := cP) (q := q) (hq := hq) (hv := hv) ..) ?_
      rintro _ _ ⟨rfl, rfl⟩
      refine am_Rn.go (t := am_t171) rfl 1 rfl ⟨trivial, trivial⟩ ?_
      refine am_Rn.brT rfl ?_
      exact hk _ (am_Inv_mk (P := P) (n := n) (rn := rn) (C := C) (N := N) (S := S) cP cn cC cr cN c0 cS c9 cu cm cl1 cl2 cl3 cl4 cla ct ⟨rfl, rfl, rfl, rfl, rfl, rfl, b1, b2, b3, b4, b5, b6, b7⟩ ci1 ci2 ccl cnr cho)
  · skip
    refine am_Rn.go (t := am_t171) rfl 11 rfl ⟨trivial, trivial, trivial, trivial, trivial, (by exact am_inbS1 (by omega) hL), trivial, trivial, trivial, trivial, (by exact am_inbS2 (by omega) hL), trivial⟩ ?_
    show am_Rn sc 171 (538, _, [.int (sc.2 (Int32.ofNat i + 2).toNatClampNeg), .int (sc.2 (Int32.ofNat i + 1).toNatClampNeg), .ref 0], _) _
    rw [hw1, hw2]
    refine am_Rn.call (t := am_t171) rfl rfl (sx_say_F (hP := cP) (hp := hp) ..) ?_
    rintro _ _ ⟨rfl, rfl⟩
    refine am_Rn.go (t := am_t171) rfl 11 rfl ⟨trivial, trivial, trivial, trivial, trivial, (by exact am_inbS1 (by omega) hL), trivial, trivial, trivial, trivial, (by exact am_inbS2 (by omega) hL), trivial⟩ ?_
    show am_Rn sc 171 (550, _, [.int (sc.2 (Int32.ofNat i + 2).toNatClampNeg), .int (sc.2 (Int32.ofNat i + 1).toNatClampNeg), .ref 416, _], _) _
    rw [hw1, hw2]
    refine am_Rn.call (t := am_t171) rfl rfl (mm_say_F (hP := cP) (hp := hp) ..) ?_
    rintro _ _ ⟨rfl, rfl⟩
    refine am_Rn.go (t := am_t171) rfl 1 rfl ⟨trivial, trivial⟩ ?_
    refine am_Rn.brT rfl ?_
    exact hk _ (am_Inv_mk (P := P) (n := n) (rn := rn) (C := C) (N := N) (S := S) cP cn cC cr cN c0 cS c9 cu cm cl1 cl2 cl3 cl4 cla ct ⟨rfl, rfl, rfl, rfl, rfl, rfl, b1, b2, b3, b4, b5, b6, b7⟩ ci1 ci2 ccl cnr cho)
set_option maxRecDepth 8000 in
set_option maxHeartbeats 400000 in
theorem am_op24 (sc : am_Sc) (i : Nat) (hi : i + 4 ≤ sc.1) (hL : sc.1 ≤ 2048) (K : Option Value → am_M → Prop) (M : am_M) (hI : am_Inv M) (hk : ∀ M, am_Inv M → am_Rn sc 171 (674, [some (.ref 1030), some (.ref 0), some (.ref 416), some (.int (Int32.ofNat i))], [], M) K) : am_Rn sc 171 (554, [some (.ref 1030), some (.ref 0), some (.ref 416), some (.int (Int32.ofNat i))], [], M) K := by
  refine hI _ ?_
  intro tr nu la me tc ts P tx n it fa nx pl ki va tw nu3 la3 me3 tc3 ts3 pe3 rn pr pv sa pd lo bo co sh se si er of_ bi bt so nu5 la5 me5 tc5 ts5 pe5 R6 k7 R8 k9 R10 nr ho ou rc fr cl C bw br le mnx mtk mpl mva mfa mdp mtx mnu mdn mla mme mtc mts m3a m3b m3c m3d mpr mpv msa mpd mlo mbo mco msh mse msi mer mof msp mke mik mbi mbt mso mou N S hM cP cn cC cr cN c0 cS c9 cu cm cl1 cl2 cl3 cl4 cla ct cR ci1 ci2 ccl cnr cho
  subst hM
  obtain ⟨-, rfl, rfl, rfl, rfl, rfl, b1, b2, b3, b4, b5, b6, b7⟩ := cR
  have m0 : mnu 0 = Int32.ofNat N := (cm 0 (by omega)).symm.trans c0
  have m9 : mnu 9 = Int32.ofNat S := (cm 9 (by omega)).symm.trans c9
  have m7 : 0 ≤ mnu 7 := by rw [← cm 7 (by omega)]; exact (cu 7 (by omega) (by omega)).1
  have mla_ : ∀ q, q < P → mla q = 0 ∨ mla q = 1 ∨ mla q = 2 ∨ mla q = 3 ∨ mla q = 4 := fun q hq => by rw [← cl1 q hq]; exact cla q hq
  obtain ⟨w1, hw1⟩ : ∃ w, sc.2 (Int32.ofNat i + 1).toNatClampNeg = w := ⟨_, rfl⟩
  obtain ⟨w2, hw2⟩ : ∃ w, sc.2 (Int32.ofNat i + 2).toNatClampNeg = w := ⟨_, rfl⟩
  rcases Classical.em (0 ≤ w1 ∧ w1 ≤ Int32.ofNat P - 1) with hp | hp
  · skip
    obtain ⟨q, hq, rfl⟩ := am_pers cP hp
    refine am_Rn.go (t := am_t171) rfl 11 rfl ⟨trivial, trivial, trivial, trivial, trivial, (by exact am_inbS1 (by omega) hL), trivial, trivial, trivial, trivial, (by exact am_inbS2 (by omega) hL), trivial⟩ ?_
    show am_Rn sc 171 (565, _, [.int (sc.2 (Int32.ofNat i + 2).toNatClampNeg), .int (sc.2 (Int32.ofNat i + 1).toNatClampNeg), .ref 0], _) _
    rw [hw1, hw2]
    refine am_Rn.call (t := am_t171) rfl rfl (sx_said_T (hP := cP) (q := q) (hq := hq) ..) ?_
    rintro _ _ ⟨rfl, rfl⟩
    refine am_Rn.go (t := am_t171) rfl 11 rfl ⟨trivial, trivial, trivial, trivial, trivial, (by exact am_inbS1 (by omega) hL), trivial, trivial, trivial, trivial, (by exact am_inbS2 (by omega) hL), trivial⟩ ?_
    show am_Rn sc 171 (577, _, [.int (sc.2 (Int32.ofNat i + 2).toNatClampNeg), .int (sc.2 (Int32.ofNat i + 1).toNatClampNeg), .ref 416, _], _) _
    rw [hw1, hw2]
    refine am_Rn.call (t := am_t171) rfl rfl (mm_said_T (hP := cP) (q := q) (hq := hq) ..) ?_
    rintro _ _ ⟨rfl, rfl⟩
    refine am_Rn.go (t := am_t171) rfl 1 rfl ⟨trivial, trivial⟩ ?_
    refine am_Rn.brT (by unfold an_said; rw [b6 q hq, b7 q hq]) ?_
    exact hk _ (am_Inv_mk (P := P) (n := n) (rn := rn) (C := C) (N := N) (S := S) cP cn cC cr cN c0 cS c9 cu cm cl1 cl2 cl3 cl4 cla ct ⟨rfl, rfl, rfl, rfl, rfl, rfl, b1, b2, b3, b4, b5, b6, b7⟩ ci1 ci2 ccl cnr cho)
  · skip
    refine am_Rn.go (t := am_t171) rfl 11 rfl ⟨trivial, trivial, trivial, trivial, trivial, (by exact am_inbS1 (by omega) hL), trivial, trivial, trivial, trivial, (by exact am_inbS2 (by omega) hL), trivial⟩ ?_
    show am_Rn sc 171 (565, _, [.int (sc.2 (Int32.ofNat i + 2).toNatClampNeg), .int (sc.2 (Int32.ofNat i + 1).toNatClampNeg), .ref 0], _) _
    rw [hw1, hw2]
    refine am_Rn.call (t := am_t171) rfl rfl (sx_said_F (hP := cP) (hp := hp) ..) ?_
    rintro _ _ ⟨rfl, rfl⟩
    refine am_Rn.go (t := am_t171) rfl 11 rfl ⟨trivial, trivial, trivial, trivial, trivial, (by exact am_inbS1 (by omega) hL), trivial, trivial, trivial, trivial, (by exact am_inbS2 (by omega) hL), trivial⟩ ?_
    show am_Rn sc 171 (577, _, [.int (sc.2 (Int32.ofNat i + 2).toNatClampNeg), .int (sc.2 (Int32.ofNat i + 1).toNatClampNeg), .ref 416, _], _) _
    rw [hw1, hw2]
    refine am_Rn.call (t := am_t171) rfl rfl (mm_said_F (hP := cP) (hp := hp) ..) ?_
    rintro _ _ ⟨rfl, rfl⟩
    refine am_Rn.go (t := am_t171) rfl 1 rfl ⟨trivial, trivial⟩ ?_
    refine am_Rn.brT rfl ?_
    exact hk _ (am_Inv_mk (P := P) (n := n) (rn := rn) (C := C) (N := N) (S := S) cP cn cC cr cN c0 cS c9 cu cm cl1 cl2 cl3 cl4 cla ct ⟨rfl, rfl, rfl, rfl, rfl, rfl, b1, b2, b3, b4, b5, b6, b7⟩ ci1 ci2 ccl cnr cho)
set_option maxRecDepth 8000 in
set_option maxHeartbeats 400000 in
theorem am_op25 (sc : am_Sc) (i : Nat) (hi : i + 4 ≤ sc.1) (hL : sc.1 ≤ 2048) (K : Option Value → am_M → Prop) (M : am_M) (hI : am_Inv M) (hk : ∀ M, am_Inv M → am_Rn sc 171 (674, [some (.ref 1030), some (.ref 0), some (.ref 416), some (.int (Int32.ofNat i))], [], M) K) : am_Rn sc 171 (581, [some (.ref 1030), some (.ref 0), some (.ref 416), some (.int (Int32.ofNat i))], [], M) K := by
  refine hI _ ?_
  intro tr nu la me tc ts P tx n it fa nx pl ki va tw nu3 la3 me3 tc3 ts3 pe3 rn pr pv sa pd lo bo co sh se si er of_ bi bt so nu5 la5 me5 tc5 ts5 pe5 R6 k7 R8 k9 R10 nr ho ou rc fr cl C bw br le mnx mtk mpl mva mfa mdp mtx mnu mdn mla mme mtc mts m3a m3b m3c m3d mpr mpv msa mpd mlo mbo mco msh mse msi mer mof msp mke mik mbi mbt mso mou N S hM cP cn cC cr cN c0 cS c9 cu cm cl1 cl2 cl3 cl4 cla ct cR ci1 ci2 ccl cnr cho
  subst hM
  obtain ⟨-, rfl, rfl, rfl, rfl, rfl, b1, b2, b3, b4, b5, b6, b7⟩ := cR
  have m0 : mnu 0 = Int32.ofNat N := (cm 0 (by omega)).symm.trans c0
  have m9 : mnu 9 = Int32.ofNat S := (cm 9 (by omega)).symm.trans c9
  have m7 : 0 ≤ mnu 7 := by rw [← cm 7 (by omega)]; exact (cu 7 (by omega) (by omega)).1
  have mla_ : ∀ q, q < P → mla q = 0 ∨ mla q = 1 ∨ mla q = 2 ∨ mla q = 3 ∨ mla q = 4 := fun q hq => by rw [← cl1 q hq]; exact cla q hq
  refine am_Rn.go (t := am_t171) rfl 1 rfl ⟨trivial, trivial⟩ ?_
  show am_Rn sc 171 (582, _, [.ref 0], _) _
  refine am_Rn.call (t := am_t171) rfl rfl (sx_truest (hP := cP) ..) ?_
  rintro _ _ ⟨rfl, rfl⟩
  refine am_Rn.go (t := am_t171) rfl 1 rfl ⟨trivial, trivial⟩ ?_
  show am_Rn sc 171 (584, _, [.ref 416, _], _) _
  refine am_Rn.call (t := am_t171) rfl rfl (mm_truest (hP := cP) ..) ?_
  rintro _ _ ⟨rfl, rfl⟩
  refine am_Rn.go (t := am_t171) rfl 1 rfl ⟨trivial, trivial⟩ ?_
  refine am_Rn.brT (by rw [sp_tr_c b6 b7 P (Nat.le_refl P)]) ?_
  exact hk _ (am_Inv_mk (P := P) (n := n) (rn := rn) (C := C) (N := N) (S := S) cP cn cC cr cN c0 cS c9 cu cm cl1 cl2 cl3 cl4 cla ct ⟨rfl, rfl, rfl, rfl, rfl, rfl, b1, b2, b3, b4, b5, b6, b7⟩ ci1 ci2 ccl cnr cho)
set_option maxRecDepth 8000 in
set_option maxHeartbeats 400000 in
theorem am_op26 (sc : am_Sc) (i : Nat) (hi : i + 4 ≤ sc.1) (hL : sc.1 ≤ 2048) (K : Option Value → am_M → Prop) (M : am_M) (hI : am_Inv M) (hk : ∀ M, am_Inv M → am_Rn sc 171 (674, [some (.ref 1030), some (.ref 0), some (.ref 416), some (.int (Int32.ofNat i))], [], M) K) : am_Rn sc 171 (588, [some (.ref 1030), some (.ref 0), some (.ref 416), some (.int (Int32.ofNat i))], [], M) K := by
  refine hI _ ?_
  intro tr nu la me tc ts P tx n it fa nx pl ki va tw nu3 la3 me3 tc3 ts3 pe3 rn pr pv sa pd lo bo co sh se si er of_ bi bt so nu5 la5 me5 tc5 ts5 pe5 R6 k7 R8 k9 R10 nr ho ou rc fr cl C bw br le mnx mtk mpl mva mfa mdp mtx mnu mdn mla mme mtc mts m3a m3b m3c m3d mpr mpv msa mpd mlo mbo mco msh mse msi mer mof msp mke mik mbi mbt mso mou N S hM cP cn cC cr cN c0 cS c9 cu cm cl1 cl2 cl3 cl4 cla ct cR ci1 ci2 ccl cnr cho
  subst hM
  obtain ⟨-, rfl, rfl, rfl, rfl, rfl, b1, b2, b3, b4, b5, b6, b7⟩ := cR
  have m0 : mnu 0 = Int32.ofNat N := (cm 0 (by omega)).symm.trans c0
  have m9 : mnu 9 = Int32.ofNat S := (cm 9 (by omega)).symm.trans c9
  have m7 : 0 ≤ mnu 7 := by rw [← cm 7 (by omega)]; exact (cu 7 (by omega) (by omega)).1
  have mla_ : ∀ q, q < P → mla q = 0 ∨ mla q = 1 ∨ mla q = 2 ∨ mla q = 3 ∨ mla q = 4 := fun q hq => by rw [← cl1 q hq]; exact cla q hq
  obtain ⟨w1, hw1⟩ : ∃ w, sc.2 (Int32.ofNat i + 1).toNatClampNeg = w := ⟨_, rfl⟩
  obtain ⟨w2, hw2⟩ : ∃ w, sc.2 (Int32.ofNat i + 2).toNatClampNeg = w := ⟨_, rfl⟩
  rcases Classical.em ((0 ≤ w1 ∧ w1 ≤ 6) ∧ (0 ≤ w2 ∧ w2 ≤ Int32.ofNat P - 1)) with h | h
  · skip
    obtain ⟨k1, hk1, rfl⟩ := am_rng (k := 6) (by omega) h.1
    obtain ⟨q, hq, rfl⟩ := am_pers cP h.2
    rcases (show k1 = 0 ∨ k1 = 1 ∨ k1 = 2 ∨ k1 = 3 ∨ k1 = 4 ∨ k1 = 5 ∨ k1 = 6 by omega) with rfl | rfl | rfl | rfl | rfl | rfl | rfl
    · skip
      refine am_Rn.go (t := am_t171) rfl 11 rfl ⟨trivial, trivial, trivial, trivial, trivial, (by exact am_inbS1 (by omega) hL), trivial, trivial, trivial, trivial, (by exact am_inbS2 (by omega) hL), trivial⟩ ?_
      show am_Rn sc 171 (599, _, [.int (sc.2 (Int32.ofNat i + 2).toNatClampNeg), .int (sc.2 (Int32.ofNat i + 1).toNatClampNeg), .ref 0], _) _
      rw [hw1, hw2]
      refine am_Rn.call (t := am_t171) rfl rfl (sx_mark0 (hP := cP) (q := q) (hq := hq) ..) ?_
      rintro _ _ ⟨rfl, rfl⟩
      refine am_Rn.go (t := am_t171) rfl 11 rfl ⟨trivial, trivial, trivial, trivial, trivial, (by exact am_inbS1 (by omega) hL), trivial, trivial, trivial, trivial, (by exact am_inbS2 (by omega) hL), trivial⟩ ?_
      show am_Rn sc 171 (611, _, [.int (sc.2 (Int32.ofNat i + 2).toNatClampNeg), .int (sc.2 (Int32.ofNat i + 1).toNatClampNeg), .ref 416, _], _) _
      rw [hw1, hw2]
      refine am_Rn.call (t := am_t171) rfl rfl (mm_mark0 (hP := cP) (q := q) (hq := hq) ..) ?_
      rintro _ _ ⟨rfl, rfl⟩
      refine am_Rn.go (t := am_t171) rfl 1 rfl ⟨trivial, trivial⟩ ?_
      refine am_Rn.brT (sp_mark_c cm b2 b3 b4 hq _ _ 0) ?_
      exact hk _ (am_Inv_mk (P := P) (n := n) (rn := rn) (C := C) (N := N) (S := S) cP cn cC cr cN c0 cS c9 cu cm cl1 cl2 cl3 cl4 cla ct ⟨rfl, rfl, rfl, rfl, rfl, rfl, b1, b2, b3, b4, b5, b6, b7⟩ ci1 ci2 ccl cnr cho)
    · skip
      refine am_Rn.go (t := am_t171) rfl 11 rfl ⟨trivial, trivial, trivial, trivial, trivial, (by exact am_inbS1 (by omega) hL), trivial, trivial, trivial, trivial, (by exact am_inbS2 (by omega) hL), trivial⟩ ?_
      show am_Rn sc 171 (599, _, [.int (sc.2 (Int32.ofNat i + 2).toNatClampNeg), .int (sc.2 (Int32.ofNat i + 1).toNatClampNeg), .ref 0], _) _
      rw [hw1, hw2]
      refine am_Rn.call (t := am_t171) rfl rfl (sx_mark1 (hP := cP) (q := q) (hq := hq) ..) ?_
      rintro _ _ ⟨rfl, rfl⟩
      refine am_Rn.go (t := am_t171) rfl 11 rfl ⟨trivial, trivial, trivial, trivial, trivial, (by exact am_inbS1 (by omega) hL), trivial, trivial, trivial, trivial, (by exact am_inbS2 (by omega) hL), trivial⟩ ?_
      show am_Rn sc 171 (611, _, [.int (sc.2 (Int32.ofNat i + 2).toNatClampNeg), .int (sc.2 (Int32.ofNat i + 1).toNatClampNeg), .ref 416, _], _) _
      rw [hw1, hw2]
      refine am_Rn.call (t := am_t171) rfl rfl (mm_mark1 (hP := cP) (q := q) (hq := hq) ..) ?_
      rintro _ _ ⟨rfl, rfl⟩
      refine am_Rn.go (t := am_t171) rfl 1 rfl ⟨trivial, trivial⟩ ?_
      refine am_Rn.brT (sp_mark_c cm b2 b3 b4 hq _ _ 1) ?_
      exact hk _ (am_Inv_mk (P := P) (n := n) (rn := rn) (C := C) (N := N) (S := S) cP cn cC cr cN c0 cS c9 cu cm cl1 cl2 cl3 cl4 cla ct ⟨rfl, rfl, rfl, rfl, rfl, rfl, b1, b2, b3, b4, b5, b6, b7⟩ ci1 ci2 ccl cnr cho)
    · skip
      refine am_Rn.go (t := am_t171) rfl 11 rfl ⟨trivial, trivial, trivial, trivial, trivial, (by exact am_inbS1 (by omega) hL), trivial, trivial, trivial, trivial, (by exact am_inbS2 (by omega) hL), trivial⟩ ?_
      show am_Rn sc 171 (599, _, [.int (sc.2 (Int32.ofNat i + 2).toNatClampNeg), .int (sc.2 (Int32.ofNat i + 1).toNatClampNeg), .ref 0], _) _
      rw [hw1, hw2]
      refine am_Rn.call (t := am_t171) rfl rfl (sx_mark2 (hP := cP) (q := q) (hq := hq) ..) ?_
      rintro _ _ ⟨rfl, rfl⟩
      refine am_Rn.go (t := am_t171) rfl 11 rfl ⟨trivial, trivial, trivial, trivial, trivial, (by exact am_inbS1 (by omega) hL), trivial, trivial, trivial, trivial, (by exact am_inbS2 (by omega) hL), trivial⟩ ?_
      show am_Rn sc 171 (611, _, [.int (sc.2 (Int32.ofNat i + 2).toNatClampNeg), .int (sc.2 (Int32.ofNat i + 1).toNatClampNeg), .ref 416, _], _) _
      rw [hw1, hw2]
      refine am_Rn.call (t := am_t171) rfl rfl (mm_mark2 (hP := cP) (q := q) (hq := hq) ..) ?_
      rintro _ _ ⟨rfl, rfl⟩
      refine am_Rn.go (t := am_t171) rfl 1 rfl ⟨trivial, trivial⟩ ?_
      refine am_Rn.brT (sp_mark_c cm b2 b3 b4 hq _ _ 2) ?_
      exact hk _ (am_Inv_mk (P := P) (n := n) (rn := rn) (C := C) (N := N) (S := S) cP cn cC cr cN c0 cS c9 cu cm cl1 cl2 cl3 cl4 cla ct ⟨rfl, rfl, rfl, rfl, rfl, rfl, b1, b2, b3, b4, b5, b6, b7⟩ ci1 ci2 ccl cnr cho)
    · skip
      refine am_Rn.go (t := am_t171) rfl 11 rfl ⟨trivial, trivial, trivial, trivial, trivial, (by exact am_inbS1 (by omega) hL), trivial, trivial, trivial, trivial, (by exact am_inbS2 (by omega) hL), trivial⟩ ?_
      show am_Rn sc 171 (599, _, [.int (sc.2 (Int32.ofNat i + 2).toNatClampNeg), .int (sc.2 (Int32.ofNat i + 1).toNatClampNeg), .ref 0], _) _
      rw [hw1, hw2]
      refine am_Rn.call (t := am_t171) rfl rfl (sx_mark3 (hP := cP) (q := q) (hq := hq) ..) ?_
      rintro _ _ ⟨rfl, rfl⟩
      refine am_Rn.go (t := am_t171) rfl 11 rfl ⟨trivial, trivial, trivial, trivial, trivial, (by exact am_inbS1 (by omega) hL), trivial, trivial, trivial, trivial, (by exact am_inbS2 (by omega) hL), trivial⟩ ?_
      show am_Rn sc 171 (611, _, [.int (sc.2 (Int32.ofNat i + 2).toNatClampNeg), .int (sc.2 (Int32.ofNat i + 1).toNatClampNeg), .ref 416, _], _) _
      rw [hw1, hw2]
      refine am_Rn.call (t := am_t171) rfl rfl (mm_mark3 (hP := cP) (q := q) (hq := hq) ..) ?_
      rintro _ _ ⟨rfl, rfl⟩
      refine am_Rn.go (t := am_t171) rfl 1 rfl ⟨trivial, trivial⟩ ?_
      refine am_Rn.brT (sp_mark_c cm b2 b3 b4 hq _ _ 3) ?_
      exact hk _ (am_Inv_mk (P := P) (n := n) (rn := rn) (C := C) (N := N) (S := S) cP cn cC cr cN c0 cS c9 cu cm cl1 cl2 cl3 cl4 cla ct ⟨rfl, rfl, rfl, rfl, rfl, rfl, b1, b2, b3, b4, b5, b6, b7⟩ ci1 ci2 ccl cnr cho)
    · skip
      refine am_Rn.go (t := am_t171) rfl 11 rfl ⟨trivial, trivial, trivial, trivial, trivial, (by exact am_inbS1 (by omega) hL), trivial, trivial, trivial, trivial, (by exact am_inbS2 (by omega) hL), trivial⟩ ?_
      show am_Rn sc 171 (599, _, [.int (sc.2 (Int32.ofNat i + 2).toNatClampNeg), .int (sc.2 (Int32.ofNat i + 1).toNatClampNeg), .ref 0], _) _
      rw [hw1, hw2]
      refine am_Rn.call (t := am_t171) rfl rfl (sx_mark4 (hP := cP) (q := q) (hq := hq) ..) ?_
      rintro _ _ ⟨rfl, rfl⟩
      refine am_Rn.go (t := am_t171) rfl 11 rfl ⟨trivial, trivial, trivial, trivial, trivial, (by exact am_inbS1 (by omega) hL), trivial, trivial, trivial, trivial, (by exact am_inbS2 (by omega) hL), trivial⟩ ?_
      show am_Rn sc 171 (611, _, [.int (sc.2 (Int32.ofNat i + 2).toNatClampNeg), .int (sc.2 (Int32.ofNat i + 1).toNatClampNeg), .ref 416, _], _) _
      rw [hw1, hw2]
      refine am_Rn.call (t := am_t171) rfl rfl (mm_mark4 (hP := cP) (q := q) (hq := hq) ..) ?_
      rintro _ _ ⟨rfl, rfl⟩
      refine am_Rn.go (t := am_t171) rfl 1 rfl ⟨trivial, trivial⟩ ?_
      refine am_Rn.brT (sp_mark_c cm b2 b3 b4 hq _ _ 4) ?_
      exact hk _ (am_Inv_mk (P := P) (n := n) (rn := rn) (C := C) (N := N) (S := S) cP cn cC cr cN c0 cS c9 cu cm cl1 cl2 cl3 cl4 cla ct ⟨rfl, rfl, rfl, rfl, rfl, rfl, b1, b2, b3, b4, b5, b6, b7⟩ ci1 ci2 ccl cnr cho)
    · skip
      refine am_Rn.go (t := am_t171) rfl 11 rfl ⟨trivial, trivial, trivial, trivial, trivial, (by exact am_inbS1 (by omega) hL), trivial, trivial, trivial, trivial, (by exact am_inbS2 (by omega) hL), trivial⟩ ?_
      show am_Rn sc 171 (599, _, [.int (sc.2 (Int32.ofNat i + 2).toNatClampNeg), .int (sc.2 (Int32.ofNat i + 1).toNatClampNeg), .ref 0], _) _
      rw [hw1, hw2]
      refine am_Rn.call (t := am_t171) rfl rfl (sx_mark5 (hP := cP) (q := q) (hq := hq) ..) ?_
      rintro _ _ ⟨rfl, rfl⟩
      refine am_Rn.go (t := am_t171) rfl 11 rfl ⟨trivial, trivial, trivial, trivial, trivial, (by exact am_inbS1 (by omega) hL), trivial, trivial, trivial, trivial, (by exact am_inbS2 (by omega) hL), trivial⟩ ?_
      show am_Rn sc 171 (611, _, [.int (sc.2 (Int32.ofNat i + 2).toNatClampNeg), .int (sc.2 (Int32.ofNat i + 1).toNatClampNeg), .ref 416, _], _) _
      rw [hw1, hw2]
      refine am_Rn.call (t := am_t171) rfl rfl (mm_mark5 (hP := cP) (q := q) (hq := hq) ..) ?_
      rintro _ _ ⟨rfl, rfl⟩
      refine am_Rn.go (t := am_t171) rfl 1 rfl ⟨trivial, trivial⟩ ?_
      refine am_Rn.brT (sp_mark_c cm b2 b3 b4 hq _ _ 5) ?_
      exact hk _ (am_Inv_mk (P := P) (n := n) (rn := rn) (C := C) (N := N) (S := S) cP cn cC cr cN c0 cS c9 cu cm cl1 cl2 cl3 cl4 cla ct ⟨rfl, rfl, rfl, rfl, rfl, rfl, b1, b2, b3, b4, b5, b6, b7⟩ ci1 ci2 ccl cnr cho)
    · skip
      refine am_Rn.go (t := am_t171) rfl 11 rfl ⟨trivial, trivial, trivial, trivial, trivial, (by exact am_inbS1 (by omega) hL), trivial, trivial, trivial, trivial, (by exact am_inbS2 (by omega) hL), trivial⟩ ?_
      show am_Rn sc 171 (599, _, [.int (sc.2 (Int32.ofNat i + 2).toNatClampNeg), .int (sc.2 (Int32.ofNat i + 1).toNatClampNeg), .ref 0], _) _
      rw [hw1, hw2]
      refine am_Rn.call (t := am_t171) rfl rfl (sx_mark6 (hP := cP) (q := q) (hq := hq) ..) ?_
      rintro _ _ ⟨rfl, rfl⟩
      refine am_Rn.go (t := am_t171) rfl 11 rfl ⟨trivial, trivial, trivial, trivial, trivial, (by exact am_inbS1 (by omega) hL), trivial, trivial, trivial, trivial, (by exact am_inbS2 (by omega) hL), trivial⟩ ?_
      show am_Rn sc 171 (611, _, [.int (sc.2 (Int32.ofNat i + 2).toNatClampNeg), .int (sc.2 (Int32.ofNat i + 1).toNatClampNeg), .ref 416, _], _) _
      rw [hw1, hw2]
      refine am_Rn.call (t := am_t171) rfl rfl (mm_mark6 (hP := cP) (q := q) (hq := hq) ..) ?_
      rintro _ _ ⟨rfl, rfl⟩
      refine am_Rn.go (t := am_t171) rfl 1 rfl ⟨trivial, trivial⟩ ?_
      refine am_Rn.brT (sp_mark_c cm b2 b3 b4 hq _ _ 6) ?_
      exact hk _ (am_Inv_mk (P := P) (n := n) (rn := rn) (C := C) (N := N) (S := S) cP cn cC cr cN c0 cS c9 cu cm cl1 cl2 cl3 cl4 cla ct ⟨rfl, rfl, rfl, rfl, rfl, rfl, b1, b2, b3, b4, b5, b6, b7⟩ ci1 ci2 ccl cnr cho)
  · skip
    refine am_Rn.go (t := am_t171) rfl 11 rfl ⟨trivial, trivial, trivial, trivial, trivial, (by exact am_inbS1 (by omega) hL), trivial, trivial, trivial, trivial, (by exact am_inbS2 (by omega) hL), trivial⟩ ?_
    show am_Rn sc 171 (599, _, [.int (sc.2 (Int32.ofNat i + 2).toNatClampNeg), .int (sc.2 (Int32.ofNat i + 1).toNatClampNeg), .ref 0], _) _
    rw [hw1, hw2]
    refine am_Rn.call (t := am_t171) rfl rfl (sx_mark_F (hP := cP) (hw := h) ..) ?_
    rintro _ _ ⟨rfl, rfl⟩
    refine am_Rn.go (t := am_t171) rfl 11 rfl ⟨trivial, trivial, trivial, trivial, trivial, (by exact am_inbS1 (by omega) hL), trivial, trivial, trivial, trivial, (by exact am_inbS2 (by omega) hL), trivial⟩ ?_
    show am_Rn sc 171 (611, _, [.int (sc.2 (Int32.ofNat i + 2).toNatClampNeg), .int (sc.2 (Int32.ofNat i + 1).toNatClampNeg), .ref 416, _], _) _
    rw [hw1, hw2]
    refine am_Rn.call (t := am_t171) rfl rfl (mm_mark_F (hP := cP) (hw := h) ..) ?_
    rintro _ _ ⟨rfl, rfl⟩
    refine am_Rn.go (t := am_t171) rfl 1 rfl ⟨trivial, trivial⟩ ?_
    refine am_Rn.brT rfl ?_
    exact hk _ (am_Inv_mk (P := P) (n := n) (rn := rn) (C := C) (N := N) (S := S) cP cn cC cr cN c0 cS c9 cu cm cl1 cl2 cl3 cl4 cla ct ⟨rfl, rfl, rfl, rfl, rfl, rfl, b1, b2, b3, b4, b5, b6, b7⟩ ci1 ci2 ccl cnr cho)
set_option maxRecDepth 8000 in
set_option maxHeartbeats 400000 in
theorem am_op27 (sc : am_Sc) (i : Nat) (hi : i + 4 ≤ sc.1) (hL : sc.1 ≤ 2048) (K : Option Value → am_M → Prop) (M : am_M) (hI : am_Inv M) (hk : ∀ M, am_Inv M → am_Rn sc 171 (674, [some (.ref 1030), some (.ref 0), some (.ref 416), some (.int (Int32.ofNat i))], [], M) K) : am_Rn sc 171 (615, [some (.ref 1030), some (.ref 0), some (.ref 416), some (.int (Int32.ofNat i))], [], M) K := by
  refine hI _ ?_
  intro tr nu la me tc ts P tx n it fa nx pl ki va tw nu3 la3 me3 tc3 ts3 pe3 rn pr pv sa pd lo bo co sh se si er of_ bi bt so nu5 la5 me5 tc5 ts5 pe5 R6 k7 R8 k9 R10 nr ho ou rc fr cl C bw br le mnx mtk mpl mva mfa mdp mtx mnu mdn mla mme mtc mts m3a m3b m3c m3d mpr mpv msa mpd mlo mbo mco msh mse msi mer mof msp mke mik mbi mbt mso mou N S hM cP cn cC cr cN c0 cS c9 cu cm cl1 cl2 cl3 cl4 cla ct cR ci1 ci2 ccl cnr cho
  subst hM
  obtain ⟨-, rfl, rfl, rfl, rfl, rfl, b1, b2, b3, b4, b5, b6, b7⟩ := cR
  have m0 : mnu 0 = Int32.ofNat N := (cm 0 (by omega)).symm.trans c0
  have m9 : mnu 9 = Int32.ofNat S := (cm 9 (by omega)).symm.trans c9
  have m7 : 0 ≤ mnu 7 := by rw [← cm 7 (by omega)]; exact (cu 7 (by omega) (by omega)).1
  have mla_ : ∀ q, q < P → mla q = 0 ∨ mla q = 1 ∨ mla q = 2 ∨ mla q = 3 ∨ mla q = 4 := fun q hq => by rw [← cl1 q hq]; exact cla q hq
  obtain ⟨w1, hw1⟩ : ∃ w, sc.2 (Int32.ofNat i + 1).toNatClampNeg = w := ⟨_, rfl⟩
  rcases Classical.em (0 ≤ w1 ∧ w1 ≤ 1) with h | h
  · skip
    obtain ⟨m, hm, rfl⟩ := am_rng (k := 1) (by omega) h
    rcases (show m = 0 ∨ m = 1 by omega) with rfl | rfl
    · skip
      rcases R8 with ⟨rd8, pr8, pv8, sa8, pd8, lo8, bo8, co8, sh8, se8, si8, er8, of8, bi8, bt8, so8⟩
      refine am_Rn.go (t := am_t171) rfl 6 rfl ⟨trivial, trivial, trivial, trivial, trivial, (by exact am_inbS1 (by omega) hL), trivial⟩ ?_
      show am_Rn sc 171 (621, _, [.int (sc.2 (Int32.ofNat i + 1).toNatClampNeg), .ref 0], _) _
      rw [hw1]
      refine am_Rn.call (t := am_t171) rfl rfl (sx_keep0 ..) ?_
      rintro _ _ ⟨rfl, rfl⟩
      refine am_Rn.go (t := am_t171) rfl 6 rfl ⟨trivial, trivial, trivial, trivial, trivial, (by exact am_inbS1 (by omega) hL), trivial⟩ ?_
      show am_Rn sc 171 (628, _, [.int (sc.2 (Int32.ofNat i + 1).toNatClampNeg), .ref 416, _], _) _
      rw [hw1]
      refine am_Rn.call (t := am_t171) rfl rfl (mm_keep_T (m := 0) (hm := by omega) ..) ?_
      rintro _ _ ⟨rfl, rfl⟩
      refine am_Rn.go (t := am_t171) rfl 1 rfl ⟨trivial, trivial⟩ ?_
      refine am_Rn.brT rfl ?_
      exact hk _ (am_Inv_mk (P := P) (n := n) (rn := rn) (C := C) (N := N) (S := S) (R8 := (Int32.ofNat rn, pr, pv, sa, pd, lo, sp_cp 20 bo bo8, sp_cp 9 co co8, sp_cp 9 sh sh8, sp_cp 9 se se8, sp_cp 9 si si8, sp_cp 9 er er8, sp_cp 9 of_ of8, bi8, bt8, so8)) cP cn cC cr cN c0 cS c9 cu cm cl1 cl2 cl3 cl4 cla ct ⟨rfl, rfl, rfl, rfl, rfl, rfl, b1, b2, b3, b4, b5, b6, b7⟩ ⟨(mp_upd_eq mik 0 1).symm, Or.inr ⟨rn, (Int32.ofNat rn, pr, pv, sa, pd, lo, mbo, mco, msh, mse, msi, mer, mof, mbi, mbt, mso), cr, rfl, ⟨rfl, rfl, rfl, rfl, rfl, rfl, (sp_eqN.cp _ _ (by omega)).trans b1, (sp_eqN.cp _ _ cP).trans b2, (sp_eqN.cp _ _ cP).trans b3, (sp_eqN.cp _ _ cP).trans b4, (sp_eqN.cp _ _ cP).trans b5, (sp_eqN.cp _ _ cP).trans b6, (sp_eqN.cp _ _ cP).trans b7⟩, fun j hj => sp_ink_in hj⟩⟩ ⟨ci2.1.trans (mp_upd_ne mik 1 (by omega)).symm, ci2.2.imp id (fun ⟨r, R1, g1, g2, g3, g4⟩ => ⟨r, R1, g1, g2, g3, fun j hj => (sp_ink_out hj (by omega)).trans (g4 j hj)⟩)⟩ ccl cnr cho)
    · skip
      rcases R10 with ⟨rd10, pr10, pv10, sa10, pd10, lo10, bo10, co10, sh10, se10, si10, er10, of10, bi10, bt10, so10⟩
      refine am_Rn.go (t := am_t171) rfl 6 rfl ⟨trivial, trivial, trivial, trivial, trivial, (by exact am_inbS1 (by omega) hL), trivial⟩ ?_
      show am_Rn sc 171 (621, _, [.int (sc.2 (Int32.ofNat i + 1).toNatClampNeg), .ref 0], _) _
      rw [hw1]
      refine am_Rn.call (t := am_t171) rfl rfl (sx_keep1 ..) ?_
      rintro _ _ ⟨rfl, rfl⟩
      refine am_Rn.go (t := am_t171) rfl 6 rfl ⟨trivial, trivial, trivial, trivial, trivial, (by exact am_inbS1 (by omega) hL), trivial⟩ ?_
      show am_Rn sc 171 (628, _, [.int (sc.2 (Int32.ofNat i + 1).toNatClampNeg), .ref 416, _], _) _
      rw [hw1]
      refine am_Rn.call (t := am_t171) rfl rfl (mm_keep_T (m := 1) (hm := by omega) ..) ?_
      rintro _ _ ⟨rfl, rfl⟩
      refine am_Rn.go (t := am_t171) rfl 1 rfl ⟨trivial, trivial⟩ ?_
      refine am_Rn.brT rfl ?_
      exact hk _ (am_Inv_mk (P := P) (n := n) (rn := rn) (C := C) (N := N) (S := S) (R10 := (Int32.ofNat rn, pr, pv, sa, pd, lo, sp_cp 20 bo bo10, sp_cp 9 co co10, sp_cp 9 sh sh10, sp_cp 9 se se10, sp_cp 9 si si10, sp_cp 9 er er10, sp_cp 9 of_ of10, bi10, bt10, so10)) cP cn cC cr cN c0 cS c9 cu cm cl1 cl2 cl3 cl4 cla ct ⟨rfl, rfl, rfl, rfl, rfl, rfl, b1, b2, b3, b4, b5, b6, b7⟩ ⟨ci1.1.trans (mp_upd_ne mik 1 (by omega)).symm, ci1.2.imp id (fun ⟨r, R1, g1, g2, g3, g4⟩ => ⟨r, R1, g1, g2, g3, fun j hj => (sp_ink_out hj (by omega)).trans (g4 j hj)⟩)⟩ ⟨(mp_upd_eq mik 1 1).symm, Or.inr ⟨rn, (Int32.ofNat rn, pr, pv, sa, pd, lo, mbo, mco, msh, mse, msi, mer, mof, mbi, mbt, mso), cr, rfl, ⟨rfl, rfl, rfl, rfl, rfl, rfl, (sp_eqN.cp _ _ (by omega)).trans b1, (sp_eqN.cp _ _ cP).trans b2, (sp_eqN.cp _ _ cP).trans b3, (sp_eqN.cp _ _ cP).trans b4, (sp_eqN.cp _ _ cP).trans b5, (sp_eqN.cp _ _ cP).trans b6, (sp_eqN.cp _ _ cP).trans b7⟩, fun j hj => sp_ink_in hj⟩⟩ ccl cnr cho)
  · skip
    refine am_Rn.go (t := am_t171) rfl 6 rfl ⟨trivial, trivial, trivial, trivial, trivial, (by exact am_inbS1 (by omega) hL), trivial⟩ ?_
    show am_Rn sc 171 (621, _, [.int (sc.2 (Int32.ofNat i + 1).toNatClampNeg), .ref 0], _) _
    rw [hw1]
    refine am_Rn.call (t := am_t171) rfl rfl (sx_keep_F (hv := h) ..) ?_
    rintro _ _ ⟨rfl, rfl⟩
    refine am_Rn.go (t := am_t171) rfl 6 rfl ⟨trivial, trivial, trivial, trivial, trivial, (by exact am_inbS1 (by omega) hL), trivial⟩ ?_
    show am_Rn sc 171 (628, _, [.int (sc.2 (Int32.ofNat i + 1).toNatClampNeg), .ref 416, _], _) _
    rw [hw1]
    refine am_Rn.call (t := am_t171) rfl rfl (mm_keep_F (hv := h) ..) ?_
    rintro _ _ ⟨rfl, rfl⟩
    refine am_Rn.go (t := am_t171) rfl 1 rfl ⟨trivial, trivial⟩ ?_
    refine am_Rn.brT rfl ?_
    exact hk _ (am_Inv_mk (P := P) (n := n) (rn := rn) (C := C) (N := N) (S := S) cP cn cC cr cN c0 cS c9 cu cm cl1 cl2 cl3 cl4 cla ct ⟨rfl, rfl, rfl, rfl, rfl, rfl, b1, b2, b3, b4, b5, b6, b7⟩ ci1 ci2 ccl cnr cho)
set_option maxRecDepth 8000 in
set_option maxHeartbeats 400000 in
theorem am_op28 (sc : am_Sc) (i : Nat) (hi : i + 4 ≤ sc.1) (hL : sc.1 ≤ 2048) (K : Option Value → am_M → Prop) (M : am_M) (hI : am_Inv M) (hk : ∀ M, am_Inv M → am_Rn sc 171 (674, [some (.ref 1030), some (.ref 0), some (.ref 416), some (.int (Int32.ofNat i))], [], M) K) : am_Rn sc 171 (632, [some (.ref 1030), some (.ref 0), some (.ref 416), some (.int (Int32.ofNat i))], [], M) K := by
  refine hI _ ?_
  intro tr nu la me tc ts P tx n it fa nx pl ki va tw nu3 la3 me3 tc3 ts3 pe3 rn pr pv sa pd lo bo co sh se si er of_ bi bt so nu5 la5 me5 tc5 ts5 pe5 R6 k7 R8 k9 R10 nr ho ou rc fr cl C bw br le mnx mtk mpl mva mfa mdp mtx mnu mdn mla mme mtc mts m3a m3b m3c m3d mpr mpv msa mpd mlo mbo mco msh mse msi mer mof msp mke mik mbi mbt mso mou N S hM cP cn cC cr cN c0 cS c9 cu cm cl1 cl2 cl3 cl4 cla ct cR ci1 ci2 ccl cnr cho
  subst hM
  obtain ⟨-, rfl, rfl, rfl, rfl, rfl, b1, b2, b3, b4, b5, b6, b7⟩ := cR
  have m0 : mnu 0 = Int32.ofNat N := (cm 0 (by omega)).symm.trans c0
  have m9 : mnu 9 = Int32.ofNat S := (cm 9 (by omega)).symm.trans c9
  have m7 : 0 ≤ mnu 7 := by rw [← cm 7 (by omega)]; exact (cu 7 (by omega) (by omega)).1
  have mla_ : ∀ q, q < P → mla q = 0 ∨ mla q = 1 ∨ mla q = 2 ∨ mla q = 3 ∨ mla q = 4 := fun q hq => by rw [← cl1 q hq]; exact cla q hq
  obtain ⟨w1, hw1⟩ : ∃ w, sc.2 (Int32.ofNat i + 1).toNatClampNeg = w := ⟨_, rfl⟩
  rcases Classical.em (0 ≤ w1 ∧ w1 ≤ 1) with h | h
  · skip
    obtain ⟨m, hm, rfl⟩ := am_rng (k := 1) (by omega) h
    rcases (show m = 0 ∨ m = 1 by omega) with rfl | rfl
    · skip
      rcases Classical.em (mik 0 = 0) with hz | hz
      · skip
        refine am_Rn.go (t := am_t171) rfl 6 rfl ⟨trivial, trivial, trivial, trivial, trivial, (by exact am_inbS1 (by omega) hL), trivial⟩ ?_
        show am_Rn sc 171 (638, _, [.int (sc.2 (Int32.ofNat i + 1).toNatClampNeg), .ref 0], _) _
        rw [hw1]
        refine am_Rn.call (t := am_t171) rfl rfl (sx_back0_S (hk := ci1.1.trans hz) ..) ?_
        rintro _ _ ⟨rfl, rfl⟩
        refine am_Rn.go (t := am_t171) rfl 6 rfl ⟨trivial, trivial, trivial, trivial, trivial, (by exact am_inbS1 (by omega) hL), trivial⟩ ?_
        show am_Rn sc 171 (645, _, [.int (sc.2 (Int32.ofNat i + 1).toNatClampNeg), .ref 416, _], _) _
        rw [hw1]
        refine am_Rn.call (t := am_t171) rfl rfl (mm_back_S (m := 0) (hm := by omega) (hk := hz) ..) ?_
        rintro _ _ ⟨rfl, rfl⟩
        refine am_Rn.go (t := am_t171) rfl 1 rfl ⟨trivial, trivial⟩ ?_
        refine am_Rn.brT rfl ?_
        exact hk _ (am_Inv_mk (P := P) (n := n) (rn := rn) (C := C) (N := N) (S := S) cP cn cC cr cN c0 cS c9 cu cm cl1 cl2 cl3 cl4 cla ct ⟨rfl, rfl, rfl, rfl, rfl, rfl, b1, b2, b3, b4, b5, b6, b7⟩ ci1 ci2 ccl cnr cho)
      · skip
        obtain ⟨r, R1, g1, g2, g3, g4⟩ := ci1.2.resolve_left (fun z => hz (ci1.1.symm.trans z))
        rcases R8 with ⟨rd8, pr8, pv8, sa8, pd8, lo8, bo8, co8, sh8, se8, si8, er8, of8, bi8, bt8, so8⟩
        rcases R1 with ⟨rd2, pr2, pv2, sa2, pd2, lo2, bo2, co2, sh2, se2, si2, er2, of2, bi2, bt2, so2⟩
        obtain ⟨j1, j2, j3, j4, j5, j6, j7, j8, j9, j10, j11, j12, j13⟩ := g3
        dsimp only at g2
        subst g2
        subst j1 j2 j3 j4 j5 j6
        have hcov : sp_cov 80 (fun k => mke (80 * 0 + k)) (mp_s (Int32.ofNat rn) pr pv sa pd lo mbo mco msh mse msi mer mof) = mp_s (Int32.ofNat r) pr8 pv8 sa8 pd8 lo8 bo2 co2 sh2 se2 si2 er2 of2 := by
          funext j
          by_cases hj : j < 80
          · exact (if_pos hj).trans (g4 j hj)
          · exact (if_neg hj).trans ((mp_s80 _ _ _ _ _ _ _ _ _ _ _ _ _ hj).trans (mp_s80 _ _ _ _ _ _ _ _ _ _ _ _ _ hj).symm)
        refine am_Rn.go (t := am_t171) rfl 6 rfl ⟨trivial, trivial, trivial, trivial, trivial, (by exact am_inbS1 (by omega) hL), trivial⟩ ?_
        show am_Rn sc 171 (638, _, [.int (sc.2 (Int32.ofNat i + 1).toNatClampNeg), .ref 0], _) _
        rw [hw1]
        refine am_Rn.call (t := am_t171) rfl rfl (sx_back0_T (hk := fun z => hz (ci1.1.symm.trans z)) ..) ?_
        rintro _ _ ⟨rfl, rfl⟩
        refine am_Rn.go (t := am_t171) rfl 6 rfl ⟨trivial, trivial, trivial, trivial, trivial, (by exact am_inbS1 (by omega) hL), trivial⟩ ?_
        show am_Rn sc 171 (645, _, [.int (sc.2 (Int32.ofNat i + 1).toNatClampNeg), .ref 416, _], _) _
        rw [hw1]
        refine am_Rn.call (t := am_t171) rfl rfl (mm_back_T (m := 0) (hm := by omega) (hk := hz) ..) ?_
        rintro _ _ ⟨rfl, rfl⟩
        rw [hcov]
        refine am_Rn.go (t := am_t171) rfl 1 rfl ⟨trivial, trivial⟩ ?_
        refine am_Rn.brT (g4 0 (by omega)).symm ?_
        exact hk _ (am_Inv_mk (P := P) (n := n) (rn := r) (C := C) (N := N) (S := S) (R8 := (Int32.ofNat r, pr8, pv8, sa8, pd8, lo8, bo8, co8, sh8, se8, si8, er8, of8, bi8, bt8, so8)) cP cn cC g1 cN c0 cS c9 cu cm cl1 cl2 cl3 cl4 cla ct ⟨rfl, rfl, rfl, rfl, rfl, rfl, (sp_eqN.cp _ _ (by omega)).trans j7, (sp_eqN.cp _ _ cP).trans j8, (sp_eqN.cp _ _ cP).trans j9, (sp_eqN.cp _ _ cP).trans j10, (sp_eqN.cp _ _ cP).trans j11, (sp_eqN.cp _ _ cP).trans j12, (sp_eqN.cp _ _ cP).trans j13⟩ ⟨ci1.1, Or.inr ⟨r, (Int32.ofNat r, pr8, pv8, sa8, pd8, lo8, bo2, co2, sh2, se2, si2, er2, of2, bi2, bt2, so2), g1, rfl, ⟨rfl, rfl, rfl, rfl, rfl, rfl, j7, j8, j9, j10, j11, j12, j13⟩, g4⟩⟩ ci2 ccl cnr cho)
    · skip
      rcases Classical.em (mik 1 = 0) with hz | hz
      · skip
        refine am_Rn.go (t := am_t171) rfl 6 rfl ⟨trivial, trivial, trivial, trivial, trivial, (by exact am_inbS1 (by omega) hL), trivial⟩ ?_
        show am_Rn sc 171 (638, _, [.int (sc.2 (Int32.ofNat i + 1).toNatClampNeg), .ref 0], _) _
        rw [hw1]
        refine am_Rn.call (t := am_t171) rfl rfl (sx_back1_S (hk := ci2.1.trans hz) ..) ?_
        rintro _ _ ⟨rfl, rfl⟩
        refine am_Rn.go (t := am_t171) rfl 6 rfl ⟨trivial, trivial, trivial, trivial, trivial, (by exact am_inbS1 (by omega) hL), trivial⟩ ?_
        show am_Rn sc 171 (645, _, [.int (sc.2 (Int32.ofNat i + 1).toNatClampNeg), .ref 416, _], _) _
        rw [hw1]
        refine am_Rn.call (t := am_t171) rfl rfl (mm_back_S (m := 1) (hm := by omega) (hk := hz) ..) ?_
        rintro _ _ ⟨rfl, rfl⟩
        refine am_Rn.go (t := am_t171) rfl 1 rfl ⟨trivial, trivial⟩ ?_
        refine am_Rn.brT rfl ?_
        exact hk _ (am_Inv_mk (P := P) (n := n) (rn := rn) (C := C) (N := N) (S := S) cP cn cC cr cN c0 cS c9 cu cm cl1 cl2 cl3 cl4 cla ct ⟨rfl, rfl, rfl, rfl, rfl, rfl, b1, b2, b3, b4, b5, b6, b7⟩ ci1 ci2 ccl cnr cho)
      · skip
        obtain ⟨r, R1, g1, g2, g3, g4⟩ := ci2.2.resolve_left (fun z => hz (ci2.1.symm.trans z))
        rcases R10 with ⟨rd10, pr10, pv10, sa10, pd10, lo10, bo10, co10, sh10, se10, si10, er10, of10, bi10, bt10, so10⟩
        rcases R1 with ⟨rd2, pr2, pv2, sa2, pd2, lo2, bo2, co2, sh2, se2, si2, er2, of2, bi2, bt2, so2⟩
        obtain ⟨j1, j2, j3, j4, j5, j6, j7, j8, j9, j10, j11, j12, j13⟩ := g3
        dsimp only at g2
        subst g2
        subst j1 j2 j3 j4 j5 j6
        have hcov : sp_cov 80 (fun k => mke (80 * 1 + k)) (mp_s (Int32.ofNat rn) pr pv sa pd lo mbo mco msh mse msi mer mof) = mp_s (Int32.ofNat r) pr10 pv10 sa10 pd10 lo10 bo2 co2 sh2 se2 si2 er2 of2 := by
          funext j
          by_cases hj : j < 80
          · exact (if_pos hj).trans (g4 j hj)
          · exact (if_neg hj).trans ((mp_s80 _ _ _ _ _ _ _ _ _ _ _ _ _ hj).trans (mp_s80 _ _ _ _ _ _ _ _ _ _ _ _ _ hj).symm)
        refine am_Rn.go (t := am_t171) rfl 6 rfl ⟨trivial, trivial, trivial, trivial, trivial, (by exact am_inbS1 (by omega) hL), trivial⟩ ?_
        show am_Rn sc 171 (638, _, [.int (sc.2 (Int32.ofNat i + 1).toNatClampNeg), .ref 0], _) _
        rw [hw1]
        refine am_Rn.call (t := am_t171) rfl rfl (sx_back1_T (hk := fun z => hz (ci2.1.symm.trans z)) ..) ?_
        rintro _ _ ⟨rfl, rfl⟩
        refine am_Rn.go (t := am_t171) rfl 6 rfl ⟨trivial, trivial, trivial, trivial, trivial, (by exact am_inbS1 (by omega) hL), trivial⟩ ?_
        show am_Rn sc 171 (645, _, [.int (sc.2 (Int32.ofNat i + 1).toNatClampNeg), .ref 416, _], _) _
        rw [hw1]
        refine am_Rn.call (t := am_t171) rfl rfl (mm_back_T (m := 1) (hm := by omega) (hk := hz) ..) ?_
        rintro _ _ ⟨rfl, rfl⟩
        rw [hcov]
        refine am_Rn.go (t := am_t171) rfl 1 rfl ⟨trivial, trivial⟩ ?_
        refine am_Rn.brT (g4 0 (by omega)).symm ?_
        exact hk _ (am_Inv_mk (P := P) (n := n) (rn := r) (C := C) (N := N) (S := S) (R10 := (Int32.ofNat r, pr10, pv10, sa10, pd10, lo10, bo10, co10, sh10, se10, si10, er10, of10, bi10, bt10, so10)) cP cn cC g1 cN c0 cS c9 cu cm cl1 cl2 cl3 cl4 cla ct ⟨rfl, rfl, rfl, rfl, rfl, rfl, (sp_eqN.cp _ _ (by omega)).trans j7, (sp_eqN.cp _ _ cP).trans j8, (sp_eqN.cp _ _ cP).trans j9, (sp_eqN.cp _ _ cP).trans j10, (sp_eqN.cp _ _ cP).trans j11, (sp_eqN.cp _ _ cP).trans j12, (sp_eqN.cp _ _ cP).trans j13⟩ ci1 ⟨ci2.1, Or.inr ⟨r, (Int32.ofNat r, pr10, pv10, sa10, pd10, lo10, bo2, co2, sh2, se2, si2, er2, of2, bi2, bt2, so2), g1, rfl, ⟨rfl, rfl, rfl, rfl, rfl, rfl, j7, j8, j9, j10, j11, j12, j13⟩, g4⟩⟩ ccl cnr cho)
  · skip
    refine am_Rn.go (t := am_t171) rfl 6 rfl ⟨trivial, trivial, trivial, trivial, trivial, (by exact am_inbS1 (by omega) hL), trivial⟩ ?_
    show am_Rn sc 171 (638, _, [.int (sc.2 (Int32.ofNat i + 1).toNatClampNeg), .ref 0], _) _
    rw [hw1]
    refine am_Rn.call (t := am_t171) rfl rfl (sx_back_F (hv := h) ..) ?_
    rintro _ _ ⟨rfl, rfl⟩
    refine am_Rn.go (t := am_t171) rfl 6 rfl ⟨trivial, trivial, trivial, trivial, trivial, (by exact am_inbS1 (by omega) hL), trivial⟩ ?_
    show am_Rn sc 171 (645, _, [.int (sc.2 (Int32.ofNat i + 1).toNatClampNeg), .ref 416, _], _) _
    rw [hw1]
    refine am_Rn.call (t := am_t171) rfl rfl (mm_back_F (hv := h) ..) ?_
    rintro _ _ ⟨rfl, rfl⟩
    refine am_Rn.go (t := am_t171) rfl 1 rfl ⟨trivial, trivial⟩ ?_
    refine am_Rn.brT rfl ?_
    exact hk _ (am_Inv_mk (P := P) (n := n) (rn := rn) (C := C) (N := N) (S := S) cP cn cC cr cN c0 cS c9 cu cm cl1 cl2 cl3 cl4 cla ct ⟨rfl, rfl, rfl, rfl, rfl, rfl, b1, b2, b3, b4, b5, b6, b7⟩ ci1 ci2 ccl cnr cho)
set_option maxRecDepth 8000 in
set_option maxHeartbeats 400000 in
theorem am_op29 (sc : am_Sc) (i : Nat) (hi : i + 4 ≤ sc.1) (hL : sc.1 ≤ 2048) (K : Option Value → am_M → Prop) (M : am_M) (hI : am_Inv M) (hk : ∀ M, am_Inv M → am_Rn sc 171 (674, [some (.ref 1030), some (.ref 0), some (.ref 416), some (.int (Int32.ofNat i))], [], M) K) : am_Rn sc 171 (649, [some (.ref 1030), some (.ref 0), some (.ref 416), some (.int (Int32.ofNat i))], [], M) K := by
  refine hI _ ?_
  intro tr nu la me tc ts P tx n it fa nx pl ki va tw nu3 la3 me3 tc3 ts3 pe3 rn pr pv sa pd lo bo co sh se si er of_ bi bt so nu5 la5 me5 tc5 ts5 pe5 R6 k7 R8 k9 R10 nr ho ou rc fr cl C bw br le mnx mtk mpl mva mfa mdp mtx mnu mdn mla mme mtc mts m3a m3b m3c m3d mpr mpv msa mpd mlo mbo mco msh mse msi mer mof msp mke mik mbi mbt mso mou N S hM cP cn cC cr cN c0 cS c9 cu cm cl1 cl2 cl3 cl4 cla ct cR ci1 ci2 ccl cnr cho
  subst hM
  obtain ⟨-, rfl, rfl, rfl, rfl, rfl, b1, b2, b3, b4, b5, b6, b7⟩ := cR
  have m0 : mnu 0 = Int32.ofNat N := (cm 0 (by omega)).symm.trans c0
  have m9 : mnu 9 = Int32.ofNat S := (cm 9 (by omega)).symm.trans c9
  have m7 : 0 ≤ mnu 7 := by rw [← cm 7 (by omega)]; exact (cu 7 (by omega) (by omega)).1
  have mla_ : ∀ q, q < P → mla q = 0 ∨ mla q = 1 ∨ mla q = 2 ∨ mla q = 3 ∨ mla q = 4 := fun q hq => by rw [← cl1 q hq]; exact cla q hq
  obtain ⟨w1, hw1⟩ : ∃ w, sc.2 (Int32.ofNat i + 1).toNatClampNeg = w := ⟨_, rfl⟩
  refine am_Rn.go (t := am_t171) rfl 6 rfl ⟨trivial, trivial, trivial, trivial, trivial, (by exact am_inbS1 (by omega) hL), trivial⟩ ?_
  show am_Rn sc 171 (655, _, [.int (sc.2 (Int32.ofNat i + 1).toNatClampNeg), .ref 0], _) _
  rw [hw1]
  refine am_Rn.call (t := am_t171) rfl rfl (sx_count (hP := cP) (hn := cn) (hC := cC) ..) ?_
  rintro _ _ ⟨rfl, rfl⟩
  refine am_Rn.go (t := am_t171) rfl 6 rfl ⟨trivial, trivial, trivial, trivial, trivial, (by exact am_inbS1 (by omega) hL), trivial⟩ ?_
  show am_Rn sc 171 (662, _, [.int (sc.2 (Int32.ofNat i + 1).toNatClampNeg), .ref 416, _], _) _
  rw [hw1]
  refine am_Rn.call (t := am_t171) rfl rfl (mm_count (hP := cP) ..) ?_
  rintro _ _ ⟨rfl, rfl⟩
  refine am_Rn.go (t := am_t171) rfl 1 rfl ⟨trivial, trivial⟩ ?_
  refine am_Rn.brT (by unfold an_count; rw [sp_add_c b2, sp_add_c b3]) ?_
  exact hk _ (am_Inv_mk (P := P) (n := n) (rn := rn) (C := C) (N := N) (S := S) cP cn cC cr cN c0 cS c9 cu cm cl1 cl2 cl3 cl4 cla ct ⟨rfl, rfl, rfl, rfl, rfl, rfl, b1, b2, b3, b4, b5, b6, b7⟩ ci1 ci2 ccl cnr cho)
set_option maxRecDepth 8000 in
set_option maxHeartbeats 400000 in
theorem am_op30 (sc : am_Sc) (i : Nat) (hi : i + 4 ≤ sc.1) (hL : sc.1 ≤ 2048) (K : Option Value → am_M → Prop) (M : am_M) (hI : am_Inv M) (hk : ∀ M, am_Inv M → am_Rn sc 171 (674, [some (.ref 1030), some (.ref 0), some (.ref 416), some (.int (Int32.ofNat i))], [], M) K) : am_Rn sc 171 (666, [some (.ref 1030), some (.ref 0), some (.ref 416), some (.int (Int32.ofNat i))], [], M) K := by
  refine hI _ ?_
  intro tr nu la me tc ts P tx n it fa nx pl ki va tw nu3 la3 me3 tc3 ts3 pe3 rn pr pv sa pd lo bo co sh se si er of_ bi bt so nu5 la5 me5 tc5 ts5 pe5 R6 k7 R8 k9 R10 nr ho ou rc fr cl C bw br le mnx mtk mpl mva mfa mdp mtx mnu mdn mla mme mtc mts m3a m3b m3c m3d mpr mpv msa mpd mlo mbo mco msh mse msi mer mof msp mke mik mbi mbt mso mou N S hM cP cn cC cr cN c0 cS c9 cu cm cl1 cl2 cl3 cl4 cla ct cR ci1 ci2 ccl cnr cho
  subst hM
  obtain ⟨-, rfl, rfl, rfl, rfl, rfl, b1, b2, b3, b4, b5, b6, b7⟩ := cR
  have m0 : mnu 0 = Int32.ofNat N := (cm 0 (by omega)).symm.trans c0
  have m9 : mnu 9 = Int32.ofNat S := (cm 9 (by omega)).symm.trans c9
  have m7 : 0 ≤ mnu 7 := by rw [← cm 7 (by omega)]; exact (cu 7 (by omega) (by omega)).1
  have mla_ : ∀ q, q < P → mla q = 0 ∨ mla q = 1 ∨ mla q = 2 ∨ mla q = 3 ∨ mla q = 4 := fun q hq => by rw [← cl1 q hq]; exact cla q hq
  refine am_Rn.go (t := am_t171) rfl 1 rfl ⟨trivial, trivial⟩ ?_
  show am_Rn sc 171 (667, _, [.ref 0], _) _
  refine am_Rn.call (t := am_t171) rfl rfl (sx_trace ..) ?_
  rintro _ _ ⟨rfl, rfl⟩
  refine am_Rn.go (t := am_t171) rfl 1 rfl ⟨trivial, trivial⟩ ?_
  show am_Rn sc 171 (669, _, [.ref 416, _], _) _
  refine am_Rn.call (t := am_t171) rfl rfl (mm_trace ..) ?_
  rintro _ _ ⟨rfl, rfl⟩
  refine am_Rn.go (t := am_t171) rfl 2 rfl ⟨trivial, trivial, trivial⟩ ?_
  refine am_Rn.brT ((lg_cmp_eq _ _).mpr rfl) ?_
  exact hk _ (am_Inv_mk (P := P) (n := n) (rn := rn) (C := C) (N := N) (S := S) cP cn cC cr cN c0 cS c9 cu cm cl1 cl2 cl3 cl4 cla ct ⟨rfl, rfl, rfl, rfl, rfl, rfl, b1, b2, b3, b4, b5, b6, b7⟩ ci1 ci2 ccl cnr cho)
