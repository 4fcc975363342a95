theorem am_lim {L i : Nat} (hL : L ≤ 2048) (hi : i ≤ 4096) : Int32.ofNat L - 4 < Int32.ofNat i ↔ L < i + 4 := by
  have e4 : (4 : Int32).toInt = 4 := rfl
  have eL := am_ofN L (by omega)
  have e : (Int32.ofNat L - 4).toInt = (L : Int) - 4 := by rw [ai_sub (by rw [eL, e4]; omega) (by rw [eL, e4]; omega), eL, e4]
  rw [Int32.lt_iff_toInt_lt, e, am_ofN i (by omega)]
  omega
theorem am_fin (M : am_M) (hI : am_Inv M) : am_tot M ≤ 88 ∧ am_sl M ≤ 1984 := by
  refine hI _ ?_
  intro tr nu la me tc ts P tx n it fa nx pl ki va tw nu3 la3 me3 tc3 ts3 pe3 rn pr pv sa pd lo bo co sh se si er of_ bi bt so nu5 la5 me5 tc5 ts5 pe5 R6 k7 R8 k9 R10 nr ho ou rc fr cl C bw br le mnx mtk mpl mva mfa mdp mtx mnu mdn mla mme mtc mts m3a m3b m3c m3d mpr mpv msa mpd mlo mbo mco msh mse msi mer mof msp mke mik mbi mbt mso mou N S hM cP cn cC cr cN c0 cS c9 cu cm cl1 cl2 cl3 cl4 cla ct cR ci1 ci2 ccl cnr cho
  subst hM
  rcases R6 with ⟨d1, d2, d3, d4, d5, d6, d7, d8, d9, d10, d11, d12, d13, d14, d15, d16⟩
  rcases R8 with ⟨f1, f2, f3, f4, f5, f6, f7, f8, f9, f10, f11, f12, f13, f14, f15, f16⟩
  rcases R10 with ⟨g1, g2, g3, g4, g5, g6, g7, g8, g9, g10, g11, g12, g13, g14, g15, g16⟩
  constructor
  · simp [am_tot, bkMain, bkImg, bkRules, bkReader, bkRoom, bkRoomT, bkRiders, bkClues, bkModel]
  · simp [am_sl, am_lsl, am_esl, bkMain, bkImg, bkRules, bkReader, bkRoom, bkRoomT, bkRiders, bkClues, bkModel]
set_option maxRecDepth 8000 in
set_option maxHeartbeats 2000000 in
theorem am_loop (sc : am_Sc) (hL : sc.1 ≤ 2048) : ∀ (d i : Nat) (M : am_M), am_Inv M → sc.1 < i + 4 * d → i ≤ 2052 → am_Rn sc 171 (10, [some (.ref 1030), some (.ref 0), some (.ref 416), some (.int (Int32.ofNat i))], [], M) (fun r M => r = some (.int 1) ∧ am_tot M ≤ 88 ∧ am_sl M ≤ 1984) := by
  intro d
  induction d with
  | zero =>
    intro i M hI hd hi
    have hlt := (am_lim (L := sc.1) (i := i) hL (by omega)).mpr (by omega)
    refine am_Rn.go (t := am_t171) rfl 6 rfl ⟨trivial, trivial, trivial, trivial, trivial, trivial, trivial⟩ ?_
    refine am_Rn.brT hlt ?_
    refine am_Rn.go (t := am_t171) rfl 1 rfl ⟨trivial, trivial⟩ ?_
    refine am_Rn.ret (t := am_t171) rfl rfl (by first | exact Or.inl rfl | exact Or.inr rfl | exact am_b01 _) ?_
    exact ⟨rfl, am_fin M hI⟩
  | succ d ih =>
    intro i M hI hd hi
    by_cases hi4 : i + 4 ≤ sc.1
    · have hk : ∀ M, am_Inv M → am_Rn sc 171 (674, [some (.ref 1030), some (.ref 0), some (.ref 416), some (.int (Int32.ofNat i))], [], M) (fun r M => r = some (.int 1) ∧ am_tot M ≤ 88 ∧ am_sl M ≤ 1984) := by
        intro M hI
        refine am_Rn.go (t := am_t171) rfl 2 rfl ⟨trivial, trivial, trivial⟩ ?_
        have g := ih (i + 4) M hI (by omega) (by omega)
        rw [show Int32.ofNat (i + 4) = Int32.ofNat i + 4 from (am_addN i 4).symm] at g
        exact g
      refine am_Rn.go (t := am_t171) rfl 6 rfl ⟨trivial, trivial, trivial, trivial, trivial, trivial, trivial⟩ ?_
      refine am_Rn.brF (fun q => absurd ((am_lim hL (by omega)).mp q) (by omega)) ?_
      refine am_Rn.go (t := am_t171) rfl 6 rfl ⟨trivial, trivial, (by exact am_inb_of (by omega) (by omega)), trivial, trivial, trivial, trivial⟩ ?_
      refine am_Rn.br (fun h2_0 => ?_) (fun h2_0 => ?_)
      · skip
        exact am_op0 sc i hi4 hL _ M hI hk
      refine am_Rn.br (fun h2_1 => ?_) (fun h2_1 => ?_)
      · skip
        exact am_op1 sc i hi4 hL _ M hI hk
      refine am_Rn.br (fun h2_2 => ?_) (fun h2_2 => ?_)
      · skip
        exact am_op2 sc i hi4 hL _ M hI hk
      refine am_Rn.br (fun h2_3 => ?_) (fun h2_3 => ?_)
      · skip
        exact am_op3 sc i hi4 hL _ M hI hk
      refine am_Rn.br (fun h2_4 => ?_) (fun h2_4 => ?_)
      · skip
        exact am_op4 sc i hi4 hL _ M hI hk
      refine am_Rn.br (fun h2_5 => ?_) (fun h2_5 => ?_)
      · skip
        exact am_op5 sc i hi4 hL _ M hI hk
      refine am_Rn.br (fun h2_6 => ?_) (fun h2_6 => ?_)
      · skip
        exact am_op6 sc i hi4 hL _ M hI hk
      refine am_Rn.br (fun h2_7 => ?_) (fun h2_7 => ?_)
      · skip
        exact am_op7 sc i hi4 hL _ M hI hk
      refine am_Rn.br (fun h2_8 => ?_) (fun h2_8 => ?_)
      · skip
        exact am_op8 sc i hi4 hL _ M hI hk
      refine am_Rn.br (fun h2_9 => ?_) (fun h2_9 => ?_)
      · skip
        exact am_op9 sc i hi4 hL _ M hI hk
      refine am_Rn.br (fun h2_10 => ?_) (fun h2_10 => ?_)
      · skip
        exact am_op10 sc i hi4 hL _ M hI hk
      refine am_Rn.br (fun h2_11 => ?_) (fun h2_11 => ?_)
      · skip
        exact am_op11 sc i hi4 hL _ M hI hk
      refine am_Rn.br (fun h2_12 => ?_) (fun h2_12 => ?_)
      · skip
        exact am_op12 sc i hi4 hL _ M hI hk
      refine am_Rn.br (fun h2_13 => ?_) (fun h2_13 => ?_)
      · skip
        exact am_op13 sc i hi4 hL _ M hI hk
      refine am_Rn.br (fun h2_14 => ?_) (fun h2_14 => ?_)
      · skip
        exact am_op14 sc i hi4 hL _ M hI hk
      refine am_Rn.br (fun h2_15 => ?_) (fun h2_15 => ?_)
      · skip
        exact am_op15 sc i hi4 hL _ M hI hk
      refine am_Rn.br (fun h2_16 => ?_) (fun h2_16 => ?_)
      · skip
        exact am_op16 sc i hi4 hL _ M hI hk
      refine am_Rn.br (fun h2_17 => ?_) (fun h2_17 => ?_)
      · skip
        exact am_op17 sc i hi4 hL _ M hI hk
      refine am_Rn.br (fun h2_18 => ?_) (fun h2_18 => ?_)
      · skip
        exact am_op18 sc i hi4 hL _ M hI hk
      refine am_Rn.br (fun h2_19 => ?_) (fun h2_19 => ?_)
      · skip
        exact am_op19 sc i hi4 hL _ M hI hk
      refine am_Rn.br (fun h2_20 => ?_) (fun h2_20 => ?_)
      · skip
        exact am_op20 sc i hi4 hL _ M hI hk
      refine am_Rn.br (fun h2_21 => ?_) (fun h2_21 => ?_)
      · skip
        exact am_op21 sc i hi4 hL _ M hI hk
      refine am_Rn.br (fun h2_22 => ?_) (fun h2_22 => ?_)
      · skip
        exact am_op22 sc i hi4 hL _ M hI hk
      refine am_Rn.br (fun h2_23 => ?_) (fun h2_23 => ?_)
      · skip
        exact am_op23 sc i hi4 hL _ M hI hk
      refine am_Rn.br (fun h2_24 => ?_) (fun h2_24 => ?_)
      · skip
        exact am_op24 sc i hi4 hL _ M hI hk
      refine am_Rn.br (fun h2_25 => ?_) (fun h2_25 => ?_)
      · skip
        exact am_op25 sc i hi4 hL _ M hI hk
      refine am_Rn.br (fun h2_26 => ?_) (fun h2_26 => ?_)
      · skip
        exact am_op26 sc i hi4 hL _ M hI hk
      refine am_Rn.br (fun h2_27 => ?_) (fun h2_27 => ?_)
      · skip
        exact am_op27 sc i hi4 hL _ M hI hk
      refine am_Rn.br (fun h2_28 => ?_) (fun h2_28 => ?_)
      · skip
        exact am_op28 sc i hi4 hL _ M hI hk
      refine am_Rn.br (fun h2_29 => ?_) (fun h2_29 => ?_)
      · skip
        exact am_op29 sc i hi4 hL _ M hI hk
      refine am_Rn.br (fun h2_30 => ?_) (fun h2_30 => ?_)
      · skip
        exact am_op30 sc i hi4 hL _ M hI hk
      exact hk M hI
    · have hlt := (am_lim (L := sc.1) (i := i) hL (by omega)).mpr (by omega)
      refine am_Rn.go (t := am_t171) rfl 6 rfl ⟨trivial, trivial, trivial, trivial, trivial, trivial, trivial⟩ ?_
      refine am_Rn.brT hlt ?_
      refine am_Rn.go (t := am_t171) rfl 1 rfl ⟨trivial, trivial⟩ ?_
      refine am_Rn.ret (t := am_t171) rfl rfl (by first | exact Or.inl rfl | exact Or.inr rfl | exact am_b01 _) ?_
      exact ⟨rfl, am_fin M hI⟩
