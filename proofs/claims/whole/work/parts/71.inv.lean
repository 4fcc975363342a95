/-! ===== the two side by side ===== -/
def sp_row (R : sp_R) : Nat → Int32 := match R with
  | (rd, pr, pv, sa, pd, lo, bo, co, sh, se, si, er, of_, _, _, _) => mp_s rd pr pv sa pd lo bo co sh se si er of_
def sp_im (N P m : Nat) (k : Int32) (R : sp_R) (ke ik : Nat → Int32) : Prop := k = ik m ∧ (k = 0 ∨ ∃ r R', r ≤ N ∧ R.1 = Int32.ofNat r ∧ sp_rr P R R' ∧ ∀ j, j < 80 → ke (80 * m + j) = sp_row R' j)
def am_Inv (M : am_M) : Prop := ∀ Q : Prop, (∀ (tr : Int64) (nu la me tc ts : Nat → Int32) (P : Nat) (tx : Nat → Int32) (n : Nat) (it fa nx pl ki va tw : Int32) (nu3 la3 me3 tc3 ts3 : Nat → Int32) (pe3 : Int32) (rn : Nat) (pr pv sa pd lo : Int32) (bo co sh se si er of_ bi bt so : Nat → Int32) (nu5 la5 me5 tc5 ts5 : Nat → Int32) (pe5 : Int32) (R6 : sp_R) (k7 : Int32) (R8 : sp_R) (k9 : Int32) (R10 : sp_R) (nr ho ou : Nat → Int32) (rc fr : Int32) (cl : Nat → Int32) (C : Nat) (bw br le : Int32) (mnx mtk mpl mva mfa mdp : Int32) (mtx mnu mdn mla mme mtc mts m3a m3b m3c m3d : Nat → Int32) (mpr mpv msa mpd mlo : Int32) (mbo mco msh mse msi mer mof msp mke mik mbi mbt mso mou : Nat → Int32) (N S : Nat), M = bkMain tr :: bkRules 32 nu la me tc ts (Int32.ofNat P) :: bkReader tx (Int32.ofNat n) it fa nx pl ki va tw :: bkRules 96 nu3 la3 me3 tc3 ts3 pe3 :: bkRoom 128 32 (Int32.ofNat rn) pr pv sa pd lo bo co sh se si er of_ bi bt so :: bkRules 160 nu5 la5 me5 tc5 ts5 pe5 :: bkRoomT 192 160 R6 :: bkImg 256 k7 :: bkRoomT 256 32 R8 :: bkImg 320 k9 :: bkRoomT 320 32 R10 :: bkRiders nr ho ou rc fr :: bkClues cl (Int32.ofNat C) bw br le :: bkModel tr (Int32.ofNat n) mnx mtk mpl mva mfa (Int32.ofNat P) mdp (Int32.ofNat C) mtx (mp_ru mnu mdn) (mp_ps (mp_q mla mme mtc mts) (mp_q m3a m3b m3c m3d)) (mp_s (Int32.ofNat rn) mpr mpv msa mpd mlo mbo mco msh mse msi mer mof) msp mke mik mbi mbt mso nr mou ho cl :: [] → (P ≤ 9) → (n ≤ 400) → (C ≤ 12) → (rn ≤ N) → (N ≤ 20) → (nu 0 = Int32.ofNat N) → (S ≤ 9) → (nu 9 = Int32.ofNat S) → (sp_nuOk nu) → (sp_eqN 10 nu mnu) → (sp_eqN P la mla) → (sp_eqN P me mme) → (sp_eqN P tc mtc) → (sp_eqN P ts mts) → (∀ p, p < P → sp_laOk (la p)) → (sp_tc n tx mtx) → (sp_rr P (Int32.ofNat rn, pr, pv, sa, pd, lo, bo, co, sh, se, si, er, of_, bi, bt, so) (Int32.ofNat rn, mpr, mpv, msa, mpd, mlo, mbo, mco, msh, mse, msi, mer, mof, mbi, mbt, mso)) → (sp_im N P 0 k7 R8 mke mik) → (sp_im N P 1 k9 R10 mke mik) → (∀ k, k < 12 → 0 ≤ (cl k).toInt ∧ (cl k).toInt ≤ 999) → (∀ k, k < 3 → 0 ≤ (nr k).toInt ∧ (nr k).toInt ≤ 99) → (sp_hoOk ho) → Q) → Q
theorem am_Inv_mk {tr : Int64} {nu la me tc ts : Nat → Int32} {P : Nat} {tx : Nat → Int32} {n : Nat} {it fa nx pl ki va tw : Int32} {nu3 la3 me3 tc3 ts3 : Nat → Int32} {pe3 : Int32} {rn : Nat} {pr pv sa pd lo : Int32} {bo co sh se si er of_ bi bt so : Nat → Int32} {nu5 la5 me5 tc5 ts5 : Nat → Int32} {pe5 : Int32} {R6 : sp_R} {k7 : Int32} {R8 : sp_R} {k9 : Int32} {R10 : sp_R} {nr ho ou : Nat → Int32} {rc fr : Int32} {cl : Nat → Int32} {C : Nat} {bw br le : Int32} {mnx mtk mpl mva mfa mdp : Int32} {mtx mnu mdn mla mme mtc mts m3a m3b m3c m3d : Nat → Int32} {mpr mpv msa mpd mlo : Int32} {mbo mco msh mse msi mer mof msp mke mik mbi mbt mso mou : Nat → Int32} {N S : Nat} (cP : P ≤ 9) (cn : n ≤ 400) (cC : C ≤ 12) (cr : rn ≤ N) (cN : N ≤ 20) (c0 : nu 0 = Int32.ofNat N) (cS : S ≤ 9) (c9 : nu 9 = Int32.ofNat S) (cu : sp_nuOk nu) (cm : sp_eqN 10 nu mnu) (cl1 : sp_eqN P la mla) (cl2 : sp_eqN P me mme) (cl3 : sp_eqN P tc mtc) (cl4 : sp_eqN P ts mts) (cla : ∀ p, p < P → sp_laOk (la p)) (ct : sp_tc n tx mtx) (cR : sp_rr P (Int32.ofNat rn, pr, pv, sa, pd, lo, bo, co, sh, se, si, er, of_, bi, bt, so) (Int32.ofNat rn, mpr, mpv, msa, mpd, mlo, mbo, mco, msh, mse, msi, mer, mof, mbi, mbt, mso)) (ci1 : sp_im N P 0 k7 R8 mke mik) (ci2 : sp_im N P 1 k9 R10 mke mik) (ccl : ∀ k, k < 12 → 0 ≤ (cl k).toInt ∧ (cl k).toInt ≤ 999) (cnr : ∀ k, k < 3 → 0 ≤ (nr k).toInt ∧ (nr k).toInt ≤ 99) (cho : sp_hoOk ho) : am_Inv (bkMain tr :: bkRules 32 nu la me tc ts (Int32.ofNat P) :: bkReader tx (Int32.ofNat n) it fa nx pl ki va tw :: bkRules 96 nu3 la3 me3 tc3 ts3 pe3 :: bkRoom 128 32 (Int32.ofNat rn) pr pv sa pd lo bo co sh se si er of_ bi bt so :: bkRules 160 nu5 la5 me5 tc5 ts5 pe5 :: bkRoomT 192 160 R6 :: bkImg 256 k7 :: bkRoomT 256 32 R8 :: bkImg 320 k9 :: bkRoomT 320 32 R10 :: bkRiders nr ho ou rc fr :: bkClues cl (Int32.ofNat C) bw br le :: bkModel tr (Int32.ofNat n) mnx mtk mpl mva mfa (Int32.ofNat P) mdp (Int32.ofNat C) mtx (mp_ru mnu mdn) (mp_ps (mp_q mla mme mtc mts) (mp_q m3a m3b m3c m3d)) (mp_s (Int32.ofNat rn) mpr mpv msa mpd mlo mbo mco msh mse msi mer mof) msp mke mik mbi mbt mso nr mou ho cl :: []) := fun Q h => h tr nu la me tc ts P tx n it fa nx pl ki va tw nu3 la3 me3 tc3 ts3 pe3 rn pr pv sa pd lo bo co sh se si er of_ bi bt so nu5 la5 me5 tc5 ts5 pe5 R6 k7 R8 k9 R10 nr ho ou rc fr cl C bw br le mnx mtk mpl mva mfa mdp mtx mnu mdn mla mme mtc mts m3a m3b m3c m3d mpr mpv msa mpd mlo mbo mco msh mse msi mer mof msp mke mik mbi mbt mso mou N S rfl cP cn cC cr cN c0 cS c9 cu cm cl1 cl2 cl3 cl4 cla ct cR ci1 ci2 ccl cnr cho
theorem am_inbS {i k L : Nat} (h : i + k < L) (hL : L ≤ 2048) : am_inb (Int32.ofNat i + Int32.ofNat k) L := by
  rw [am_addN]
  exact am_inb_of h (by omega)
theorem am_inbS1 {i L : Nat} (h : i + 1 < L) (hL : L ≤ 2048) : am_inb (Int32.ofNat i + 1) L := am_inbS (k := 1) h hL
theorem am_inbS2 {i L : Nat} (h : i + 2 < L) (hL : L ≤ 2048) : am_inb (Int32.ofNat i + 2) L := am_inbS (k := 2) h hL
theorem am_inbS3 {i L : Nat} (h : i + 3 < L) (hL : L ≤ 2048) : am_inb (Int32.ofNat i + 3) L := am_inbS (k := 3) h hL
theorem an_rule_c {nu nu' : Nat → Int32} (h : sp_eqN 10 nu nu') (w : Int32) : an_rule nu w = an_rule nu' w := by
  unfold an_rule
  by_cases q : 0 ≤ w ∧ w ≤ 9
  · rw [if_pos q, if_pos q]
    obtain ⟨m, hm, rfl⟩ := am_rng (k := 9) (by omega) q
    rw [am_tn m (by omega)]
    exact h m (by omega)
  · rw [if_neg q, if_neg q]
theorem an_worth_c {nu nu' : Nat → Int32} (h : sp_eqN 10 nu nu') (r w : Int32) : an_worth nu r w = an_worth nu' r w := by
  unfold an_worth
  rw [h 0 (by omega), sp_worth_c h, sp_halves_c h]
theorem an_person_c {nu nu' la la' me me' co co' sh sh' se se' : Nat → Int32} {P q : Nat} (h : sp_eqN 10 nu nu') (h1 : sp_eqN P la la') (h2 : sp_eqN P me me') (h3 : sp_eqN P co co') (h4 : sp_eqN P sh sh') (h5 : sp_eqN P se se') (hq : q < P) (rd pr pv w : Int32) : an_person nu la me co sh se rd pr pv q w = an_person nu' la' me' co' sh' se' rd pr pv q w := by
  unfold an_person
  rw [sp_val_c h h1 h2 h5 hq, h1 q hq, h2 q hq, h3 q hq, h4 q hq, h5 q hq]
theorem an_odds_c {nu nu' : Nat → Int32} (h : sp_eqN 10 nu nu') (r k : Int32) : an_odds nu r k = an_odds nu' r k := by
  unfold an_odds
  rw [h 0 (by omega)]
  have e : ∀ D, am_fold (D + 1) (sp_oddOne nu D k) (0, 1) = am_fold (D + 1) (sp_oddOne nu' D k) (0, 1) := fun D => am_fold_congr (D + 1) (fun i hi x => by
    unfold sp_oddOne sp_oddPay
    rw [h 1 (by omega), h 2 (by omega), h 3 (by omega)]) _
  rw [e]
theorem an_board_c {bo bo' : Nat → Int32} {rn : Nat} (hr : rn ≤ 20) (h : sp_eqN 20 bo bo') (w : Int32) : an_board rn bo w = an_board rn bo' w := by
  unfold an_board
  by_cases q : 0 ≤ w ∧ w ≤ Int32.ofNat rn - 1
  · rw [if_pos q, if_pos q]
    rcases rn with _ | rn
    · exact absurd (Int32.le_trans q.1 q.2) (by decide)
    · rw [show Int32.ofNat (rn + 1) - 1 = Int32.ofNat rn from dec_ofNat rn] at q
      obtain ⟨m, hm, rfl⟩ := am_rng (by omega) q
      rw [am_tn m (by omega)]
      exact h m (by omega)
  · rw [if_neg q, if_neg q]
theorem sp_revF_c {pk pk' : Nat → Int32} (h : ∀ k, pk k = pk' k) (x : Int32) : ∀ d k : Nat, sp_revF pk x d k = sp_revF pk' x d k := by
  intro d
  induction d with
  | zero => intro k; exact (rfl : (-9 : Int32) = -9)
  | succ d ih =>
    intro k
    unfold sp_revF
    rw [h k, ih]
theorem sp_try_eq {nu nu' la la' me me' tc tc' ts ts' : Nat → Int32} {P N S : Nat} {lo : Int32} {bo bo' se se' er er' of_ of' : Nat → Int32} (k : Nat) (h : sp_eqN 10 nu nu') (hl : sp_eqN P la la') (hm : sp_eqN P me me') (hc : sp_eqN P tc tc') (hs : sp_eqN P ts ts') (hb : sp_eqN 20 bo bo') (he : sp_eqN P se se') (h1 : sp_eqN P er er') (h2 : sp_eqN P of_ of') : sp_rr P (sp_try nu la me tc ts P N S lo bo se er of_ k) (sp_try nu' la' me' tc' ts' P N S lo bo' se' er' of' k) :=
  sp_try_c h hl hm hc hs hb (fun p hp => by rw [he p hp]) (fun _ _ => rfl) h1 h2
theorem an_would_c {nu nu' : Nat → Int32} {P N : Nat} {R R' : sp_R} (hN : N ≤ 20) (h : sp_eqN 10 nu nu') (hR : sp_rr P R R') (w : Int32) : an_would nu N R w = an_would nu' N R' w := by
  obtain ⟨rd, pr, pv, sa, pd, lo, bo, co, sh, se, si, er, of_, bi, bt, so⟩ := R
  obtain ⟨rd', pr', pv', sa', pd', lo', bo', co', sh', se', si', er', of', bi', bt', so'⟩ := R'
  obtain ⟨h1, h2, h3, h4, h5, h6, h7, -⟩ := hR
  unfold an_would sp_bo
  dsimp only
  rw [sp_peak_c hN h7, sp_bub_c hN h h7, h4]
theorem sp_bo_c {P N : Nat} {R R' : sp_R} (hN : N ≤ 20) (hR : sp_rr P R R') : sp_peak (sp_bo R) N = sp_peak (sp_bo R') N := by
  obtain ⟨rd, pr, pv, sa, pd, lo, bo, co, sh, se, si, er, of_, bi, bt, so⟩ := R
  obtain ⟨rd', pr', pv', sa', pd', lo', bo', co', sh', se', si', er', of', bi', bt', so'⟩ := R'
  obtain ⟨h1, h2, h3, h4, h5, h6, h7, -⟩ := hR
  exact sp_peak_c hN h7
