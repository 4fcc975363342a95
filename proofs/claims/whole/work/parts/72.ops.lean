theorem sp_typeM_len (v : Int64) : ∀ (n : Nat) (X : (Nat → Int32) × Nat), (am_down n (sp_typeM v) X).2 = X.2 + n + 1 := by
  intro n
  induction n with
  | zero => intro X; exact (rfl : X.2 + 1 = X.2 + 1)
  | succ n ih =>
    intro X
    show (am_down n (sp_typeM v) (sp_typeM v (n + 1) X)).2 = _
    rw [ih]
    show X.2 + 1 + n + 1 = _
    omega
theorem sp_tc_snoc {n : Nat} {c f : Nat → Int32} (h : sp_tc n c f) (y : Int64) : sp_tc (n + 1) (upd c n (vp_nar .byte y.toInt32.toInt8.toInt32)) (upd f n (y &&& 255).toInt32) := by
  intro k hk
  by_cases e : k = n
  · rw [e, mp_upd_eq, mp_upd_eq]
    exact sp_byte y
  · rw [mp_upd_ne _ _ e, mp_upd_ne _ _ e]
    exact h k (by omega)
theorem sp_type_tc (v : Int64) : ∀ (d : Nat) (X Y : (Nat → Int32) × Nat), X.2 = Y.2 → sp_tc X.2 X.1 Y.1 → sp_tc (X.2 + d + 1) (am_down d (sp_typeOne v) X).1 (am_down d (sp_typeM v) Y).1 := by
  intro d
  induction d with
  | zero =>
    intro X Y e h
    obtain ⟨c, n⟩ := X
    obtain ⟨f, n'⟩ := Y
    dsimp only at e h
    subst e
    exact sp_tc_snoc h (v >>> ((8 * Int32.ofNat 0).toInt64 &&& 63))
  | succ d ih =>
    intro X Y e h
    obtain ⟨c, n⟩ := X
    obtain ⟨f, n'⟩ := Y
    dsimp only at e h
    subst e
    have hs : sp_tc (n + 1) (sp_typeOne v (d + 1) (c, n)).1 (sp_typeM v (d + 1) (f, n)).1 := sp_tc_snoc h (v >>> ((8 * Int32.ofNat (d + 1)).toInt64 &&& 63))
    have g := ih (sp_typeOne v (d + 1) (c, n)) (sp_typeM v (d + 1) (f, n)) (rfl : n + 1 = n + 1) hs
    have e2 : (sp_typeOne v (d + 1) (c, n)).2 + d + 1 = (c, n).2 + (d + 1) + 1 := by
      show n + 1 + d + 1 = n + (d + 1) + 1
      omega
    rw [e2] at g
    exact g
theorem an_odds_no {nu : Nat → Int32} {r k : Int32} (h : ¬ ((0 ≤ r ∧ r ≤ nu 0) ∧ (0 ≤ k ∧ k ≤ 279))) : an_odds nu r k = -1 := by
  unfold an_odds
  by_cases q : 0 ≤ r ∧ r ≤ nu 0
  · rw [if_pos q, if_neg (fun z => h ⟨q, z⟩)]
  · rw [if_neg q]
theorem sp_bd_upd {m b : Nat} {f : Nat → Int32} {w : Nat} {v : Int32} (hb : b < 2147483648) (h : ∀ k, k < m → 0 ≤ (f k).toInt ∧ (f k).toInt ≤ b) (hv : 0 ≤ v ∧ v ≤ Int32.ofNat b) : ∀ k, k < m → 0 ≤ (upd f w v k).toInt ∧ (upd f w v k).toInt ≤ b := by
  intro k hk
  by_cases e : k = w
  · rw [e, mp_upd_eq]
    exact ⟨(ai_ge (k := 0) (by omega)).mp hv.1, (ai_le hb).mp hv.2⟩
  · rw [mp_upd_ne _ _ e]
    exact h k hk
theorem sp_err_c {nu nu' : Nat → Int32} (h : sp_eqN 10 nu nu') (cl : Nat → Int32) (C : Nat) (a b v : Int32) : sp_err nu cl C a b v = sp_err nu' cl C a b v := am_fold_congr C (fun i hi s => by
  unfold sp_errOne
  rw [h 0 (by omega), sp_worth_c h]) 0
theorem am_down_congr {α : Type} {f g : Nat → α → α} (h : ∀ i x, f i x = g i x) : ∀ (n : Nat) (a : α), am_down n f a = am_down n g a := by
  intro n
  induction n with
  | zero => intro a; exact h 0 a
  | succ n ih =>
    intro a
    show am_down n f (f (n + 1) a) = am_down n g (g (n + 1) a)
    rw [h (n + 1) a]
    exact ih _
theorem sp_fit_c {nu nu' : Nat → Int32} (h : sp_eqN 10 nu nu') (cl : Nat → Int32) (C : Nat) (v : Int32) (A : Nat) (X : sp_F3) : sp_fitRow nu cl C v A X = sp_fitRow nu' cl C v A X := am_down_congr (fun B Y => by
  unfold sp_fitOne
  rw [sp_err_c h]) _ _
theorem sp_fit_eq {nu nu' : Nat → Int32} (h : sp_eqN 10 nu nu') (cl : Nat → Int32) (C : Nat) (v bw br : Int32) : am_down 10 (sp_fitRow nu cl C v) (-1, bw, br) = am_down 9 (sp_fitRow nu' cl C v) (sp_err nu' cl C (Int32.ofNat 10) (Int32.ofNat 0) v, Int32.ofNat 10, Int32.ofNat 0) := by
  rw [am_down_congr (sp_fit_c h cl C v)]
  have e1 : sp_fitRow nu' cl C v 10 (-1, bw, br) = (sp_err nu' cl C (Int32.ofNat 10) (Int32.ofNat 0) v, Int32.ofNat 10, Int32.ofNat 0) := sp_fitOne_T (X := (-1, bw, br)) (Or.inl (show (-1 : Int32) < 0 by decide))
  have e2 : am_down 10 (sp_fitRow nu' cl C v) (-1, bw, br) = am_down 9 (sp_fitRow nu' cl C v) (sp_fitRow nu' cl C v 10 (-1, bw, br)) := rfl
  rw [e2, e1]
theorem sp_mark_c {nu nu' co co' sh sh' se se' : Nat → Int32} {P q : Nat} (h : sp_eqN 10 nu nu') (h1 : sp_eqN P co co') (h2 : sp_eqN P sh sh') (h3 : sp_eqN P se se') (hq : q < P) (rd pr : Int32) : ∀ k : Nat, sp_mark nu co sh se rd pr q k = sp_mark nu' co' sh' se' rd pr q k := by
  intro k
  have e1 := h1 q hq
  have e2 := h2 q hq
  have e3 := h3 q hq
  have e4 := sp_worth_c h rd
  match k with
  | 0 => exact e1
  | 1 => show co q + sh q * sp_worth nu rd = co' q + sh' q * sp_worth nu' rd; rw [e1, e2, e4]
  | 2 => show co q + pr = co' q + pr; rw [e1]
  | 3 => show co q - rd = co' q - rd; rw [e1]
  | 4 => show 2 * co q = 2 * co' q; rw [e1]
  | 5 => show co q - rd + se q = co' q - rd + se' q; rw [e1, e3]
  | k + 6 => show co q + pr - sh q = co' q + pr - sh' q; rw [e1, e2]
theorem sp_ink_in {m j : Nat} {f ke : Nat → Int32} (hj : j < 80) : sp_ink m f ke (80 * m + j) = f j := by
  unfold sp_ink
  rw [if_pos (by omega), show 80 * m + j - 80 * m = j by omega]
theorem sp_ink_out {m k j : Nat} {f ke : Nat → Int32} (hj : j < 80) (hk : k ≠ m) : sp_ink m f ke (80 * k + j) = ke (80 * k + j) := by
  unfold sp_ink
  exact if_neg (by omega)
set_option maxHeartbeats 400000 in
theorem am_op0 (sc : am_Sc) (i : Nat) (hi : i + 4 ≤ sc.1) (hL : sc.1 ≤ 2048) (K : Option Value → am_M → Prop) (M : am_M) (hI : am_Inv M) (hk : ∀ M, am_Inv M → am_Rn sc 171 (674, [some (.ref 1030), some (.ref 0), some (.ref 416), some (.int (Int32.ofNat i))], [], M) K) : am_Rn sc 171 (22, [some (.ref 1030), some (.ref 0), some (.ref 416), some (.int (Int32.ofNat i))], [], M) K := by
  refine hI _ ?_
  intro tr nu la me tc ts P tx n it fa nx pl ki va tw nu3 la3 me3 tc3 ts3 pe3 rn pr pv sa pd lo bo co sh se si er of_ bi bt so nu5 la5 me5 tc5 ts5 pe5 R6 k7 R8 k9 R10 nr ho ou rc fr cl C bw br le mnx mtk mpl mva mfa mdp mtx mnu mdn mla mme mtc mts m3a m3b m3c m3d mpr mpv msa mpd mlo mbo mco msh mse msi mer mof msp mke mik mbi mbt mso mou N S hM cP cn cC cr cN c0 cS c9 cu cm cl1 cl2 cl3 cl4 cla ct cR ci1 ci2 ccl cnr cho
  subst hM
  obtain ⟨-, rfl, rfl, rfl, rfl, rfl, b1, b2, b3, b4, b5, b6, b7⟩ := cR
  have m0 : mnu 0 = Int32.ofNat N := (cm 0 (by omega)).symm.trans c0
  have m9 : mnu 9 = Int32.ofNat S := (cm 9 (by omega)).symm.trans c9
  have m7 : 0 ≤ mnu 7 := by rw [← cm 7 (by omega)]; exact (cu 7 (by omega) (by omega)).1
  have mla_ : ∀ q, q < P → mla q = 0 ∨ mla q = 1 ∨ mla q = 2 ∨ mla q = 3 ∨ mla q = 4 := fun q hq => by rw [← cl1 q hq]; exact cla q hq
  obtain ⟨w3, hw3⟩ : ∃ w, sc.2 (Int32.ofNat i + 3).toNatClampNeg = w := ⟨_, rfl⟩
  rcases Classical.em (1 ≤ w3 ∧ w3 ≤ 8) with h | h
  · skip
    obtain ⟨k0, h8, rfl⟩ := am_rng (k := 8) (by omega) ⟨Int32.le_trans (by decide) h.1, h.2⟩
    have h1 : 1 ≤ k0 := (am_le (i := 1) (by omega) (by omega)).mp h.1
    rcases Classical.em (n + k0 ≤ 400) with hk4 | hk4
    · skip
      refine am_Rn.go (t := am_t171) rfl 23 rfl ⟨trivial, trivial, trivial, trivial, trivial, (by exact am_inbS1 (by omega) hL), trivial, trivial, trivial, trivial, trivial, trivial, trivial, (by exact am_inbS2 (by omega) hL), trivial, trivial, trivial, trivial, trivial, trivial, trivial, trivial, (by exact am_inbS3 (by omega) hL), trivial⟩ ?_
      show am_Rn sc 171 (45, _, [.int (sc.2 (Int32.ofNat i + 3).toNatClampNeg), .long _, .ref 0], _) _
      rw [hw3]
      refine am_Rn.call (t := am_t171) rfl rfl (sx_type_T (h1 := h1) (h8 := h8) (hk := hk4) (hn := cn) ..) ?_
      rintro _ _ ⟨rfl, rfl⟩
      refine am_Rn.go (t := am_t171) rfl 23 rfl ⟨trivial, trivial, trivial, trivial, trivial, (by exact am_inbS1 (by omega) hL), trivial, trivial, trivial, trivial, trivial, trivial, trivial, (by exact am_inbS2 (by omega) hL), trivial, trivial, trivial, trivial, trivial, trivial, trivial, trivial, (by exact am_inbS3 (by omega) hL), trivial⟩ ?_
      show am_Rn sc 171 (69, _, [.int (sc.2 (Int32.ofNat i + 3).toNatClampNeg), .long _, .ref 416, _], _) _
      rw [hw3]
      refine am_Rn.call (t := am_t171) rfl rfl (mm_type_T (h1 := h1) (h8 := h8) (hn := cn) (hk := hk4) ..) ?_
      rintro _ _ ⟨rfl, rfl⟩
      refine am_Rn.go (t := am_t171) rfl 1 rfl ⟨trivial, trivial⟩ ?_
      refine am_Rn.brT (by rw [sp_type_len, sp_typeM_len]) ?_
      have en : (tx, n).2 + (k0 - 1) + 1 = n + k0 := by
        show n + (k0 - 1) + 1 = n + k0
        omega
      have en2 : (mtx, n).2 + (k0 - 1) + 1 = n + k0 := en
      rw [sp_type_len, sp_typeM_len, en]
      exact hk _ (am_Inv_mk (P := P) (n := n + k0) (rn := rn) (C := C) (N := N) (S := S) cP hk4 cC cr cN c0 cS c9 cu cm cl1 cl2 cl3 cl4 cla (by rw [← en]; exact sp_type_tc _ (k0 - 1) (tx, n) (mtx, n) rfl ct) ⟨rfl, rfl, rfl, rfl, rfl, rfl, b1, b2, b3, b4, b5, b6, b7⟩ ci1 ci2 ccl cnr cho)
    · skip
      refine am_Rn.go (t := am_t171) rfl 23 rfl ⟨trivial, trivial, trivial, trivial, trivial, (by exact am_inbS1 (by omega) hL), trivial, trivial, trivial, trivial, trivial, trivial, trivial, (by exact am_inbS2 (by omega) hL), trivial, trivial, trivial, trivial, trivial, trivial, trivial, trivial, (by exact am_inbS3 (by omega) hL), trivial⟩ ?_
      show am_Rn sc 171 (45, _, [.int (sc.2 (Int32.ofNat i + 3).toNatClampNeg), .long _, .ref 0], _) _
      rw [hw3]
      refine am_Rn.call (t := am_t171) rfl rfl (sx_type_U (h1 := h1) (h8 := h8) (hk := by omega) (hn := cn) ..) ?_
      rintro _ _ ⟨rfl, rfl⟩
      refine am_Rn.go (t := am_t171) rfl 23 rfl ⟨trivial, trivial, trivial, trivial, trivial, (by exact am_inbS1 (by omega) hL), trivial, trivial, trivial, trivial, trivial, trivial, trivial, (by exact am_inbS2 (by omega) hL), trivial, trivial, trivial, trivial, trivial, trivial, trivial, trivial, (by exact am_inbS3 (by omega) hL), trivial⟩ ?_
      show am_Rn sc 171 (69, _, [.int (sc.2 (Int32.ofNat i + 3).toNatClampNeg), .long _, .ref 416, _], _) _
      rw [hw3]
      refine am_Rn.call (t := am_t171) rfl rfl (mm_type_U (h1 := h1) (h8 := h8) (hn := cn) (hk := by omega) ..) ?_
      rintro _ _ ⟨rfl, rfl⟩
      refine am_Rn.go (t := am_t171) rfl 1 rfl ⟨trivial, trivial⟩ ?_
      refine am_Rn.brT rfl ?_
      exact hk _ (am_Inv_mk (P := P) (n := n) (rn := rn) (C := C) (N := N) (S := S) cP cn cC cr cN c0 cS c9 cu cm cl1 cl2 cl3 cl4 cla ct ⟨rfl, rfl, rfl, rfl, rfl, rfl, b1, b2, b3, b4, b5, b6, b7⟩ ci1 ci2 ccl cnr cho)
  · skip
    refine am_Rn.go (t := am_t171) rfl 23 rfl ⟨trivial, trivial, trivial, trivial, trivial, (by exact am_inbS1 (by omega) hL), trivial, trivial, trivial, trivial, trivial, trivial, trivial, (by exact am_inbS2 (by omega) hL), trivial, trivial, trivial, trivial, trivial, trivial, trivial, trivial, (by exact am_inbS3 (by omega) hL), trivial⟩ ?_
    show am_Rn sc 171 (45, _, [.int (sc.2 (Int32.ofNat i + 3).toNatClampNeg), .long _, .ref 0], _) _
    rw [hw3]
    refine am_Rn.call (t := am_t171) rfl rfl (sx_type_F (hw := h) ..) ?_
    rintro _ _ ⟨rfl, rfl⟩
    refine am_Rn.go (t := am_t171) rfl 23 rfl ⟨trivial, trivial, trivial, trivial, trivial, (by exact am_inbS1 (by omega) hL), trivial, trivial, trivial, trivial, trivial, trivial, trivial, (by exact am_inbS2 (by omega) hL), trivial, trivial, trivial, trivial, trivial, trivial, trivial, trivial, (by exact am_inbS3 (by omega) hL), trivial⟩ ?_
    show am_Rn sc 171 (69, _, [.int (sc.2 (Int32.ofNat i + 3).toNatClampNeg), .long _, .ref 416, _], _) _
    rw [hw3]
    refine am_Rn.call (t := am_t171) rfl rfl (mm_type_F (hw := h) ..) ?_
    rintro _ _ ⟨rfl, rfl⟩
    refine am_Rn.go (t := am_t171) rfl 1 rfl ⟨trivial, trivial⟩ ?_
    refine am_Rn.brT rfl ?_
    exact hk _ (am_Inv_mk (P := P) (n := n) (rn := rn) (C := C) (N := N) (S := S) cP cn cC cr cN c0 cS c9 cu cm cl1 cl2 cl3 cl4 cla ct ⟨rfl, rfl, rfl, rfl, rfl, rfl, b1, b2, b3, b4, b5, b6, b7⟩ ci1 ci2 ccl cnr cho)
set_option maxHeartbeats 400000 in
theorem am_op1 (sc : am_Sc) (i : Nat) (hi : i + 4 ≤ sc.1) (hL : sc.1 ≤ 2048) (K : Option Value → am_M → Prop) (M : am_M) (hI : am_Inv M) (hk : ∀ M, am_Inv M → am_Rn sc 171 (674, [some (.ref 1030), some (.ref 0), some (.ref 416), some (.int (Int32.ofNat i))], [], M) K) : am_Rn sc 171 (73, [some (.ref 1030), some (.ref 0), some (.ref 416), some (.int (Int32.ofNat i))], [], M) K := by
  refine hI _ ?_
  intro tr nu la me tc ts P tx n it fa nx pl ki va tw nu3 la3 me3 tc3 ts3 pe3 rn pr pv sa pd lo bo co sh se si er of_ bi bt so nu5 la5 me5 tc5 ts5 pe5 R6 k7 R8 k9 R10 nr ho ou rc fr cl C bw br le mnx mtk mpl mva mfa mdp mtx mnu mdn mla mme mtc mts m3a m3b m3c m3d mpr mpv msa mpd mlo mbo mco msh mse msi mer mof msp mke mik mbi mbt mso mou N S hM cP cn cC cr cN c0 cS c9 cu cm cl1 cl2 cl3 cl4 cla ct cR ci1 ci2 ccl cnr cho
  subst hM
  obtain ⟨-, rfl, rfl, rfl, rfl, rfl, b1, b2, b3, b4, b5, b6, b7⟩ := cR
  have m0 : mnu 0 = Int32.ofNat N := (cm 0 (by omega)).symm.trans c0
  have m9 : mnu 9 = Int32.ofNat S := (cm 9 (by omega)).symm.trans c9
  have m7 : 0 ≤ mnu 7 := by rw [← cm 7 (by omega)]; exact (cu 7 (by omega) (by omega)).1
  have mla_ : ∀ q, q < P → mla q = 0 ∨ mla q = 1 ∨ mla q = 2 ∨ mla q = 3 ∨ mla q = 4 := fun q hq => by rw [← cl1 q hq]; exact cla q hq
  refine am_Rn.go (t := am_t171) rfl 1 rfl ⟨trivial, trivial⟩ ?_
  show am_Rn sc 171 (74, _, [.ref 0], _) _
  refine am_Rn.call (t := am_t171) rfl rfl (sx_clear (hn := cn) ..) ?_
  rintro _ _ ⟨rfl, rfl⟩
  refine am_Rn.go (t := am_t171) rfl 1 rfl ⟨trivial, trivial⟩ ?_
  show am_Rn sc 171 (76, _, [.ref 416, _], _) _
  refine am_Rn.call (t := am_t171) rfl rfl (mm_clear ..) ?_
  rintro _ _ ⟨rfl, rfl⟩
  refine am_Rn.go (t := am_t171) rfl 1 rfl ⟨trivial, trivial⟩ ?_
  refine am_Rn.brT rfl ?_
  exact hk _ (am_Inv_mk (P := P) (n := 0) (rn := rn) (C := C) (N := N) (S := S) cP (by omega) cC cr cN c0 cS c9 cu cm cl1 cl2 cl3 cl4 cla (fun i hi => absurd hi (Nat.not_lt_zero i)) ⟨rfl, rfl, rfl, rfl, rfl, rfl, b1, b2, b3, b4, b5, b6, b7⟩ ci1 ci2 ccl cnr cho)
set_option maxHeartbeats 400000 in
theorem am_op3 (sc : am_Sc) (i : Nat) (hi : i + 4 ≤ sc.1) (hL : sc.1 ≤ 2048) (K : Option Value → am_M → Prop) (M : am_M) (hI : am_Inv M) (hk : ∀ M, am_Inv M → am_Rn sc 171 (674, [some (.ref 1030), some (.ref 0), some (.ref 416), some (.int (Int32.ofNat i))], [], M) K) : am_Rn sc 171 (87, [some (.ref 1030), some (.ref 0), some (.ref 416), some (.int (Int32.ofNat i))], [], M) K := by
  refine hI _ ?_
  intro tr nu la me tc ts P tx n it fa nx pl ki va tw nu3 la3 me3 tc3 ts3 pe3 rn pr pv sa pd lo bo co sh se si er of_ bi bt so nu5 la5 me5 tc5 ts5 pe5 R6 k7 R8 k9 R10 nr ho ou rc fr cl C bw br le mnx mtk mpl mva mfa mdp mtx mnu mdn mla mme mtc mts m3a m3b m3c m3d mpr mpv msa mpd mlo mbo mco msh mse msi mer mof msp mke mik mbi mbt mso mou N S hM cP cn cC cr cN c0 cS c9 cu cm cl1 cl2 cl3 cl4 cla ct cR ci1 ci2 ccl cnr cho
  subst hM
  obtain ⟨-, rfl, rfl, rfl, rfl, rfl, b1, b2, b3, b4, b5, b6, b7⟩ := cR
  have m0 : mnu 0 = Int32.ofNat N := (cm 0 (by omega)).symm.trans c0
  have m9 : mnu 9 = Int32.ofNat S := (cm 9 (by omega)).symm.trans c9
  have m7 : 0 ≤ mnu 7 := by rw [← cm 7 (by omega)]; exact (cu 7 (by omega) (by omega)).1
  have mla_ : ∀ q, q < P → mla q = 0 ∨ mla q = 1 ∨ mla q = 2 ∨ mla q = 3 ∨ mla q = 4 := fun q hq => by rw [← cl1 q hq]; exact cla q hq
  obtain ⟨w1, hw1⟩ : ∃ w, sc.2 (Int32.ofNat i + 1).toNatClampNeg = w := ⟨_, rfl⟩
  refine am_Rn.go (t := am_t171) rfl 6 rfl ⟨trivial, trivial, trivial, trivial, trivial, (by exact am_inbS1 (by omega) hL), trivial⟩ ?_
  show am_Rn sc 171 (93, _, [.int (sc.2 (Int32.ofNat i + 1).toNatClampNeg), .ref 0], _) _
  rw [hw1]
  refine am_Rn.call (t := am_t171) rfl rfl (sx_rule (hP := cP) ..) ?_
  rintro _ _ ⟨rfl, rfl⟩
  refine am_Rn.go (t := am_t171) rfl 6 rfl ⟨trivial, trivial, trivial, trivial, trivial, (by exact am_inbS1 (by omega) hL), trivial⟩ ?_
  show am_Rn sc 171 (100, _, [.int (sc.2 (Int32.ofNat i + 1).toNatClampNeg), .ref 416, _], _) _
  rw [hw1]
  refine am_Rn.call (t := am_t171) rfl rfl (mm_rule ..) ?_
  rintro _ _ ⟨rfl, rfl⟩
  refine am_Rn.go (t := am_t171) rfl 1 rfl ⟨trivial, trivial⟩ ?_
  refine am_Rn.brT (an_rule_c cm w1) ?_
  exact hk _ (am_Inv_mk (P := P) (n := n) (rn := rn) (C := C) (N := N) (S := S) cP cn cC cr cN c0 cS c9 cu cm cl1 cl2 cl3 cl4 cla ct ⟨rfl, rfl, rfl, rfl, rfl, rfl, b1, b2, b3, b4, b5, b6, b7⟩ ci1 ci2 ccl cnr cho)
set_option maxHeartbeats 400000 in
theorem am_op4 (sc : am_Sc) (i : Nat) (hi : i + 4 ≤ sc.1) (hL : sc.1 ≤ 2048) (K : Option Value → am_M → Prop) (M : am_M) (hI : am_Inv M) (hk : ∀ M, am_Inv M → am_Rn sc 171 (674, [some (.ref 1030), some (.ref 0), some (.ref 416), some (.int (Int32.ofNat i))], [], M) K) : am_Rn sc 171 (104, [some (.ref 1030), some (.ref 0), some (.ref 416), some (.int (Int32.ofNat i))], [], M) K := by
  refine hI _ ?_
  intro tr nu la me tc ts P tx n it fa nx pl ki va tw nu3 la3 me3 tc3 ts3 pe3 rn pr pv sa pd lo bo co sh se si er of_ bi bt so nu5 la5 me5 tc5 ts5 pe5 R6 k7 R8 k9 R10 nr ho ou rc fr cl C bw br le mnx mtk mpl mva mfa mdp mtx mnu mdn mla mme mtc mts m3a m3b m3c m3d mpr mpv msa mpd mlo mbo mco msh mse msi mer mof msp mke mik mbi mbt mso mou N S hM cP cn cC cr cN c0 cS c9 cu cm cl1 cl2 cl3 cl4 cla ct cR ci1 ci2 ccl cnr cho
  subst hM
  obtain ⟨-, rfl, rfl, rfl, rfl, rfl, b1, b2, b3, b4, b5, b6, b7⟩ := cR
  have m0 : mnu 0 = Int32.ofNat N := (cm 0 (by omega)).symm.trans c0
  have m9 : mnu 9 = Int32.ofNat S := (cm 9 (by omega)).symm.trans c9
  have m7 : 0 ≤ mnu 7 := by rw [← cm 7 (by omega)]; exact (cu 7 (by omega) (by omega)).1
  have mla_ : ∀ q, q < P → mla q = 0 ∨ mla q = 1 ∨ mla q = 2 ∨ mla q = 3 ∨ mla q = 4 := fun q hq => by rw [← cl1 q hq]; exact cla q hq
  obtain ⟨w1, hw1⟩ : ∃ w, sc.2 (Int32.ofNat i + 1).toNatClampNeg = w := ⟨_, rfl⟩
  obtain ⟨w2, hw2⟩ : ∃ w, sc.2 (Int32.ofNat i + 2).toNatClampNeg = w := ⟨_, rfl⟩
  rcases Classical.em (0 ≤ w1 ∧ w1 ≤ Int32.ofNat P - 1) with hp | hp
  · skip
    obtain ⟨q, hq, rfl⟩ := am_pers cP hp
    refine am_Rn.go (t := am_t171) rfl 11 rfl ⟨trivial, trivial, trivial, trivial, trivial, (by exact am_inbS1 (by omega) hL), trivial, trivial, trivial, trivial, (by exact am_inbS2 (by omega) hL), trivial⟩ ?_
    show am_Rn sc 171 (115, _, [.int (sc.2 (Int32.ofNat i + 2).toNatClampNeg), .int (sc.2 (Int32.ofNat i + 1).toNatClampNeg), .ref 0], _) _
    rw [hw1, hw2]
    refine am_Rn.call (t := am_t171) rfl rfl (sx_person_T (hP := cP) (q := q) (hq := hq) ..) ?_
    rintro _ _ ⟨rfl, rfl⟩
    refine am_Rn.go (t := am_t171) rfl 11 rfl ⟨trivial, trivial, trivial, trivial, trivial, (by exact am_inbS1 (by omega) hL), trivial, trivial, trivial, trivial, (by exact am_inbS2 (by omega) hL), trivial⟩ ?_
    show am_Rn sc 171 (127, _, [.int (sc.2 (Int32.ofNat i + 2).toNatClampNeg), .int (sc.2 (Int32.ofNat i + 1).toNatClampNeg), .ref 416, _], _) _
    rw [hw1, hw2]
    refine am_Rn.call (t := am_t171) rfl rfl (mm_person_T (hP := cP) (q := q) (hq := hq) (h7 := m7) (hla := mla_ q hq) ..) ?_
    rintro _ _ ⟨rfl, rfl⟩
    refine am_Rn.go (t := am_t171) rfl 1 rfl ⟨trivial, trivial⟩ ?_
    refine am_Rn.brT (an_person_c cm cl1 cl2 b2 b3 b4 hq _ _ _ _) ?_
    exact hk _ (am_Inv_mk (P := P) (n := n) (rn := rn) (C := C) (N := N) (S := S) cP cn cC cr cN c0 cS c9 cu cm cl1 cl2 cl3 cl4 cla ct ⟨rfl, rfl, rfl, rfl, rfl, rfl, b1, b2, b3, b4, b5, b6, b7⟩ ci1 ci2 ccl cnr cho)
  · skip
    refine am_Rn.go (t := am_t171) rfl 11 rfl ⟨trivial, trivial, trivial, trivial, trivial, (by exact am_inbS1 (by omega) hL), trivial, trivial, trivial, trivial, (by exact am_inbS2 (by omega) hL), trivial⟩ ?_
    show am_Rn sc 171 (115, _, [.int (sc.2 (Int32.ofNat i + 2).toNatClampNeg), .int (sc.2 (Int32.ofNat i + 1).toNatClampNeg), .ref 0], _) _
    rw [hw1, hw2]
    refine am_Rn.call (t := am_t171) rfl rfl (sx_person_F (hP := cP) (hp := hp) ..) ?_
    rintro _ _ ⟨rfl, rfl⟩
    refine am_Rn.go (t := am_t171) rfl 11 rfl ⟨trivial, trivial, trivial, trivial, trivial, (by exact am_inbS1 (by omega) hL), trivial, trivial, trivial, trivial, (by exact am_inbS2 (by omega) hL), trivial⟩ ?_
    show am_Rn sc 171 (127, _, [.int (sc.2 (Int32.ofNat i + 2).toNatClampNeg), .int (sc.2 (Int32.ofNat i + 1).toNatClampNeg), .ref 416, _], _) _
    rw [hw1, hw2]
    refine am_Rn.call (t := am_t171) rfl rfl (mm_person_F (hP := cP) (hp := hp) ..) ?_
    rintro _ _ ⟨rfl, rfl⟩
    refine am_Rn.go (t := am_t171) rfl 1 rfl ⟨trivial, trivial⟩ ?_
    refine am_Rn.brT rfl ?_
    exact hk _ (am_Inv_mk (P := P) (n := n) (rn := rn) (C := C) (N := N) (S := S) cP cn cC cr cN c0 cS c9 cu cm cl1 cl2 cl3 cl4 cla ct ⟨rfl, rfl, rfl, rfl, rfl, rfl, b1, b2, b3, b4, b5, b6, b7⟩ ci1 ci2 ccl cnr cho)
set_option maxHeartbeats 400000 in
theorem am_op5 (sc : am_Sc) (i : Nat) (hi : i + 4 ≤ sc.1) (hL : sc.1 ≤ 2048) (K : Option Value → am_M → Prop) (M : am_M) (hI : am_Inv M) (hk : ∀ M, am_Inv M → am_Rn sc 171 (674, [some (.ref 1030), some (.ref 0), some (.ref 416), some (.int (Int32.ofNat i))], [], M) K) : am_Rn sc 171 (131, [some (.ref 1030), some (.ref 0), some (.ref 416), some (.int (Int32.ofNat i))], [], M) K := by
  refine hI _ ?_
  intro tr nu la me tc ts P tx n it fa nx pl ki va tw nu3 la3 me3 tc3 ts3 pe3 rn pr pv sa pd lo bo co sh se si er of_ bi bt so nu5 la5 me5 tc5 ts5 pe5 R6 k7 R8 k9 R10 nr ho ou rc fr cl C bw br le mnx mtk mpl mva mfa mdp mtx mnu mdn mla mme mtc mts m3a m3b m3c m3d mpr mpv msa mpd mlo mbo mco msh mse msi mer mof msp mke mik mbi mbt mso mou N S hM cP cn cC cr cN c0 cS c9 cu cm cl1 cl2 cl3 cl4 cla ct cR ci1 ci2 ccl cnr cho
  subst hM
  obtain ⟨-, rfl, rfl, rfl, rfl, rfl, b1, b2, b3, b4, b5, b6, b7⟩ := cR
  have m0 : mnu 0 = Int32.ofNat N := (cm 0 (by omega)).symm.trans c0
  have m9 : mnu 9 = Int32.ofNat S := (cm 9 (by omega)).symm.trans c9
  have m7 : 0 ≤ mnu 7 := by rw [← cm 7 (by omega)]; exact (cu 7 (by omega) (by omega)).1
  have mla_ : ∀ q, q < P → mla q = 0 ∨ mla q = 1 ∨ mla q = 2 ∨ mla q = 3 ∨ mla q = 4 := fun q hq => by rw [← cl1 q hq]; exact cla q hq
  obtain ⟨w1, hw1⟩ : ∃ w, sc.2 (Int32.ofNat i + 1).toNatClampNeg = w := ⟨_, rfl⟩
  obtain ⟨w2, hw2⟩ : ∃ w, sc.2 (Int32.ofNat i + 2).toNatClampNeg = w := ⟨_, rfl⟩
  refine am_Rn.go (t := am_t171) rfl 11 rfl ⟨trivial, trivial, trivial, trivial, trivial, (by exact am_inbS1 (by omega) hL), trivial, trivial, trivial, trivial, (by exact am_inbS2 (by omega) hL), trivial⟩ ?_
  show am_Rn sc 171 (142, _, [.int (sc.2 (Int32.ofNat i + 2).toNatClampNeg), .int (sc.2 (Int32.ofNat i + 1).toNatClampNeg), .ref 0], _) _
  rw [hw1, hw2]
  refine am_Rn.call (t := am_t171) rfl rfl (sx_worth (hP := cP) ..) ?_
  rintro _ _ ⟨rfl, rfl⟩
  refine am_Rn.go (t := am_t171) rfl 11 rfl ⟨trivial, trivial, trivial, trivial, trivial, (by exact am_inbS1 (by omega) hL), trivial, trivial, trivial, trivial, (by exact am_inbS2 (by omega) hL), trivial⟩ ?_
  show am_Rn sc 171 (154, _, [.int (sc.2 (Int32.ofNat i + 2).toNatClampNeg), .int (sc.2 (Int32.ofNat i + 1).toNatClampNeg), .ref 416, _], _) _
  rw [hw1, hw2]
  refine am_Rn.call (t := am_t171) rfl rfl (mm_worth ..) ?_
  rintro _ _ ⟨rfl, rfl⟩
  refine am_Rn.go (t := am_t171) rfl 1 rfl ⟨trivial, trivial⟩ ?_
  refine am_Rn.brT (an_worth_c cm w1 w2) ?_
  exact hk _ (am_Inv_mk (P := P) (n := n) (rn := rn) (C := C) (N := N) (S := S) cP cn cC cr cN c0 cS c9 cu cm cl1 cl2 cl3 cl4 cla ct ⟨rfl, rfl, rfl, rfl, rfl, rfl, b1, b2, b3, b4, b5, b6, b7⟩ ci1 ci2 ccl cnr cho)
set_option maxHeartbeats 400000 in
theorem am_op6 (sc : am_Sc) (i : Nat) (hi : i + 4 ≤ sc.1) (hL : sc.1 ≤ 2048) (K : Option Value → am_M → Prop) (M : am_M) (hI : am_Inv M) (hk : ∀ M, am_Inv M → am_Rn sc 171 (674, [some (.ref 1030), some (.ref 0), some (.ref 416), some (.int (Int32.ofNat i))], [], M) K) : am_Rn sc 171 (158, [some (.ref 1030), some (.ref 0), some (.ref 416), some (.int (Int32.ofNat i))], [], M) K := by
  refine hI _ ?_
  intro tr nu la me tc ts P tx n it fa nx pl ki va tw nu3 la3 me3 tc3 ts3 pe3 rn pr pv sa pd lo bo co sh se si er of_ bi bt so nu5 la5 me5 tc5 ts5 pe5 R6 k7 R8 k9 R10 nr ho ou rc fr cl C bw br le mnx mtk mpl mva mfa mdp mtx mnu mdn mla mme mtc mts m3a m3b m3c m3d mpr mpv msa mpd mlo mbo mco msh mse msi mer mof msp mke mik mbi mbt mso mou N S hM cP cn cC cr cN c0 cS c9 cu cm cl1 cl2 cl3 cl4 cla ct cR ci1 ci2 ccl cnr cho
  subst hM
  obtain ⟨-, rfl, rfl, rfl, rfl, rfl, b1, b2, b3, b4, b5, b6, b7⟩ := cR
  have m0 : mnu 0 = Int32.ofNat N := (cm 0 (by omega)).symm.trans c0
  have m9 : mnu 9 = Int32.ofNat S := (cm 9 (by omega)).symm.trans c9
  have m7 : 0 ≤ mnu 7 := by rw [← cm 7 (by omega)]; exact (cu 7 (by omega) (by omega)).1
  have mla_ : ∀ q, q < P → mla q = 0 ∨ mla q = 1 ∨ mla q = 2 ∨ mla q = 3 ∨ mla q = 4 := fun q hq => by rw [← cl1 q hq]; exact cla q hq
  obtain ⟨w1, hw1⟩ : ∃ w, sc.2 (Int32.ofNat i + 1).toNatClampNeg = w := ⟨_, rfl⟩
  obtain ⟨w2, hw2⟩ : ∃ w, sc.2 (Int32.ofNat i + 2).toNatClampNeg = w := ⟨_, rfl⟩
  rcases Classical.em ((0 ≤ w1 ∧ w1 ≤ nu 0) ∧ (0 ≤ w2 ∧ w2 ≤ 279)) with hh | hh
  · skip
    have h := hh.1
    rw [c0] at h
    obtain ⟨m, hm, rfl⟩ := am_rng (by omega) h
    have hD : mnu 0 - Int32.ofNat m = Int32.ofNat (N - m) := by rw [m0, am_sub_ofN hm (by omega)]
    have hh1 : 0 ≤ Int32.ofNat m ∧ Int32.ofNat m ≤ mnu 0 := by rw [← cm 0 (by omega)]; exact hh.1
    refine am_Rn.go (t := am_t171) rfl 11 rfl ⟨trivial, trivial, trivial, trivial, trivial, (by exact am_inbS1 (by omega) hL), trivial, trivial, trivial, trivial, (by exact am_inbS2 (by omega) hL), trivial⟩ ?_
    show am_Rn sc 171 (169, _, [.int (sc.2 (Int32.ofNat i + 2).toNatClampNeg), .int (sc.2 (Int32.ofNat i + 1).toNatClampNeg), .ref 0], _) _
    rw [hw1, hw2]
    refine am_Rn.call (t := am_t171) rfl rfl (sx_odds (hP := cP) (N := N) (h0 := c0) (hN := cN) ..) ?_
    rintro _ _ ⟨rfl, rfl⟩
    refine am_Rn.go (t := am_t171) rfl 11 rfl ⟨trivial, trivial, trivial, trivial, trivial, (by exact am_inbS1 (by omega) hL), trivial, trivial, trivial, trivial, (by exact am_inbS2 (by omega) hL), trivial⟩ ?_
    show am_Rn sc 171 (181, _, [.int (sc.2 (Int32.ofNat i + 2).toNatClampNeg), .int (sc.2 (Int32.ofNat i + 1).toNatClampNeg), .ref 416, _], _) _
    rw [hw1, hw2]
    refine am_Rn.call (t := am_t171) rfl rfl (mm_odds_T (D := N - m) (hD := by omega) (hDD := hD) (h1 := hh1) (h2 := hh.2) ..) ?_
    rintro _ _ ⟨rfl, rfl⟩
    refine am_Rn.go (t := am_t171) rfl 1 rfl ⟨trivial, trivial⟩ ?_
    refine am_Rn.brT (by rw [an_odds_c cm]; unfold an_odds; rw [if_pos hh1, if_pos hh.2, hD, am_tn (N - m) (by omega)]) ?_
    exact hk _ (am_Inv_mk (P := P) (n := n) (rn := rn) (C := C) (N := N) (S := S) cP cn cC cr cN c0 cS c9 cu cm cl1 cl2 cl3 cl4 cla ct ⟨rfl, rfl, rfl, rfl, rfl, rfl, b1, b2, b3, b4, b5, b6, b7⟩ ci1 ci2 ccl cnr cho)
  · skip
    refine am_Rn.go (t := am_t171) rfl 11 rfl ⟨trivial, trivial, trivial, trivial, trivial, (by exact am_inbS1 (by omega) hL), trivial, trivial, trivial, trivial, (by exact am_inbS2 (by omega) hL), trivial⟩ ?_
    show am_Rn sc 171 (169, _, [.int (sc.2 (Int32.ofNat i + 2).toNatClampNeg), .int (sc.2 (Int32.ofNat i + 1).toNatClampNeg), .ref 0], _) _
    rw [hw1, hw2]
    refine am_Rn.call (t := am_t171) rfl rfl (sx_odds (hP := cP) (N := N) (h0 := c0) (hN := cN) ..) ?_
    rintro _ _ ⟨rfl, rfl⟩
    refine am_Rn.go (t := am_t171) rfl 11 rfl ⟨trivial, trivial, trivial, trivial, trivial, (by exact am_inbS1 (by omega) hL), trivial, trivial, trivial, trivial, (by exact am_inbS2 (by omega) hL), trivial⟩ ?_
    show am_Rn sc 171 (181, _, [.int (sc.2 (Int32.ofNat i + 2).toNatClampNeg), .int (sc.2 (Int32.ofNat i + 1).toNatClampNeg), .ref 416, _], _) _
    rw [hw1, hw2]
    refine am_Rn.call (t := am_t171) rfl rfl (mm_odds_F (hw := by rw [← cm 0 (by omega)]; exact hh) ..) ?_
    rintro _ _ ⟨rfl, rfl⟩
    refine am_Rn.go (t := am_t171) rfl 1 rfl ⟨trivial, trivial⟩ ?_
    refine am_Rn.brT (an_odds_no hh) ?_
    exact hk _ (am_Inv_mk (P := P) (n := n) (rn := rn) (C := C) (N := N) (S := S) cP cn cC cr cN c0 cS c9 cu cm cl1 cl2 cl3 cl4 cla ct ⟨rfl, rfl, rfl, rfl, rfl, rfl, b1, b2, b3, b4, b5, b6, b7⟩ ci1 ci2 ccl cnr cho)
set_option maxHeartbeats 400000 in
theorem am_op7 (sc : am_Sc) (i : Nat) (hi : i + 4 ≤ sc.1) (hL : sc.1 ≤ 2048) (K : Option Value → am_M → Prop) (M : am_M) (hI : am_Inv M) (hk : ∀ M, am_Inv M → am_Rn sc 171 (674, [some (.ref 1030), some (.ref 0), some (.ref 416), some (.int (Int32.ofNat i))], [], M) K) : am_Rn sc 171 (185, [some (.ref 1030), some (.ref 0), some (.ref 416), some (.int (Int32.ofNat i))], [], M) K := by
  refine hI _ ?_
  intro tr nu la me tc ts P tx n it fa nx pl ki va tw nu3 la3 me3 tc3 ts3 pe3 rn pr pv sa pd lo bo co sh se si er of_ bi bt so nu5 la5 me5 tc5 ts5 pe5 R6 k7 R8 k9 R10 nr ho ou rc fr cl C bw br le mnx mtk mpl mva mfa mdp mtx mnu mdn mla mme mtc mts m3a m3b m3c m3d mpr mpv msa mpd mlo mbo mco msh mse msi mer mof msp mke mik mbi mbt mso mou N S hM cP cn cC cr cN c0 cS c9 cu cm cl1 cl2 cl3 cl4 cla ct cR ci1 ci2 ccl cnr cho
  subst hM
  obtain ⟨-, rfl, rfl, rfl, rfl, rfl, b1, b2, b3, b4, b5, b6, b7⟩ := cR
  have m0 : mnu 0 = Int32.ofNat N := (cm 0 (by omega)).symm.trans c0
  have m9 : mnu 9 = Int32.ofNat S := (cm 9 (by omega)).symm.trans c9
  have m7 : 0 ≤ mnu 7 := by rw [← cm 7 (by omega)]; exact (cu 7 (by omega) (by omega)).1
  have mla_ : ∀ q, q < P → mla q = 0 ∨ mla q = 1 ∨ mla q = 2 ∨ mla q = 3 ∨ mla q = 4 := fun q hq => by rw [← cl1 q hq]; exact cla q hq
  obtain ⟨w1, hw1⟩ : ∃ w, sc.2 (Int32.ofNat i + 1).toNatClampNeg = w := ⟨_, rfl⟩
  rcases Classical.em (1 ≤ w1 ∧ w1 ≤ 20) with h | h
  · skip
    obtain ⟨G, h20, rfl⟩ := am_rng (k := 20) (by omega) ⟨Int32.le_trans (by decide) h.1, h.2⟩
    have h1 : 1 ≤ G := (am_le (i := 1) (by omega) (by omega)).mp h.1
    rcases Classical.em (N ≤ rn) with hov | hov
    · skip
      refine am_Rn.go (t := am_t171) rfl 6 rfl ⟨trivial, trivial, trivial, trivial, trivial, (by exact am_inbS1 (by omega) hL), trivial⟩ ?_
      show am_Rn sc 171 (191, _, [.int (sc.2 (Int32.ofNat i + 1).toNatClampNeg), .ref 0], _) _
      rw [hw1]
      refine am_Rn.call (t := am_t171) rfl rfl (sx_go_S (hP := cP) (hv := h) (N := N) (h0 := c0) (hN := cN) (hr := cr) (hov := hov) ..) ?_
      rintro _ _ ⟨rfl, rfl⟩
      refine am_Rn.go (t := am_t171) rfl 6 rfl ⟨trivial, trivial, trivial, trivial, trivial, (by exact am_inbS1 (by omega) hL), trivial⟩ ?_
      show am_Rn sc 171 (198, _, [.int (sc.2 (Int32.ofNat i + 1).toNatClampNeg), .ref 416, _], _) _
      rw [hw1]
      refine am_Rn.call (t := am_t171) rfl rfl (mm_go_S (hv := h) (N := N) (rn := rn) (h0 := m0) (hN := cN) (hr := cr) (hov := hov) ..) ?_
      rintro _ _ ⟨rfl, rfl⟩
      refine am_Rn.go (t := am_t171) rfl 1 rfl ⟨trivial, trivial⟩ ?_
      refine am_Rn.brT rfl ?_
      exact hk _ (am_Inv_mk (P := P) (n := n) (rn := rn) (C := C) (N := N) (S := S) cP cn cC cr cN c0 cS c9 cu cm cl1 cl2 cl3 cl4 cla ct ⟨rfl, rfl, rfl, rfl, rfl, rfl, b1, b2, b3, b4, b5, b6, b7⟩ ci1 ci2 ccl cnr cho)
    · skip
      have hpc := sp_play_c (N := N) (S := S) cm cl1 cl2 G rn (R := (Int32.ofNat rn, pr, pv, sa, pd, lo, bo, co, sh, se, si, er, of_, bi, bt, so)) (R' := (Int32.ofNat rn, pr, pv, sa, pd, lo, mbo, mco, msh, mse, msi, mer, mof, mbi, mbt, mso)) ⟨rfl, rfl, rfl, rfl, rfl, rfl, b1, b2, b3, b4, b5, b6, b7⟩
      have hrd := sp_play_rd nu la me P N S G rn (Int32.ofNat rn, pr, pv, sa, pd, lo, bo, co, sh, se, si, er, of_, bi, bt, so) rfl
      rcases hX : sp_play nu la me P N S G rn (Int32.ofNat rn, pr, pv, sa, pd, lo, bo, co, sh, se, si, er, of_, bi, bt, so) with ⟨wx, rd2, pr2, pv2, sa2, pd2, lo2, bo2, co2, sh2, se2, si2, er2, of2, bi2, bt2, so2⟩
      rcases hM : sp_play mnu mla mme P N S G rn (Int32.ofNat rn, pr, pv, sa, pd, lo, mbo, mco, msh, mse, msi, mer, mof, mbi, mbt, mso) with ⟨wm, rd3, pr3, pv3, sa3, pd3, lo3, bo3, co3, sh3, se3, si3, er3, of3, bi3, bt3, so3⟩
      rw [hX, hM] at hpc
      rw [hX] at hrd
      obtain ⟨e0, e1, e2, e3, e4, e5, e6, d1, d2, d3, d4, d5, d6, d7⟩ := hpc
      obtain ⟨f1, f2, -⟩ := hrd
      dsimp only at e0 f1 f2
      subst e0 e1 e2 e3 e4 e5 e6
      subst f1
      refine am_Rn.go (t := am_t171) rfl 6 rfl ⟨trivial, trivial, trivial, trivial, trivial, (by exact am_inbS1 (by omega) hL), trivial⟩ ?_
      show am_Rn sc 171 (191, _, [.int (sc.2 (Int32.ofNat i + 1).toNatClampNeg), .ref 0], _) _
      rw [hw1]
      refine am_Rn.call (t := am_t171) rfl rfl (sx_go_T (G := G) (hP := cP) (N := N) (S := S) (hN := cN) (h0 := c0) (hS := cS) (h9 := c9) (hG1 := h1) (hG := h20) (hr := cr) (hov := hov) ..) ?_
      rintro _ _ ⟨rfl, rfl⟩
      rw [hX]
      refine am_Rn.go (t := am_t171) rfl 6 rfl ⟨trivial, trivial, trivial, trivial, trivial, (by exact am_inbS1 (by omega) hL), trivial⟩ ?_
      show am_Rn sc 171 (198, _, [.int (sc.2 (Int32.ofNat i + 1).toNatClampNeg), .ref 416, _], _) _
      rw [hw1]
      refine am_Rn.call (t := am_t171) rfl rfl (mm_go_T (hP := cP) (N := N) (S := S) (hN := cN) (h0 := m0) (hS := cS) (h9 := m9) (h7 := m7) (hla := mla_) (rn := rn) (G := G) (hG := h20) (hG1 := h1) (hr := by omega) ..) ?_
      rintro _ _ ⟨rfl, rfl⟩
      rw [hM]
      refine am_Rn.go (t := am_t171) rfl 1 rfl ⟨trivial, trivial⟩ ?_
      refine am_Rn.brT rfl ?_
      exact hk _ (am_Inv_mk (P := P) (n := n) (rn := rn + wx) (C := C) (N := N) (S := S) cP cn cC (f2 cr) cN c0 cS c9 cu cm cl1 cl2 cl3 cl4 cla ct ⟨rfl, rfl, rfl, rfl, rfl, rfl, d1, d2, d3, d4, d5, d6, d7⟩ ci1 ci2 ccl cnr cho)
  · skip
    refine am_Rn.go (t := am_t171) rfl 6 rfl ⟨trivial, trivial, trivial, trivial, trivial, (by exact am_inbS1 (by omega) hL), trivial⟩ ?_
    show am_Rn sc 171 (191, _, [.int (sc.2 (Int32.ofNat i + 1).toNatClampNeg), .ref 0], _) _
    rw [hw1]
    refine am_Rn.call (t := am_t171) rfl rfl (sx_go_F (hv := h) ..) ?_
    rintro _ _ ⟨rfl, rfl⟩
    refine am_Rn.go (t := am_t171) rfl 6 rfl ⟨trivial, trivial, trivial, trivial, trivial, (by exact am_inbS1 (by omega) hL), trivial⟩ ?_
    show am_Rn sc 171 (198, _, [.int (sc.2 (Int32.ofNat i + 1).toNatClampNeg), .ref 416, _], _) _
    rw [hw1]
    refine am_Rn.call (t := am_t171) rfl rfl (mm_go_F (hv := h) ..) ?_
    rintro _ _ ⟨rfl, rfl⟩
    refine am_Rn.go (t := am_t171) rfl 1 rfl ⟨trivial, trivial⟩ ?_
    refine am_Rn.brT rfl ?_
    exact hk _ (am_Inv_mk (P := P) (n := n) (rn := rn) (C := C) (N := N) (S := S) cP cn cC cr cN c0 cS c9 cu cm cl1 cl2 cl3 cl4 cla ct ⟨rfl, rfl, rfl, rfl, rfl, rfl, b1, b2, b3, b4, b5, b6, b7⟩ ci1 ci2 ccl cnr cho)
set_option maxHeartbeats 400000 in
theorem am_op8 (sc : am_Sc) (i : Nat) (hi : i + 4 ≤ sc.1) (hL : sc.1 ≤ 2048) (K : Option Value → am_M → Prop) (M : am_M) (hI : am_Inv M) (hk : ∀ M, am_Inv M → am_Rn sc 171 (674, [some (.ref 1030), some (.ref 0), some (.ref 416), some (.int (Int32.ofNat i))], [], M) K) : am_Rn sc 171 (202, [some (.ref 1030), some (.ref 0), some (.ref 416), some (.int (Int32.ofNat i))], [], M) K := by
  refine hI _ ?_
  intro tr nu la me tc ts P tx n it fa nx pl ki va tw nu3 la3 me3 tc3 ts3 pe3 rn pr pv sa pd lo bo co sh se si er of_ bi bt so nu5 la5 me5 tc5 ts5 pe5 R6 k7 R8 k9 R10 nr ho ou rc fr cl C bw br le mnx mtk mpl mva mfa mdp mtx mnu mdn mla mme mtc mts m3a m3b m3c m3d mpr mpv msa mpd mlo mbo mco msh mse msi mer mof msp mke mik mbi mbt mso mou N S hM cP cn cC cr cN c0 cS c9 cu cm cl1 cl2 cl3 cl4 cla ct cR ci1 ci2 ccl cnr cho
  subst hM
  obtain ⟨-, rfl, rfl, rfl, rfl, rfl, b1, b2, b3, b4, b5, b6, b7⟩ := cR
  have m0 : mnu 0 = Int32.ofNat N := (cm 0 (by omega)).symm.trans c0
  have m9 : mnu 9 = Int32.ofNat S := (cm 9 (by omega)).symm.trans c9
  have m7 : 0 ≤ mnu 7 := by rw [← cm 7 (by omega)]; exact (cu 7 (by omega) (by omega)).1
  have mla_ : ∀ q, q < P → mla q = 0 ∨ mla q = 1 ∨ mla q = 2 ∨ mla q = 3 ∨ mla q = 4 := fun q hq => by rw [← cl1 q hq]; exact cla q hq
  obtain ⟨w1, hw1⟩ : ∃ w, sc.2 (Int32.ofNat i + 1).toNatClampNeg = w := ⟨_, rfl⟩
  refine am_Rn.go (t := am_t171) rfl 6 rfl ⟨trivial, trivial, trivial, trivial, trivial, (by exact am_inbS1 (by omega) hL), trivial⟩ ?_
  show am_Rn sc 171 (208, _, [.int (sc.2 (Int32.ofNat i + 1).toNatClampNeg), .ref 0], _) _
  rw [hw1]
  refine am_Rn.call (t := am_t171) rfl rfl (sx_now (hP := cP) (N := N) (h0 := c0) (hN := cN) (hr := cr) ..) ?_
  rintro _ _ ⟨rfl, rfl⟩
  refine am_Rn.go (t := am_t171) rfl 6 rfl ⟨trivial, trivial, trivial, trivial, trivial, (by exact am_inbS1 (by omega) hL), trivial⟩ ?_
  show am_Rn sc 171 (215, _, [.int (sc.2 (Int32.ofNat i + 1).toNatClampNeg), .ref 416, _], _) _
  rw [hw1]
  refine am_Rn.call (t := am_t171) rfl rfl (mm_now (N := N) (rn := rn) (h0 := m0) (hN := cN) (hr := cr) ..) ?_
  rintro _ _ ⟨rfl, rfl⟩
  refine am_Rn.go (t := am_t171) rfl 1 rfl ⟨trivial, trivial⟩ ?_
  refine am_Rn.brT rfl ?_
  exact hk _ (am_Inv_mk (P := P) (n := n) (rn := rn) (C := C) (N := N) (S := S) cP cn cC cr cN c0 cS c9 cu cm cl1 cl2 cl3 cl4 cla ct ⟨rfl, rfl, rfl, rfl, rfl, rfl, b1, b2, b3, b4, b5, b6, b7⟩ ci1 ci2 ccl cnr cho)
set_option maxHeartbeats 400000 in
theorem am_op9 (sc : am_Sc) (i : Nat) (hi : i + 4 ≤ sc.1) (hL : sc.1 ≤ 2048) (K : Option Value → am_M → Prop) (M : am_M) (hI : am_Inv M) (hk : ∀ M, am_Inv M → am_Rn sc 171 (674, [some (.ref 1030), some (.ref 0), some (.ref 416), some (.int (Int32.ofNat i))], [], M) K) : am_Rn sc 171 (219, [some (.ref 1030), some (.ref 0), some (.ref 416), some (.int (Int32.ofNat i))], [], M) K := by
  refine hI _ ?_
  intro tr nu la me tc ts P tx n it fa nx pl ki va tw nu3 la3 me3 tc3 ts3 pe3 rn pr pv sa pd lo bo co sh se si er of_ bi bt so nu5 la5 me5 tc5 ts5 pe5 R6 k7 R8 k9 R10 nr ho ou rc fr cl C bw br le mnx mtk mpl mva mfa mdp mtx mnu mdn mla mme mtc mts m3a m3b m3c m3d mpr mpv msa mpd mlo mbo mco msh mse msi mer mof msp mke mik mbi mbt mso mou N S hM cP cn cC cr cN c0 cS c9 cu cm cl1 cl2 cl3 cl4 cla ct cR ci1 ci2 ccl cnr cho
  subst hM
  obtain ⟨-, rfl, rfl, rfl, rfl, rfl, b1, b2, b3, b4, b5, b6, b7⟩ := cR
  have m0 : mnu 0 = Int32.ofNat N := (cm 0 (by omega)).symm.trans c0
  have m9 : mnu 9 = Int32.ofNat S := (cm 9 (by omega)).symm.trans c9
  have m7 : 0 ≤ mnu 7 := by rw [← cm 7 (by omega)]; exact (cu 7 (by omega) (by omega)).1
  have mla_ : ∀ q, q < P → mla q = 0 ∨ mla q = 1 ∨ mla q = 2 ∨ mla q = 3 ∨ mla q = 4 := fun q hq => by rw [← cl1 q hq]; exact cla q hq
  obtain ⟨w1, hw1⟩ : ∃ w, sc.2 (Int32.ofNat i + 1).toNatClampNeg = w := ⟨_, rfl⟩
  refine am_Rn.go (t := am_t171) rfl 6 rfl ⟨trivial, trivial, trivial, trivial, trivial, (by exact am_inbS1 (by omega) hL), trivial⟩ ?_
  show am_Rn sc 171 (225, _, [.int (sc.2 (Int32.ofNat i + 1).toNatClampNeg), .ref 0], _) _
  rw [hw1]
  refine am_Rn.call (t := am_t171) rfl rfl (sx_board (hP := cP) (hr := by omega) ..) ?_
  rintro _ _ ⟨rfl, rfl⟩
  refine am_Rn.go (t := am_t171) rfl 6 rfl ⟨trivial, trivial, trivial, trivial, trivial, (by exact am_inbS1 (by omega) hL), trivial⟩ ?_
  show am_Rn sc 171 (232, _, [.int (sc.2 (Int32.ofNat i + 1).toNatClampNeg), .ref 416, _], _) _
  rw [hw1]
  refine am_Rn.call (t := am_t171) rfl rfl (mm_board (rn := rn) (hr := by omega) ..) ?_
  rintro _ _ ⟨rfl, rfl⟩
  refine am_Rn.go (t := am_t171) rfl 1 rfl ⟨trivial, trivial⟩ ?_
  refine am_Rn.brT (an_board_c (by omega) b1 w1) ?_
  exact hk _ (am_Inv_mk (P := P) (n := n) (rn := rn) (C := C) (N := N) (S := S) cP cn cC cr cN c0 cS c9 cu cm cl1 cl2 cl3 cl4 cla ct ⟨rfl, rfl, rfl, rfl, rfl, rfl, b1, b2, b3, b4, b5, b6, b7⟩ ci1 ci2 ccl cnr cho)
set_option maxHeartbeats 400000 in
theorem am_op10 (sc : am_Sc) (i : Nat) (hi : i + 4 ≤ sc.1) (hL : sc.1 ≤ 2048) (K : Option Value → am_M → Prop) (M : am_M) (hI : am_Inv M) (hk : ∀ M, am_Inv M → am_Rn sc 171 (674, [some (.ref 1030), some (.ref 0), some (.ref 416), some (.int (Int32.ofNat i))], [], M) K) : am_Rn sc 171 (236, [some (.ref 1030), some (.ref 0), some (.ref 416), some (.int (Int32.ofNat i))], [], M) K := by
  refine hI _ ?_
  intro tr nu la me tc ts P tx n it fa nx pl ki va tw nu3 la3 me3 tc3 ts3 pe3 rn pr pv sa pd lo bo co sh se si er of_ bi bt so nu5 la5 me5 tc5 ts5 pe5 R6 k7 R8 k9 R10 nr ho ou rc fr cl C bw br le mnx mtk mpl mva mfa mdp mtx mnu mdn mla mme mtc mts m3a m3b m3c m3d mpr mpv msa mpd mlo mbo mco msh mse msi mer mof msp mke mik mbi mbt mso mou N S hM cP cn cC cr cN c0 cS c9 cu cm cl1 cl2 cl3 cl4 cla ct cR ci1 ci2 ccl cnr cho
  subst hM
  obtain ⟨-, rfl, rfl, rfl, rfl, rfl, b1, b2, b3, b4, b5, b6, b7⟩ := cR
  have m0 : mnu 0 = Int32.ofNat N := (cm 0 (by omega)).symm.trans c0
  have m9 : mnu 9 = Int32.ofNat S := (cm 9 (by omega)).symm.trans c9
  have m7 : 0 ≤ mnu 7 := by rw [← cm 7 (by omega)]; exact (cu 7 (by omega) (by omega)).1
  have mla_ : ∀ q, q < P → mla q = 0 ∨ mla q = 1 ∨ mla q = 2 ∨ mla q = 3 ∨ mla q = 4 := fun q hq => by rw [← cl1 q hq]; exact cla q hq
  obtain ⟨w1, hw1⟩ : ∃ w, sc.2 (Int32.ofNat i + 1).toNatClampNeg = w := ⟨_, rfl⟩
  refine am_Rn.go (t := am_t171) rfl 6 rfl ⟨trivial, trivial, trivial, trivial, trivial, (by exact am_inbS1 (by omega) hL), trivial⟩ ?_
  show am_Rn sc 171 (242, _, [.int (sc.2 (Int32.ofNat i + 1).toNatClampNeg), .ref 0], _) _
  rw [hw1]
  refine am_Rn.call (t := am_t171) rfl rfl (sx_high (hP := cP) (hr := by omega) ..) ?_
  rintro _ _ ⟨rfl, rfl⟩
  refine am_Rn.go (t := am_t171) rfl 6 rfl ⟨trivial, trivial, trivial, trivial, trivial, (by exact am_inbS1 (by omega) hL), trivial⟩ ?_
  show am_Rn sc 171 (249, _, [.int (sc.2 (Int32.ofNat i + 1).toNatClampNeg), .ref 416, _], _) _
  rw [hw1]
  refine am_Rn.call (t := am_t171) rfl rfl (mm_high (rn := rn) (hr := by omega) ..) ?_
  rintro _ _ ⟨rfl, rfl⟩
  refine am_Rn.go (t := am_t171) rfl 1 rfl ⟨trivial, trivial⟩ ?_
  refine am_Rn.brT (an_high_c (by omega) cm b1 w1) ?_
  exact hk _ (am_Inv_mk (P := P) (n := n) (rn := rn) (C := C) (N := N) (S := S) cP cn cC cr cN c0 cS c9 cu cm cl1 cl2 cl3 cl4 cla ct ⟨rfl, rfl, rfl, rfl, rfl, rfl, b1, b2, b3, b4, b5, b6, b7⟩ ci1 ci2 ccl cnr cho)
set_option maxHeartbeats 400000 in
theorem am_op11 (sc : am_Sc) (i : Nat) (hi : i + 4 ≤ sc.1) (hL : sc.1 ≤ 2048) (K : Option Value → am_M → Prop) (M : am_M) (hI : am_Inv M) (hk : ∀ M, am_Inv M → am_Rn sc 171 (674, [some (.ref 1030), some (.ref 0), some (.ref 416), some (.int (Int32.ofNat i))], [], M) K) : am_Rn sc 171 (253, [some (.ref 1030), some (.ref 0), some (.ref 416), some (.int (Int32.ofNat i))], [], M) K := by
  refine hI _ ?_
  intro tr nu la me tc ts P tx n it fa nx pl ki va tw nu3 la3 me3 tc3 ts3 pe3 rn pr pv sa pd lo bo co sh se si er of_ bi bt so nu5 la5 me5 tc5 ts5 pe5 R6 k7 R8 k9 R10 nr ho ou rc fr cl C bw br le mnx mtk mpl mva mfa mdp mtx mnu mdn mla mme mtc mts m3a m3b m3c m3d mpr mpv msa mpd mlo mbo mco msh mse msi mer mof msp mke mik mbi mbt mso mou N S hM cP cn cC cr cN c0 cS c9 cu cm cl1 cl2 cl3 cl4 cla ct cR ci1 ci2 ccl cnr cho
  subst hM
  obtain ⟨-, rfl, rfl, rfl, rfl, rfl, b1, b2, b3, b4, b5, b6, b7⟩ := cR
  have m0 : mnu 0 = Int32.ofNat N := (cm 0 (by omega)).symm.trans c0
  have m9 : mnu 9 = Int32.ofNat S := (cm 9 (by omega)).symm.trans c9
  have m7 : 0 ≤ mnu 7 := by rw [← cm 7 (by omega)]; exact (cu 7 (by omega) (by omega)).1
  have mla_ : ∀ q, q < P → mla q = 0 ∨ mla q = 1 ∨ mla q = 2 ∨ mla q = 3 ∨ mla q = 4 := fun q hq => by rw [← cl1 q hq]; exact cla q hq
  obtain ⟨w1, hw1⟩ : ∃ w, sc.2 (Int32.ofNat i + 1).toNatClampNeg = w := ⟨_, rfl⟩
  rcases Classical.em (0 ≤ w1 ∧ w1 ≤ Int32.ofNat P - 1) with hp | hp
  · skip
    obtain ⟨q, hq, rfl⟩ := am_pers cP hp
    rcases Classical.em (N ≤ rn) with hov | hov
    · skip
      refine am_Rn.go (t := am_t171) rfl 6 rfl ⟨trivial, trivial, trivial, trivial, trivial, (by exact am_inbS1 (by omega) hL), trivial⟩ ?_
      show am_Rn sc 171 (259, _, [.int (sc.2 (Int32.ofNat i + 1).toNatClampNeg), .ref 0], _) _
      rw [hw1]
      refine am_Rn.call (t := am_t171) rfl rfl (sx_gain_T (hP := cP) (q := q) (hq := hq) (N := N) (h0 := c0) (hN := cN) (hr := cr) (hov := hov) ..) ?_
      rintro _ _ ⟨rfl, rfl⟩
      refine am_Rn.go (t := am_t171) rfl 6 rfl ⟨trivial, trivial, trivial, trivial, trivial, (by exact am_inbS1 (by omega) hL), trivial⟩ ?_
      show am_Rn sc 171 (266, _, [.int (sc.2 (Int32.ofNat i + 1).toNatClampNeg), .ref 416, _], _) _
      rw [hw1]
      refine am_Rn.call (t := am_t171) rfl rfl (mm_gain_T (hP := cP) (q := q) (hq := hq) (N := N) (rn := rn) (h0 := m0) (hN := cN) (hr := cr) (hov := hov) ..) ?_
      rintro _ _ ⟨rfl, rfl⟩
      refine am_Rn.go (t := am_t171) rfl 1 rfl ⟨trivial, trivial⟩ ?_
      refine am_Rn.brT (by rw [b2 q hq, cl3 q hq, cl4 q hq]) ?_
      exact hk _ (am_Inv_mk (P := P) (n := n) (rn := rn) (C := C) (N := N) (S := S) cP cn cC cr cN c0 cS c9 cu cm cl1 cl2 cl3 cl4 cla ct ⟨rfl, rfl, rfl, rfl, rfl, rfl, b1, b2, b3, b4, b5, b6, b7⟩ ci1 ci2 ccl cnr cho)
    · skip
      refine am_Rn.go (t := am_t171) rfl 6 rfl ⟨trivial, trivial, trivial, trivial, trivial, (by exact am_inbS1 (by omega) hL), trivial⟩ ?_
      show am_Rn sc 171 (259, _, [.int (sc.2 (Int32.ofNat i + 1).toNatClampNeg), .ref 0], _) _
      rw [hw1]
      refine am_Rn.call (t := am_t171) rfl rfl (sx_gain_N (hP := cP) (q := q) (hq := hq) (N := N) (h0 := c0) (hN := cN) (hr := cr) (hov := hov) ..) ?_
      rintro _ _ ⟨rfl, rfl⟩
      refine am_Rn.go (t := am_t171) rfl 6 rfl ⟨trivial, trivial, trivial, trivial, trivial, (by exact am_inbS1 (by omega) hL), trivial⟩ ?_
      show am_Rn sc 171 (266, _, [.int (sc.2 (Int32.ofNat i + 1).toNatClampNeg), .ref 416, _], _) _
      rw [hw1]
      refine am_Rn.call (t := am_t171) rfl rfl (mm_gain_N (hP := cP) (q := q) (hq := hq) (N := N) (rn := rn) (h0 := m0) (hN := cN) (hr := cr) (hov := hov) ..) ?_
      rintro _ _ ⟨rfl, rfl⟩
      refine am_Rn.go (t := am_t171) rfl 1 rfl ⟨trivial, trivial⟩ ?_
      refine am_Rn.brT rfl ?_
      exact hk _ (am_Inv_mk (P := P) (n := n) (rn := rn) (C := C) (N := N) (S := S) cP cn cC cr cN c0 cS c9 cu cm cl1 cl2 cl3 cl4 cla ct ⟨rfl, rfl, rfl, rfl, rfl, rfl, b1, b2, b3, b4, b5, b6, b7⟩ ci1 ci2 ccl cnr cho)
  · skip
    refine am_Rn.go (t := am_t171) rfl 6 rfl ⟨trivial, trivial, trivial, trivial, trivial, (by exact am_inbS1 (by omega) hL), trivial⟩ ?_
    show am_Rn sc 171 (259, _, [.int (sc.2 (Int32.ofNat i + 1).toNatClampNeg), .ref 0], _) _
    rw [hw1]
    refine am_Rn.call (t := am_t171) rfl rfl (sx_gain_F (hP := cP) (hp := hp) ..) ?_
    rintro _ _ ⟨rfl, rfl⟩
    refine am_Rn.go (t := am_t171) rfl 6 rfl ⟨trivial, trivial, trivial, trivial, trivial, (by exact am_inbS1 (by omega) hL), trivial⟩ ?_
    show am_Rn sc 171 (266, _, [.int (sc.2 (Int32.ofNat i + 1).toNatClampNeg), .ref 416, _], _) _
    rw [hw1]
    refine am_Rn.call (t := am_t171) rfl rfl (mm_gain_F (hP := cP) (hp := hp) ..) ?_
    rintro _ _ ⟨rfl, rfl⟩
    refine am_Rn.go (t := am_t171) rfl 1 rfl ⟨trivial, trivial⟩ ?_
    refine am_Rn.brT rfl ?_
    exact hk _ (am_Inv_mk (P := P) (n := n) (rn := rn) (C := C) (N := N) (S := S) cP cn cC cr cN c0 cS c9 cu cm cl1 cl2 cl3 cl4 cla ct ⟨rfl, rfl, rfl, rfl, rfl, rfl, b1, b2, b3, b4, b5, b6, b7⟩ ci1 ci2 ccl cnr cho)
set_option maxHeartbeats 400000 in
theorem am_op12 (sc : am_Sc) (i : Nat) (hi : i + 4 ≤ sc.1) (hL : sc.1 ≤ 2048) (K : Option Value → am_M → Prop) (M : am_M) (hI : am_Inv M) (hk : ∀ M, am_Inv M → am_Rn sc 171 (674, [some (.ref 1030), some (.ref 0), some (.ref 416), some (.int (Int32.ofNat i))], [], M) K) : am_Rn sc 171 (270, [some (.ref 1030), some (.ref 0), some (.ref 416), some (.int (Int32.ofNat i))], [], M) K := by
  refine hI _ ?_
  intro tr nu la me tc ts P tx n it fa nx pl ki va tw nu3 la3 me3 tc3 ts3 pe3 rn pr pv sa pd lo bo co sh se si er of_ bi bt so nu5 la5 me5 tc5 ts5 pe5 R6 k7 R8 k9 R10 nr ho ou rc fr cl C bw br le mnx mtk mpl mva mfa mdp mtx mnu mdn mla mme mtc mts m3a m3b m3c m3d mpr mpv msa mpd mlo mbo mco msh mse msi mer mof msp mke mik mbi mbt mso mou N S hM cP cn cC cr cN c0 cS c9 cu cm cl1 cl2 cl3 cl4 cla ct cR ci1 ci2 ccl cnr cho
  subst hM
  obtain ⟨-, rfl, rfl, rfl, rfl, rfl, b1, b2, b3, b4, b5, b6, b7⟩ := cR
  have m0 : mnu 0 = Int32.ofNat N := (cm 0 (by omega)).symm.trans c0
  have m9 : mnu 9 = Int32.ofNat S := (cm 9 (by omega)).symm.trans c9
  have m7 : 0 ≤ mnu 7 := by rw [← cm 7 (by omega)]; exact (cu 7 (by omega) (by omega)).1
  have mla_ : ∀ q, q < P → mla q = 0 ∨ mla q = 1 ∨ mla q = 2 ∨ mla q = 3 ∨ mla q = 4 := fun q hq => by rw [← cl1 q hq]; exact cla q hq
  rcases Classical.em (N ≤ rn) with hov | hov
  · skip
    have hbx := sp_beg_spec tc ts (co, sh, si) 9
    have hbm := sp_beg_spec (sp_cut P mtc) (sp_cut P mts) (mco, msh, msi) 9
    refine am_Rn.go (t := am_t171) rfl 1 rfl ⟨trivial, trivial⟩ ?_
    show am_Rn sc 171 (271, _, [.ref 0], _) _
    refine am_Rn.call (t := am_t171) rfl rfl (sx_again_T (hP := cP) (N := N) (h0 := c0) (hN := cN) (hr := cr) (hov := hov) ..) ?_
    rintro _ _ ⟨rfl, rfl⟩
    refine am_Rn.go (t := am_t171) rfl 1 rfl ⟨trivial, trivial⟩ ?_
    show am_Rn sc 171 (273, _, [.ref 416, _], _) _
    refine am_Rn.call (t := am_t171) rfl rfl (mm_again_T (hP := cP) (N := N) (rn := rn) (h0 := m0) (hN := cN) (hr := cr) (hov := hov) ..) ?_
    rintro _ _ ⟨rfl, rfl⟩
    refine am_Rn.go (t := am_t171) rfl 1 rfl ⟨trivial, trivial⟩ ?_
    refine am_Rn.brT rfl ?_
    exact hk _ (am_Inv_mk (P := P) (n := n) (rn := 0) (C := C) (N := N) (S := S) cP cn cC (Nat.zero_le N) cN c0 cS c9 cu cm cl1 cl2 cl3 cl4 cla ct ⟨rfl, cm 4 (by omega), cm 4 (by omega), rfl, rfl, rfl, b1, fun p hp => (hbx p (by omega)).1.trans ((cl3 p hp).trans ((if_pos hp).symm.trans (hbm p (by omega)).1.symm)), fun p hp => (hbx p (by omega)).2.1.trans ((cl4 p hp).trans ((if_pos hp).symm.trans (hbm p (by omega)).2.1.symm)), fun p hp => by rw [sp_inc_spec, sp_inc_spec, if_pos hp, if_pos hp, b4 p hp], fun p hp => (hbx p (by omega)).2.2.trans (hbm p (by omega)).2.2.symm, b6, b7⟩ ci1 ci2 ccl cnr cho)
  · skip
    refine am_Rn.go (t := am_t171) rfl 1 rfl ⟨trivial, trivial⟩ ?_
    show am_Rn sc 171 (271, _, [.ref 0], _) _
    refine am_Rn.call (t := am_t171) rfl rfl (sx_again_S (hP := cP) (N := N) (h0 := c0) (hN := cN) (hr := cr) (hov := hov) ..) ?_
    rintro _ _ ⟨rfl, rfl⟩
    refine am_Rn.go (t := am_t171) rfl 1 rfl ⟨trivial, trivial⟩ ?_
    show am_Rn sc 171 (273, _, [.ref 416, _], _) _
    refine am_Rn.call (t := am_t171) rfl rfl (mm_again_S (N := N) (rn := rn) (h0 := m0) (hN := cN) (hr := cr) (hov := hov) ..) ?_
    rintro _ _ ⟨rfl, rfl⟩
    refine am_Rn.go (t := am_t171) rfl 1 rfl ⟨trivial, trivial⟩ ?_
    refine am_Rn.brT rfl ?_
    exact hk _ (am_Inv_mk (P := P) (n := n) (rn := rn) (C := C) (N := N) (S := S) cP cn cC cr cN c0 cS c9 cu cm cl1 cl2 cl3 cl4 cla ct ⟨rfl, rfl, rfl, rfl, rfl, rfl, b1, b2, b3, b4, b5, b6, b7⟩ ci1 ci2 ccl cnr cho)
set_option maxHeartbeats 400000 in
theorem am_op13 (sc : am_Sc) (i : Nat) (hi : i + 4 ≤ sc.1) (hL : sc.1 ≤ 2048) (K : Option Value → am_M → Prop) (M : am_M) (hI : am_Inv M) (hk : ∀ M, am_Inv M → am_Rn sc 171 (674, [some (.ref 1030), some (.ref 0), some (.ref 416), some (.int (Int32.ofNat i))], [], M) K) : am_Rn sc 171 (277, [some (.ref 1030), some (.ref 0), some (.ref 416), some (.int (Int32.ofNat i))], [], M) K := by
  refine hI _ ?_
  intro tr nu la me tc ts P tx n it fa nx pl ki va tw nu3 la3 me3 tc3 ts3 pe3 rn pr pv sa pd lo bo co sh se si er of_ bi bt so nu5 la5 me5 tc5 ts5 pe5 R6 k7 R8 k9 R10 nr ho ou rc fr cl C bw br le mnx mtk mpl mva mfa mdp mtx mnu mdn mla mme mtc mts m3a m3b m3c m3d mpr mpv msa mpd mlo mbo mco msh mse msi mer mof msp mke mik mbi mbt mso mou N S hM cP cn cC cr cN c0 cS c9 cu cm cl1 cl2 cl3 cl4 cla ct cR ci1 ci2 ccl cnr cho
  subst hM
  obtain ⟨-, rfl, rfl, rfl, rfl, rfl, b1, b2, b3, b4, b5, b6, b7⟩ := cR
  have m0 : mnu 0 = Int32.ofNat N := (cm 0 (by omega)).symm.trans c0
  have m9 : mnu 9 = Int32.ofNat S := (cm 9 (by omega)).symm.trans c9
  have m7 : 0 ≤ mnu 7 := by rw [← cm 7 (by omega)]; exact (cu 7 (by omega) (by omega)).1
  have mla_ : ∀ q, q < P → mla q = 0 ∨ mla q = 1 ∨ mla q = 2 ∨ mla q = 3 ∨ mla q = 4 := fun q hq => by rw [← cl1 q hq]; exact cla q hq
  obtain ⟨w1, hw1⟩ : ∃ w, sc.2 (Int32.ofNat i + 1).toNatClampNeg = w := ⟨_, rfl⟩
  rcases Classical.em (0 ≤ w1 ∧ w1 ≤ Int32.ofNat P - 1) with hp | hp
  · skip
    obtain ⟨q, hq, rfl⟩ := am_pers cP hp
    refine am_Rn.go (t := am_t171) rfl 6 rfl ⟨trivial, trivial, trivial, trivial, trivial, (by exact am_inbS1 (by omega) hL), trivial⟩ ?_
    show am_Rn sc 171 (283, _, [.int (sc.2 (Int32.ofNat i + 1).toNatClampNeg), .ref 0], _) _
    rw [hw1]
    refine am_Rn.call (t := am_t171) rfl rfl (sx_renew_T (hP := cP) (q := q) (hq := hq) ..) ?_
    rintro _ _ ⟨rfl, rfl⟩
    refine am_Rn.go (t := am_t171) rfl 6 rfl ⟨trivial, trivial, trivial, trivial, trivial, (by exact am_inbS1 (by omega) hL), trivial⟩ ?_
    show am_Rn sc 171 (290, _, [.int (sc.2 (Int32.ofNat i + 1).toNatClampNeg), .ref 416, _], _) _
    rw [hw1]
    refine am_Rn.call (t := am_t171) rfl rfl (mm_renew_T (hP := cP) (q := q) (hq := hq) ..) ?_
    rintro _ _ ⟨rfl, rfl⟩
    refine am_Rn.go (t := am_t171) rfl 1 rfl ⟨trivial, trivial⟩ ?_
    refine am_Rn.brT (b4 q hq) ?_
    exact hk _ (am_Inv_mk (P := P) (n := n) (rn := rn) (C := C) (N := N) (S := S) cP cn cC cr cN c0 cS c9 cu cm cl1 cl2 cl3 cl4 cla ct ⟨rfl, rfl, rfl, rfl, rfl, rfl, b1, b2, b3, sp_upd_c b4 q rfl, b5, b6, b7⟩ ci1 ci2 ccl cnr cho)
  · skip
    refine am_Rn.go (t := am_t171) rfl 6 rfl ⟨trivial, trivial, trivial, trivial, trivial, (by exact am_inbS1 (by omega) hL), trivial⟩ ?_
    show am_Rn sc 171 (283, _, [.int (sc.2 (Int32.ofNat i + 1).toNatClampNeg), .ref 0], _) _
    rw [hw1]
    refine am_Rn.call (t := am_t171) rfl rfl (sx_renew_F (hP := cP) (hp := hp) ..) ?_
    rintro _ _ ⟨rfl, rfl⟩
    refine am_Rn.go (t := am_t171) rfl 6 rfl ⟨trivial, trivial, trivial, trivial, trivial, (by exact am_inbS1 (by omega) hL), trivial⟩ ?_
    show am_Rn sc 171 (290, _, [.int (sc.2 (Int32.ofNat i + 1).toNatClampNeg), .ref 416, _], _) _
    rw [hw1]
    refine am_Rn.call (t := am_t171) rfl rfl (mm_renew_F (hP := cP) (hp := hp) ..) ?_
    rintro _ _ ⟨rfl, rfl⟩
    refine am_Rn.go (t := am_t171) rfl 1 rfl ⟨trivial, trivial⟩ ?_
    refine am_Rn.brT rfl ?_
    exact hk _ (am_Inv_mk (P := P) (n := n) (rn := rn) (C := C) (N := N) (S := S) cP cn cC cr cN c0 cS c9 cu cm cl1 cl2 cl3 cl4 cla ct ⟨rfl, rfl, rfl, rfl, rfl, rfl, b1, b2, b3, b4, b5, b6, b7⟩ ci1 ci2 ccl cnr cho)
set_option maxHeartbeats 400000 in
theorem am_op14 (sc : am_Sc) (i : Nat) (hi : i + 4 ≤ sc.1) (hL : sc.1 ≤ 2048) (K : Option Value → am_M → Prop) (M : am_M) (hI : am_Inv M) (hk : ∀ M, am_Inv M → am_Rn sc 171 (674, [some (.ref 1030), some (.ref 0), some (.ref 416), some (.int (Int32.ofNat i))], [], M) K) : am_Rn sc 171 (294, [some (.ref 1030), some (.ref 0), some (.ref 416), some (.int (Int32.ofNat i))], [], M) K := by
  refine hI _ ?_
  intro tr nu la me tc ts P tx n it fa nx pl ki va tw nu3 la3 me3 tc3 ts3 pe3 rn pr pv sa pd lo bo co sh se si er of_ bi bt so nu5 la5 me5 tc5 ts5 pe5 R6 k7 R8 k9 R10 nr ho ou rc fr cl C bw br le mnx mtk mpl mva mfa mdp mtx mnu mdn mla mme mtc mts m3a m3b m3c m3d mpr mpv msa mpd mlo mbo mco msh mse msi mer mof msp mke mik mbi mbt mso mou N S hM cP cn cC cr cN c0 cS c9 cu cm cl1 cl2 cl3 cl4 cla ct cR ci1 ci2 ccl cnr cho
  subst hM
  obtain ⟨-, rfl, rfl, rfl, rfl, rfl, b1, b2, b3, b4, b5, b6, b7⟩ := cR
  have m0 : mnu 0 = Int32.ofNat N := (cm 0 (by omega)).symm.trans c0
  have m9 : mnu 9 = Int32.ofNat S := (cm 9 (by omega)).symm.trans c9
  have m7 : 0 ≤ mnu 7 := by rw [← cm 7 (by omega)]; exact (cu 7 (by omega) (by omega)).1
  have mla_ : ∀ q, q < P → mla q = 0 ∨ mla q = 1 ∨ mla q = 2 ∨ mla q = 3 ∨ mla q = 4 := fun q hq => by rw [← cl1 q hq]; exact cla q hq
  obtain ⟨w1, hw1⟩ : ∃ w, sc.2 (Int32.ofNat i + 1).toNatClampNeg = w := ⟨_, rfl⟩
  rcases Classical.em (0 ≤ w1 ∧ w1 ≤ 999) with hx | hx
  · skip
    rcases R6 with ⟨rd6, pr6, pv6, sa6, pd6, lo6, bo6, co6, sh6, se6, si6, er6, of6, bi6, bt6, so6⟩
    refine am_Rn.go (t := am_t171) rfl 6 rfl ⟨trivial, trivial, trivial, trivial, trivial, (by exact am_inbS1 (by omega) hL), trivial⟩ ?_
    show am_Rn sc 171 (300, _, [.int (sc.2 (Int32.ofNat i + 1).toNatClampNeg), .ref 0], _) _
    rw [hw1]
    refine am_Rn.call (t := am_t171) rfl rfl (sx_revive_T (hP := cP) (hx := hx) (N := N) (S := S) (hN := cN) (h0 := c0) (hS := cS) (h9 := c9) ..) ?_
    rintro _ _ ⟨rfl, nu9, la9, me9, tc9, ts9, pe9, R9, rfl⟩
    refine am_Rn.go (t := am_t171) rfl 6 rfl ⟨trivial, trivial, trivial, trivial, trivial, (by exact am_inbS1 (by omega) hL), trivial⟩ ?_
    show am_Rn sc 171 (307, _, [.int (sc.2 (Int32.ofNat i + 1).toNatClampNeg), .ref 416, _], _) _
    rw [hw1]
    refine am_Rn.call (t := am_t171) rfl rfl (mm_revive_T (hP := cP) (N := N) (S := S) (hN := cN) (h0 := m0) (hS := cS) (h9 := m9) (h7 := m7) (hla := mla_) (hx := hx) ..) ?_
    rintro _ _ ⟨rfl, sp9, bi9, bt9, so9, rfl⟩
    refine am_Rn.go (t := am_t171) rfl 1 rfl ⟨trivial, trivial⟩ ?_
    refine am_Rn.brT (sp_revF_c (fun k => sp_bo_c cN (sp_try_eq k cm cl1 cl2 cl3 cl4 b1 b4 b6 b7)) _ _ _) ?_
    exact hk _ (am_Inv_mk (P := P) (n := n) (rn := rn) (C := C) (N := N) (S := S) cP cn cC cr cN c0 cS c9 cu cm cl1 cl2 cl3 cl4 cla ct ⟨rfl, rfl, rfl, rfl, rfl, rfl, b1, b2, b3, b4, b5, b6, b7⟩ ci1 ci2 ccl cnr cho)
  · skip
    refine am_Rn.go (t := am_t171) rfl 6 rfl ⟨trivial, trivial, trivial, trivial, trivial, (by exact am_inbS1 (by omega) hL), trivial⟩ ?_
    show am_Rn sc 171 (300, _, [.int (sc.2 (Int32.ofNat i + 1).toNatClampNeg), .ref 0], _) _
    rw [hw1]
    refine am_Rn.call (t := am_t171) rfl rfl (sx_revive_F (hx := hx) ..) ?_
    rintro _ _ ⟨rfl, rfl⟩
    refine am_Rn.go (t := am_t171) rfl 6 rfl ⟨trivial, trivial, trivial, trivial, trivial, (by exact am_inbS1 (by omega) hL), trivial⟩ ?_
    show am_Rn sc 171 (307, _, [.int (sc.2 (Int32.ofNat i + 1).toNatClampNeg), .ref 416, _], _) _
    rw [hw1]
    refine am_Rn.call (t := am_t171) rfl rfl (mm_revive_F (hx := hx) ..) ?_
    rintro _ _ ⟨rfl, rfl⟩
    refine am_Rn.go (t := am_t171) rfl 1 rfl ⟨trivial, trivial⟩ ?_
    refine am_Rn.brT rfl ?_
    exact hk _ (am_Inv_mk (P := P) (n := n) (rn := rn) (C := C) (N := N) (S := S) cP cn cC cr cN c0 cS c9 cu cm cl1 cl2 cl3 cl4 cla ct ⟨rfl, rfl, rfl, rfl, rfl, rfl, b1, b2, b3, b4, b5, b6, b7⟩ ci1 ci2 ccl cnr cho)
set_option maxHeartbeats 400000 in
theorem am_op15 (sc : am_Sc) (i : Nat) (hi : i + 4 ≤ sc.1) (hL : sc.1 ≤ 2048) (K : Option Value → am_M → Prop) (M : am_M) (hI : am_Inv M) (hk : ∀ M, am_Inv M → am_Rn sc 171 (674, [some (.ref 1030), some (.ref 0), some (.ref 416), some (.int (Int32.ofNat i))], [], M) K) : am_Rn sc 171 (311, [some (.ref 1030), some (.ref 0), some (.ref 416), some (.int (Int32.ofNat i))], [], M) K := by
  refine hI _ ?_
  intro tr nu la me tc ts P tx n it fa nx pl ki va tw nu3 la3 me3 tc3 ts3 pe3 rn pr pv sa pd lo bo co sh se si er of_ bi bt so nu5 la5 me5 tc5 ts5 pe5 R6 k7 R8 k9 R10 nr ho ou rc fr cl C bw br le mnx mtk mpl mva mfa mdp mtx mnu mdn mla mme mtc mts m3a m3b m3c m3d mpr mpv msa mpd mlo mbo mco msh mse msi mer mof msp mke mik mbi mbt mso mou N S hM cP cn cC cr cN c0 cS c9 cu cm cl1 cl2 cl3 cl4 cla ct cR ci1 ci2 ccl cnr cho
  subst hM
  obtain ⟨-, rfl, rfl, rfl, rfl, rfl, b1, b2, b3, b4, b5, b6, b7⟩ := cR
  have m0 : mnu 0 = Int32.ofNat N := (cm 0 (by omega)).symm.trans c0
  have m9 : mnu 9 = Int32.ofNat S := (cm 9 (by omega)).symm.trans c9
  have m7 : 0 ≤ mnu 7 := by rw [← cm 7 (by omega)]; exact (cu 7 (by omega) (by omega)).1
  have mla_ : ∀ q, q < P → mla q = 0 ∨ mla q = 1 ∨ mla q = 2 ∨ mla q = 3 ∨ mla q = 4 := fun q hq => by rw [← cl1 q hq]; exact cla q hq
  obtain ⟨w1, hw1⟩ : ∃ w, sc.2 (Int32.ofNat i + 1).toNatClampNeg = w := ⟨_, rfl⟩
  obtain ⟨w2, hw2⟩ : ∃ w, sc.2 (Int32.ofNat i + 2).toNatClampNeg = w := ⟨_, rfl⟩
  obtain ⟨w3, hw3⟩ : ∃ w, sc.2 (Int32.ofNat i + 3).toNatClampNeg = w := ⟨_, rfl⟩
  rcases Classical.em (0 ≤ w1 ∧ w1 ≤ 4) with h | h
  · skip
    obtain ⟨q, hq, rfl⟩ := am_rng (k := 4) (by omega) h
    rcases (show q = 0 ∨ q = 1 ∨ q = 2 ∨ q = 3 ∨ q = 4 by omega) with rfl | rfl | rfl | rfl | rfl
    · skip
      rcases Classical.em (0 ≤ w2 ∧ w2 ≤ 99) with hv | hv
      · skip
        rcases Classical.em (0 ≤ w3 ∧ w3 ≤ 2) with h3 | h3
        · skip
          rcases R6 with ⟨rd6, pr6, pv6, sa6, pd6, lo6, bo6, co6, sh6, se6, si6, er6, of6, bi6, bt6, so6⟩
          refine am_Rn.go (t := am_t171) rfl 16 rfl ⟨trivial, trivial, trivial, trivial, trivial, (by exact am_inbS1 (by omega) hL), trivial, trivial, trivial, trivial, (by exact am_inbS2 (by omega) hL), trivial, trivial, trivial, trivial, (by exact am_inbS3 (by omega) hL), trivial⟩ ?_
          show am_Rn sc 171 (327, _, [.int (sc.2 (Int32.ofNat i + 3).toNatClampNeg), .int (sc.2 (Int32.ofNat i + 2).toNatClampNeg), .int (sc.2 (Int32.ofNat i + 1).toNatClampNeg), .ref 0], _) _
          rw [hw1, hw2, hw3]
          refine am_Rn.call (t := am_t171) rfl rfl (sx_would0_T (hP := cP) (hv := hv) (hw := h3) (N := N) (SW := S) (hN := cN) (h0 := c0) (hSW := cS) (h9 := ((mp_upd_ne nu _ (by omega)).trans c9)) ..) ?_
          rintro _ _ ⟨rfl, nu9, la9, me9, tc9, ts9, pe9, R9, rfl⟩
          refine am_Rn.go (t := am_t171) rfl 16 rfl ⟨trivial, trivial, trivial, trivial, trivial, (by exact am_inbS1 (by omega) hL), trivial, trivial, trivial, trivial, (by exact am_inbS2 (by omega) hL), trivial, trivial, trivial, trivial, (by exact am_inbS3 (by omega) hL), trivial⟩ ?_
          show am_Rn sc 171 (344, _, [.int (sc.2 (Int32.ofNat i + 3).toNatClampNeg), .int (sc.2 (Int32.ofNat i + 2).toNatClampNeg), .int (sc.2 (Int32.ofNat i + 1).toNatClampNeg), .ref 416, _], _) _
          rw [hw1, hw2, hw3]
          refine am_Rn.call (t := am_t171) rfl rfl (mm_would0_T (hP := cP) (hv := hv) (hw := h3) (N := N) (SW := S) (hN := cN) (h0 := m0) (hSW := cS) (h9 := ((mp_upd_ne mnu _ (by omega)).trans m9)) (h7 := m7) (hla := mla_) ..) ?_
          rintro _ _ ⟨rfl, sp9, bi9, bt9, so9, rfl⟩
          refine am_Rn.go (t := am_t171) rfl 1 rfl ⟨trivial, trivial⟩ ?_
          refine am_Rn.brT (an_would_c cN (sp_upd_c cm 5 rfl) (sp_try_eq 0 (sp_upd_c cm 5 rfl) cl1 cl2 cl3 cl4 b1 b4 b6 b7) w3) ?_
          exact hk _ (am_Inv_mk (P := P) (n := n) (rn := rn) (C := C) (N := N) (S := S) cP cn cC cr cN c0 cS c9 cu cm cl1 cl2 cl3 cl4 cla ct ⟨rfl, rfl, rfl, rfl, rfl, rfl, b1, b2, b3, b4, b5, b6, b7⟩ ci1 ci2 ccl cnr cho)
        · skip
          refine am_Rn.go (t := am_t171) rfl 16 rfl ⟨trivial, trivial, trivial, trivial, trivial, (by exact am_inbS1 (by omega) hL), trivial, trivial, trivial, trivial, (by exact am_inbS2 (by omega) hL), trivial, trivial, trivial, trivial, (by exact am_inbS3 (by omega) hL), trivial⟩ ?_
          show am_Rn sc 171 (327, _, [.int (sc.2 (Int32.ofNat i + 3).toNatClampNeg), .int (sc.2 (Int32.ofNat i + 2).toNatClampNeg), .int (sc.2 (Int32.ofNat i + 1).toNatClampNeg), .ref 0], _) _
          rw [hw1, hw2, hw3]
          refine am_Rn.call (t := am_t171) rfl rfl (sx_would_F (hw := fun z => h3 z.2) ..) ?_
          rintro _ _ ⟨rfl, rfl⟩
          refine am_Rn.go (t := am_t171) rfl 16 rfl ⟨trivial, trivial, trivial, trivial, trivial, (by exact am_inbS1 (by omega) hL), trivial, trivial, trivial, trivial, (by exact am_inbS2 (by omega) hL), trivial, trivial, trivial, trivial, (by exact am_inbS3 (by omega) hL), trivial⟩ ?_
          show am_Rn sc 171 (344, _, [.int (sc.2 (Int32.ofNat i + 3).toNatClampNeg), .int (sc.2 (Int32.ofNat i + 2).toNatClampNeg), .int (sc.2 (Int32.ofNat i + 1).toNatClampNeg), .ref 416, _], _) _
          rw [hw1, hw2, hw3]
          refine am_Rn.call (t := am_t171) rfl rfl (mm_would0_W (hv := hv) (hw := h3) ..) ?_
          rintro _ _ ⟨rfl, rfl⟩
          refine am_Rn.go (t := am_t171) rfl 1 rfl ⟨trivial, trivial⟩ ?_
          refine am_Rn.brT rfl ?_
          exact hk _ (am_Inv_mk (P := P) (n := n) (rn := rn) (C := C) (N := N) (S := S) cP cn cC cr cN c0 cS c9 cu cm cl1 cl2 cl3 cl4 cla ct ⟨rfl, rfl, rfl, rfl, rfl, rfl, b1, b2, b3, b4, b5, b6, b7⟩ ci1 ci2 ccl cnr cho)
      · skip
        rcases Classical.em (0 ≤ w3 ∧ w3 ≤ 2) with h3 | h3
        · skip
          refine am_Rn.go (t := am_t171) rfl 16 rfl ⟨trivial, trivial, trivial, trivial, trivial, (by exact am_inbS1 (by omega) hL), trivial, trivial, trivial, trivial, (by exact am_inbS2 (by omega) hL), trivial, trivial, trivial, trivial, (by exact am_inbS3 (by omega) hL), trivial⟩ ?_
          show am_Rn sc 171 (327, _, [.int (sc.2 (Int32.ofNat i + 3).toNatClampNeg), .int (sc.2 (Int32.ofNat i + 2).toNatClampNeg), .int (sc.2 (Int32.ofNat i + 1).toNatClampNeg), .ref 0], _) _
          rw [hw1, hw2, hw3]
          refine am_Rn.call (t := am_t171) rfl rfl (sx_would0_V (hv := hv) (hw := h3) ..) ?_
          rintro _ _ ⟨rfl, rfl⟩
          refine am_Rn.go (t := am_t171) rfl 16 rfl ⟨trivial, trivial, trivial, trivial, trivial, (by exact am_inbS1 (by omega) hL), trivial, trivial, trivial, trivial, (by exact am_inbS2 (by omega) hL), trivial, trivial, trivial, trivial, (by exact am_inbS3 (by omega) hL), trivial⟩ ?_
          show am_Rn sc 171 (344, _, [.int (sc.2 (Int32.ofNat i + 3).toNatClampNeg), .int (sc.2 (Int32.ofNat i + 2).toNatClampNeg), .int (sc.2 (Int32.ofNat i + 1).toNatClampNeg), .ref 416, _], _) _
          rw [hw1, hw2, hw3]
          refine am_Rn.call (t := am_t171) rfl rfl (mm_would0_V (hv := hv) ..) ?_
          rintro _ _ ⟨rfl, rfl⟩
          refine am_Rn.go (t := am_t171) rfl 1 rfl ⟨trivial, trivial⟩ ?_
          refine am_Rn.brT rfl ?_
          exact hk _ (am_Inv_mk (P := P) (n := n) (rn := rn) (C := C) (N := N) (S := S) cP cn cC cr cN c0 cS c9 cu cm cl1 cl2 cl3 cl4 cla ct ⟨rfl, rfl, rfl, rfl, rfl, rfl, b1, b2, b3, b4, b5, b6, b7⟩ ci1 ci2 ccl cnr cho)
        · skip
          refine am_Rn.go (t := am_t171) rfl 16 rfl ⟨trivial, trivial, trivial, trivial, trivial, (by exact am_inbS1 (by omega) hL), trivial, trivial, trivial, trivial, (by exact am_inbS2 (by omega) hL), trivial, trivial, trivial, trivial, (by exact am_inbS3 (by omega) hL), trivial⟩ ?_
          show am_Rn sc 171 (327, _, [.int (sc.2 (Int32.ofNat i + 3).toNatClampNeg), .int (sc.2 (Int32.ofNat i + 2).toNatClampNeg), .int (sc.2 (Int32.ofNat i + 1).toNatClampNeg), .ref 0], _) _
          rw [hw1, hw2, hw3]
          refine am_Rn.call (t := am_t171) rfl rfl (sx_would_F (hw := fun z => h3 z.2) ..) ?_
          rintro _ _ ⟨rfl, rfl⟩
          refine am_Rn.go (t := am_t171) rfl 16 rfl ⟨trivial, trivial, trivial, trivial, trivial, (by exact am_inbS1 (by omega) hL), trivial, trivial, trivial, trivial, (by exact am_inbS2 (by omega) hL), trivial, trivial, trivial, trivial, (by exact am_inbS3 (by omega) hL), trivial⟩ ?_
          show am_Rn sc 171 (344, _, [.int (sc.2 (Int32.ofNat i + 3).toNatClampNeg), .int (sc.2 (Int32.ofNat i + 2).toNatClampNeg), .int (sc.2 (Int32.ofNat i + 1).toNatClampNeg), .ref 416, _], _) _
          rw [hw1, hw2, hw3]
          refine am_Rn.call (t := am_t171) rfl rfl (mm_would0_V (hv := hv) ..) ?_
          rintro _ _ ⟨rfl, rfl⟩
          refine am_Rn.go (t := am_t171) rfl 1 rfl ⟨trivial, trivial⟩ ?_
          refine am_Rn.brT rfl ?_
          exact hk _ (am_Inv_mk (P := P) (n := n) (rn := rn) (C := C) (N := N) (S := S) cP cn cC cr cN c0 cS c9 cu cm cl1 cl2 cl3 cl4 cla ct ⟨rfl, rfl, rfl, rfl, rfl, rfl, b1, b2, b3, b4, b5, b6, b7⟩ ci1 ci2 ccl cnr cho)
    · skip
      rcases Classical.em (0 ≤ w2 ∧ w2 ≤ 9) with hv | hv
      · skip
        rcases Classical.em (0 ≤ w3 ∧ w3 ≤ 2) with h3 | h3
        · skip
          rcases R6 with ⟨rd6, pr6, pv6, sa6, pd6, lo6, bo6, co6, sh6, se6, si6, er6, of6, bi6, bt6, so6⟩
          refine am_Rn.go (t := am_t171) rfl 16 rfl ⟨trivial, trivial, trivial, trivial, trivial, (by exact am_inbS1 (by omega) hL), trivial, trivial, trivial, trivial, (by exact am_inbS2 (by omega) hL), trivial, trivial, trivial, trivial, (by exact am_inbS3 (by omega) hL), trivial⟩ ?_
          show am_Rn sc 171 (327, _, [.int (sc.2 (Int32.ofNat i + 3).toNatClampNeg), .int (sc.2 (Int32.ofNat i + 2).toNatClampNeg), .int (sc.2 (Int32.ofNat i + 1).toNatClampNeg), .ref 0], _) _
          rw [hw1, hw2, hw3]
          refine am_Rn.call (t := am_t171) rfl rfl (sx_would1_T (hP := cP) (hv := hv) (hw := h3) (N := N) (SW := S) (hN := cN) (h0 := c0) (hSW := cS) (h9 := ((mp_upd_ne nu _ (by omega)).trans c9)) ..) ?_
          rintro _ _ ⟨rfl, nu9, la9, me9, tc9, ts9, pe9, R9, rfl⟩
          refine am_Rn.go (t := am_t171) rfl 16 rfl ⟨trivial, trivial, trivial, trivial, trivial, (by exact am_inbS1 (by omega) hL), trivial, trivial, trivial, trivial, (by exact am_inbS2 (by omega) hL), trivial, trivial, trivial, trivial, (by exact am_inbS3 (by omega) hL), trivial⟩ ?_
          show am_Rn sc 171 (344, _, [.int (sc.2 (Int32.ofNat i + 3).toNatClampNeg), .int (sc.2 (Int32.ofNat i + 2).toNatClampNeg), .int (sc.2 (Int32.ofNat i + 1).toNatClampNeg), .ref 416, _], _) _
          rw [hw1, hw2, hw3]
          refine am_Rn.call (t := am_t171) rfl rfl (mm_would1_T (hP := cP) (hv := hv) (hw := h3) (N := N) (SW := S) (hN := cN) (h0 := m0) (hSW := cS) (h9 := ((mp_upd_ne mnu _ (by omega)).trans m9)) (h7 := m7) (hla := mla_) ..) ?_
          rintro _ _ ⟨rfl, sp9, bi9, bt9, so9, rfl⟩
          refine am_Rn.go (t := am_t171) rfl 1 rfl ⟨trivial, trivial⟩ ?_
          refine am_Rn.brT (an_would_c cN (sp_upd_c cm 6 rfl) (sp_try_eq 0 (sp_upd_c cm 6 rfl) cl1 cl2 cl3 cl4 b1 b4 b6 b7) w3) ?_
          exact hk _ (am_Inv_mk (P := P) (n := n) (rn := rn) (C := C) (N := N) (S := S) cP cn cC cr cN c0 cS c9 cu cm cl1 cl2 cl3 cl4 cla ct ⟨rfl, rfl, rfl, rfl, rfl, rfl, b1, b2, b3, b4, b5, b6, b7⟩ ci1 ci2 ccl cnr cho)
        · skip
          refine am_Rn.go (t := am_t171) rfl 16 rfl ⟨trivial, trivial, trivial, trivial, trivial, (by exact am_inbS1 (by omega) hL), trivial, trivial, trivial, trivial, (by exact am_inbS2 (by omega) hL), trivial, trivial, trivial, trivial, (by exact am_inbS3 (by omega) hL), trivial⟩ ?_
          show am_Rn sc 171 (327, _, [.int (sc.2 (Int32.ofNat i + 3).toNatClampNeg), .int (sc.2 (Int32.ofNat i + 2).toNatClampNeg), .int (sc.2 (Int32.ofNat i + 1).toNatClampNeg), .ref 0], _) _
          rw [hw1, hw2, hw3]
          refine am_Rn.call (t := am_t171) rfl rfl (sx_would_F (hw := fun z => h3 z.2) ..) ?_
          rintro _ _ ⟨rfl, rfl⟩
          refine am_Rn.go (t := am_t171) rfl 16 rfl ⟨trivial, trivial, trivial, trivial, trivial, (by exact am_inbS1 (by omega) hL), trivial, trivial, trivial, trivial, (by exact am_inbS2 (by omega) hL), trivial, trivial, trivial, trivial, (by exact am_inbS3 (by omega) hL), trivial⟩ ?_
          show am_Rn sc 171 (344, _, [.int (sc.2 (Int32.ofNat i + 3).toNatClampNeg), .int (sc.2 (Int32.ofNat i + 2).toNatClampNeg), .int (sc.2 (Int32.ofNat i + 1).toNatClampNeg), .ref 416, _], _) _
          rw [hw1, hw2, hw3]
          refine am_Rn.call (t := am_t171) rfl rfl (mm_would1_W (hv := hv) (hw := h3) ..) ?_
          rintro _ _ ⟨rfl, rfl⟩
          refine am_Rn.go (t := am_t171) rfl 1 rfl ⟨trivial, trivial⟩ ?_
          refine am_Rn.brT rfl ?_
          exact hk _ (am_Inv_mk (P := P) (n := n) (rn := rn) (C := C) (N := N) (S := S) cP cn cC cr cN c0 cS c9 cu cm cl1 cl2 cl3 cl4 cla ct ⟨rfl, rfl, rfl, rfl, rfl, rfl, b1, b2, b3, b4, b5, b6, b7⟩ ci1 ci2 ccl cnr cho)
      · skip
        rcases Classical.em (0 ≤ w3 ∧ w3 ≤ 2) with h3 | h3
        · skip
          refine am_Rn.go (t := am_t171) rfl 16 rfl ⟨trivial, trivial, trivial, trivial, trivial, (by exact am_inbS1 (by omega) hL), trivial, trivial, trivial, trivial, (by exact am_inbS2 (by omega) hL), trivial, trivial, trivial, trivial, (by exact am_inbS3 (by omega) hL), trivial⟩ ?_
          show am_Rn sc 171 (327, _, [.int (sc.2 (Int32.ofNat i + 3).toNatClampNeg), .int (sc.2 (Int32.ofNat i + 2).toNatClampNeg), .int (sc.2 (Int32.ofNat i + 1).toNatClampNeg), .ref 0], _) _
          rw [hw1, hw2, hw3]
          refine am_Rn.call (t := am_t171) rfl rfl (sx_would1_V (hv := hv) (hw := h3) ..) ?_
          rintro _ _ ⟨rfl, rfl⟩
          refine am_Rn.go (t := am_t171) rfl 16 rfl ⟨trivial, trivial, trivial, trivial, trivial, (by exact am_inbS1 (by omega) hL), trivial, trivial, trivial, trivial, (by exact am_inbS2 (by omega) hL), trivial, trivial, trivial, trivial, (by exact am_inbS3 (by omega) hL), trivial⟩ ?_
          show am_Rn sc 171 (344, _, [.int (sc.2 (Int32.ofNat i + 3).toNatClampNeg), .int (sc.2 (Int32.ofNat i + 2).toNatClampNeg), .int (sc.2 (Int32.ofNat i + 1).toNatClampNeg), .ref 416, _], _) _
          rw [hw1, hw2, hw3]
          refine am_Rn.call (t := am_t171) rfl rfl (mm_would1_V (hv := hv) ..) ?_
          rintro _ _ ⟨rfl, rfl⟩
          refine am_Rn.go (t := am_t171) rfl 1 rfl ⟨trivial, trivial⟩ ?_
          refine am_Rn.brT rfl ?_
          exact hk _ (am_Inv_mk (P := P) (n := n) (rn := rn) (C := C) (N := N) (S := S) cP cn cC cr cN c0 cS c9 cu cm cl1 cl2 cl3 cl4 cla ct ⟨rfl, rfl, rfl, rfl, rfl, rfl, b1, b2, b3, b4, b5, b6, b7⟩ ci1 ci2 ccl cnr cho)
        · skip
          refine am_Rn.go (t := am_t171) rfl 16 rfl ⟨trivial, trivial, trivial, trivial, trivial, (by exact am_inbS1 (by omega) hL), trivial, trivial, trivial, trivial, (by exact am_inbS2 (by omega) hL), trivial, trivial, trivial, trivial, (by exact am_inbS3 (by omega) hL), trivial⟩ ?_
          show am_Rn sc 171 (327, _, [.int (sc.2 (Int32.ofNat i + 3).toNatClampNeg), .int (sc.2 (Int32.ofNat i + 2).toNatClampNeg), .int (sc.2 (Int32.ofNat i + 1).toNatClampNeg), .ref 0], _) _
          rw [hw1, hw2, hw3]
          refine am_Rn.call (t := am_t171) rfl rfl (sx_would_F (hw := fun z => h3 z.2) ..) ?_
          rintro _ _ ⟨rfl, rfl⟩
          refine am_Rn.go (t := am_t171) rfl 16 rfl ⟨trivial, trivial, trivial, trivial, trivial, (by exact am_inbS1 (by omega) hL), trivial, trivial, trivial, trivial, (by exact am_inbS2 (by omega) hL), trivial, trivial, trivial, trivial, (by exact am_inbS3 (by omega) hL), trivial⟩ ?_
          show am_Rn sc 171 (344, _, [.int (sc.2 (Int32.ofNat i + 3).toNatClampNeg), .int (sc.2 (Int32.ofNat i + 2).toNatClampNeg), .int (sc.2 (Int32.ofNat i + 1).toNatClampNeg), .ref 416, _], _) _
          rw [hw1, hw2, hw3]
          refine am_Rn.call (t := am_t171) rfl rfl (mm_would1_V (hv := hv) ..) ?_
          rintro _ _ ⟨rfl, rfl⟩
          refine am_Rn.go (t := am_t171) rfl 1 rfl ⟨trivial, trivial⟩ ?_
          refine am_Rn.brT rfl ?_
          exact hk _ (am_Inv_mk (P := P) (n := n) (rn := rn) (C := C) (N := N) (S := S) cP cn cC cr cN c0 cS c9 cu cm cl1 cl2 cl3 cl4 cla ct ⟨rfl, rfl, rfl, rfl, rfl, rfl, b1, b2, b3, b4, b5, b6, b7⟩ ci1 ci2 ccl cnr cho)
    · skip
      rcases Classical.em (0 ≤ w2 ∧ w2 ≤ 99) with hv | hv
      · skip
        rcases Classical.em (0 ≤ w3 ∧ w3 ≤ 2) with h3 | h3
        · skip
          rcases R6 with ⟨rd6, pr6, pv6, sa6, pd6, lo6, bo6, co6, sh6, se6, si6, er6, of6, bi6, bt6, so6⟩
          refine am_Rn.go (t := am_t171) rfl 16 rfl ⟨trivial, trivial, trivial, trivial, trivial, (by exact am_inbS1 (by omega) hL), trivial, trivial, trivial, trivial, (by exact am_inbS2 (by omega) hL), trivial, trivial, trivial, trivial, (by exact am_inbS3 (by omega) hL), trivial⟩ ?_
          show am_Rn sc 171 (327, _, [.int (sc.2 (Int32.ofNat i + 3).toNatClampNeg), .int (sc.2 (Int32.ofNat i + 2).toNatClampNeg), .int (sc.2 (Int32.ofNat i + 1).toNatClampNeg), .ref 0], _) _
          rw [hw1, hw2, hw3]
          refine am_Rn.call (t := am_t171) rfl rfl (sx_would2_T (hP := cP) (hv := hv) (hw := h3) (N := N) (SW := S) (hN := cN) (h0 := c0) (hSW := cS) (h9 := ((mp_upd_ne nu _ (by omega)).trans c9)) ..) ?_
          rintro _ _ ⟨rfl, nu9, la9, me9, tc9, ts9, pe9, R9, rfl⟩
          refine am_Rn.go (t := am_t171) rfl 16 rfl ⟨trivial, trivial, trivial, trivial, trivial, (by exact am_inbS1 (by omega) hL), trivial, trivial, trivial, trivial, (by exact am_inbS2 (by omega) hL), trivial, trivial, trivial, trivial, (by exact am_inbS3 (by omega) hL), trivial⟩ ?_
          show am_Rn sc 171 (344, _, [.int (sc.2 (Int32.ofNat i + 3).toNatClampNeg), .int (sc.2 (Int32.ofNat i + 2).toNatClampNeg), .int (sc.2 (Int32.ofNat i + 1).toNatClampNeg), .ref 416, _], _) _
          rw [hw1, hw2, hw3]
          refine am_Rn.call (t := am_t171) rfl rfl (mm_would2_T (hP := cP) (hv := hv) (hw := h3) (N := N) (SW := S) (hN := cN) (h0 := m0) (hSW := cS) (h9 := ((mp_upd_ne mnu _ (by omega)).trans m9)) (h7 := m7) (hla := mla_) ..) ?_
          rintro _ _ ⟨rfl, sp9, bi9, bt9, so9, rfl⟩
          refine am_Rn.go (t := am_t171) rfl 1 rfl ⟨trivial, trivial⟩ ?_
          refine am_Rn.brT (an_would_c cN (sp_upd_c cm 7 rfl) (sp_try_eq 0 (sp_upd_c cm 7 rfl) cl1 cl2 cl3 cl4 b1 b4 b6 b7) w3) ?_
          exact hk _ (am_Inv_mk (P := P) (n := n) (rn := rn) (C := C) (N := N) (S := S) cP cn cC cr cN c0 cS c9 cu cm cl1 cl2 cl3 cl4 cla ct ⟨rfl, rfl, rfl, rfl, rfl, rfl, b1, b2, b3, b4, b5, b6, b7⟩ ci1 ci2 ccl cnr cho)
        · skip
          refine am_Rn.go (t := am_t171) rfl 16 rfl ⟨trivial, trivial, trivial, trivial, trivial, (by exact am_inbS1 (by omega) hL), trivial, trivial, trivial, trivial, (by exact am_inbS2 (by omega) hL), trivial, trivial, trivial, trivial, (by exact am_inbS3 (by omega) hL), trivial⟩ ?_
          show am_Rn sc 171 (327, _, [.int (sc.2 (Int32.ofNat i + 3).toNatClampNeg), .int (sc.2 (Int32.ofNat i + 2).toNatClampNeg), .int (sc.2 (Int32.ofNat i + 1).toNatClampNeg), .ref 0], _) _
          rw [hw1, hw2, hw3]
          refine am_Rn.call (t := am_t171) rfl rfl (sx_would_F (hw := fun z => h3 z.2) ..) ?_
          rintro _ _ ⟨rfl, rfl⟩
          refine am_Rn.go (t := am_t171) rfl 16 rfl ⟨trivial, trivial, trivial, trivial, trivial, (by exact am_inbS1 (by omega) hL), trivial, trivial, trivial, trivial, (by exact am_inbS2 (by omega) hL), trivial, trivial, trivial, trivial, (by exact am_inbS3 (by omega) hL), trivial⟩ ?_
          show am_Rn sc 171 (344, _, [.int (sc.2 (Int32.ofNat i + 3).toNatClampNeg), .int (sc.2 (Int32.ofNat i + 2).toNatClampNeg), .int (sc.2 (Int32.ofNat i + 1).toNatClampNeg), .ref 416, _], _) _
          rw [hw1, hw2, hw3]
          refine am_Rn.call (t := am_t171) rfl rfl (mm_would2_W (hv := hv) (hw := h3) ..) ?_
          rintro _ _ ⟨rfl, rfl⟩
          refine am_Rn.go (t := am_t171) rfl 1 rfl ⟨trivial, trivial⟩ ?_
          refine am_Rn.brT rfl ?_
          exact hk _ (am_Inv_mk (P := P) (n := n) (rn := rn) (C := C) (N := N) (S := S) cP cn cC cr cN c0 cS c9 cu cm cl1 cl2 cl3 cl4 cla ct ⟨rfl, rfl, rfl, rfl, rfl, rfl, b1, b2, b3, b4, b5, b6, b7⟩ ci1 ci2 ccl cnr cho)
      · skip
        rcases Classical.em (0 ≤ w3 ∧ w3 ≤ 2) with h3 | h3
        · skip
          refine am_Rn.go (t := am_t171) rfl 16 rfl ⟨trivial, trivial, trivial, trivial, trivial, (by exact am_inbS1 (by omega) hL), trivial, trivial, trivial, trivial, (by exact am_inbS2 (by omega) hL), trivial, trivial, trivial, trivial, (by exact am_inbS3 (by omega) hL), trivial⟩ ?_
          show am_Rn sc 171 (327, _, [.int (sc.2 (Int32.ofNat i + 3).toNatClampNeg), .int (sc.2 (Int32.ofNat i + 2).toNatClampNeg), .int (sc.2 (Int32.ofNat i + 1).toNatClampNeg), .ref 0], _) _
          rw [hw1, hw2, hw3]
          refine am_Rn.call (t := am_t171) rfl rfl (sx_would2_V (hv := hv) (hw := h3) ..) ?_
          rintro _ _ ⟨rfl, rfl⟩
          refine am_Rn.go (t := am_t171) rfl 16 rfl ⟨trivial, trivial, trivial, trivial, trivial, (by exact am_inbS1 (by omega) hL), trivial, trivial, trivial, trivial, (by exact am_inbS2 (by omega) hL), trivial, trivial, trivial, trivial, (by exact am_inbS3 (by omega) hL), trivial⟩ ?_
          show am_Rn sc 171 (344, _, [.int (sc.2 (Int32.ofNat i + 3).toNatClampNeg), .int (sc.2 (Int32.ofNat i + 2).toNatClampNeg), .int (sc.2 (Int32.ofNat i + 1).toNatClampNeg), .ref 416, _], _) _
          rw [hw1, hw2, hw3]
          refine am_Rn.call (t := am_t171) rfl rfl (mm_would2_V (hv := hv) ..) ?_
          rintro _ _ ⟨rfl, rfl⟩
          refine am_Rn.go (t := am_t171) rfl 1 rfl ⟨trivial, trivial⟩ ?_
          refine am_Rn.brT rfl ?_
          exact hk _ (am_Inv_mk (P := P) (n := n) (rn := rn) (C := C) (N := N) (S := S) cP cn cC cr cN c0 cS c9 cu cm cl1 cl2 cl3 cl4 cla ct ⟨rfl, rfl, rfl, rfl, rfl, rfl, b1, b2, b3, b4, b5, b6, b7⟩ ci1 ci2 ccl cnr cho)
        · skip
          refine am_Rn.go (t := am_t171) rfl 16 rfl ⟨trivial, trivial, trivial, trivial, trivial, (by exact am_inbS1 (by omega) hL), trivial, trivial, trivial, trivial, (by exact am_inbS2 (by omega) hL), trivial, trivial, trivial, trivial, (by exact am_inbS3 (by omega) hL), trivial⟩ ?_
          show am_Rn sc 171 (327, _, [.int (sc.2 (Int32.ofNat i + 3).toNatClampNeg), .int (sc.2 (Int32.ofNat i + 2).toNatClampNeg), .int (sc.2 (Int32.ofNat i + 1).toNatClampNeg), .ref 0], _) _
          rw [hw1, hw2, hw3]
          refine am_Rn.call (t := am_t171) rfl rfl (sx_would_F (hw := fun z => h3 z.2) ..) ?_
          rintro _ _ ⟨rfl, rfl⟩
          refine am_Rn.go (t := am_t171) rfl 16 rfl ⟨trivial, trivial, trivial, trivial, trivial, (by exact am_inbS1 (by omega) hL), trivial, trivial, trivial, trivial, (by exact am_inbS2 (by omega) hL), trivial, trivial, trivial, trivial, (by exact am_inbS3 (by omega) hL), trivial⟩ ?_
          show am_Rn sc 171 (344, _, [.int (sc.2 (Int32.ofNat i + 3).toNatClampNeg), .int (sc.2 (Int32.ofNat i + 2).toNatClampNeg), .int (sc.2 (Int32.ofNat i + 1).toNatClampNeg), .ref 416, _], _) _
          rw [hw1, hw2, hw3]
          refine am_Rn.call (t := am_t171) rfl rfl (mm_would2_V (hv := hv) ..) ?_
          rintro _ _ ⟨rfl, rfl⟩
          refine am_Rn.go (t := am_t171) rfl 1 rfl ⟨trivial, trivial⟩ ?_
          refine am_Rn.brT rfl ?_
          exact hk _ (am_Inv_mk (P := P) (n := n) (rn := rn) (C := C) (N := N) (S := S) cP cn cC cr cN c0 cS c9 cu cm cl1 cl2 cl3 cl4 cla ct ⟨rfl, rfl, rfl, rfl, rfl, rfl, b1, b2, b3, b4, b5, b6, b7⟩ ci1 ci2 ccl cnr cho)
    · skip
      rcases Classical.em (0 ≤ w2 ∧ w2 ≤ 9) with hv | hv
      · skip
        rcases Classical.em (0 ≤ w3 ∧ w3 ≤ 2) with h3 | h3
        · skip
          rcases R6 with ⟨rd6, pr6, pv6, sa6, pd6, lo6, bo6, co6, sh6, se6, si6, er6, of6, bi6, bt6, so6⟩
          refine am_Rn.go (t := am_t171) rfl 16 rfl ⟨trivial, trivial, trivial, trivial, trivial, (by exact am_inbS1 (by omega) hL), trivial, trivial, trivial, trivial, (by exact am_inbS2 (by omega) hL), trivial, trivial, trivial, trivial, (by exact am_inbS3 (by omega) hL), trivial⟩ ?_
          show am_Rn sc 171 (327, _, [.int (sc.2 (Int32.ofNat i + 3).toNatClampNeg), .int (sc.2 (Int32.ofNat i + 2).toNatClampNeg), .int (sc.2 (Int32.ofNat i + 1).toNatClampNeg), .ref 0], _) _
          rw [hw1, hw2, hw3]
          refine am_Rn.call (t := am_t171) rfl rfl (sx_would3_T (hP := cP) (hv := hv) (hw := h3) (N := N) (SW := S) (hN := cN) (h0 := c0) (hSW := cS) (h9 := ((mp_upd_ne nu _ (by omega)).trans c9)) ..) ?_
          rintro _ _ ⟨rfl, nu9, la9, me9, tc9, ts9, pe9, R9, rfl⟩
          refine am_Rn.go (t := am_t171) rfl 16 rfl ⟨trivial, trivial, trivial, trivial, trivial, (by exact am_inbS1 (by omega) hL), trivial, trivial, trivial, trivial, (by exact am_inbS2 (by omega) hL), trivial, trivial, trivial, trivial, (by exact am_inbS3 (by omega) hL), trivial⟩ ?_
          show am_Rn sc 171 (344, _, [.int (sc.2 (Int32.ofNat i + 3).toNatClampNeg), .int (sc.2 (Int32.ofNat i + 2).toNatClampNeg), .int (sc.2 (Int32.ofNat i + 1).toNatClampNeg), .ref 416, _], _) _
          rw [hw1, hw2, hw3]
          refine am_Rn.call (t := am_t171) rfl rfl (mm_would3_T (hP := cP) (hv := hv) (hw := h3) (N := N) (SW := S) (hN := cN) (h0 := m0) (hSW := cS) (h9 := ((mp_upd_ne mnu _ (by omega)).trans m9)) (h7 := m7) (hla := mla_) ..) ?_
          rintro _ _ ⟨rfl, sp9, bi9, bt9, so9, rfl⟩
          refine am_Rn.go (t := am_t171) rfl 1 rfl ⟨trivial, trivial⟩ ?_
          refine am_Rn.brT (an_would_c cN (sp_upd_c cm 8 rfl) (sp_try_eq 0 (sp_upd_c cm 8 rfl) cl1 cl2 cl3 cl4 b1 b4 b6 b7) w3) ?_
          exact hk _ (am_Inv_mk (P := P) (n := n) (rn := rn) (C := C) (N := N) (S := S) cP cn cC cr cN c0 cS c9 cu cm cl1 cl2 cl3 cl4 cla ct ⟨rfl, rfl, rfl, rfl, rfl, rfl, b1, b2, b3, b4, b5, b6, b7⟩ ci1 ci2 ccl cnr cho)
        · skip
          refine am_Rn.go (t := am_t171) rfl 16 rfl ⟨trivial, trivial, trivial, trivial, trivial, (by exact am_inbS1 (by omega) hL), trivial, trivial, trivial, trivial, (by exact am_inbS2 (by omega) hL), trivial, trivial, trivial, trivial, (by exact am_inbS3 (by omega) hL), trivial⟩ ?_
          show am_Rn sc 171 (327, _, [.int (sc.2 (Int32.ofNat i + 3).toNatClampNeg), .int (sc.2 (Int32.ofNat i + 2).toNatClampNeg), .int (sc.2 (Int32.ofNat i + 1).toNatClampNeg), .ref 0], _) _
          rw [hw1, hw2, hw3]
          refine am_Rn.call (t := am_t171) rfl rfl (sx_would_F (hw := fun z => h3 z.2) ..) ?_
          rintro _ _ ⟨rfl, rfl⟩
          refine am_Rn.go (t := am_t171) rfl 16 rfl ⟨trivial, trivial, trivial, trivial, trivial, (by exact am_inbS1 (by omega) hL), trivial, trivial, trivial, trivial, (by exact am_inbS2 (by omega) hL), trivial, trivial, trivial, trivial, (by exact am_inbS3 (by omega) hL), trivial⟩ ?_
          show am_Rn sc 171 (344, _, [.int (sc.2 (Int32.ofNat i + 3).toNatClampNeg), .int (sc.2 (Int32.ofNat i + 2).toNatClampNeg), .int (sc.2 (Int32.ofNat i + 1).toNatClampNeg), .ref 416, _], _) _
          rw [hw1, hw2, hw3]
          refine am_Rn.call (t := am_t171) rfl rfl (mm_would3_W (hv := hv) (hw := h3) ..) ?_
          rintro _ _ ⟨rfl, rfl⟩
          refine am_Rn.go (t := am_t171) rfl 1 rfl ⟨trivial, trivial⟩ ?_
          refine am_Rn.brT rfl ?_
          exact hk _ (am_Inv_mk (P := P) (n := n) (rn := rn) (C := C) (N := N) (S := S) cP cn cC cr cN c0 cS c9 cu cm cl1 cl2 cl3 cl4 cla ct ⟨rfl, rfl, rfl, rfl, rfl, rfl, b1, b2, b3, b4, b5, b6, b7⟩ ci1 ci2 ccl cnr cho)
      · skip
        rcases Classical.em (0 ≤ w3 ∧ w3 ≤ 2) with h3 | h3
        · skip
          refine am_Rn.go (t := am_t171) rfl 16 rfl ⟨trivial, trivial, trivial, trivial, trivial, (by exact am_inbS1 (by omega) hL), trivial, trivial, trivial, trivial, (by exact am_inbS2 (by omega) hL), trivial, trivial, trivial, trivial, (by exact am_inbS3 (by omega) hL), trivial⟩ ?_
          show am_Rn sc 171 (327, _, [.int (sc.2 (Int32.ofNat i + 3).toNatClampNeg), .int (sc.2 (Int32.ofNat i + 2).toNatClampNeg), .int (sc.2 (Int32.ofNat i + 1).toNatClampNeg), .ref 0], _) _
          rw [hw1, hw2, hw3]
          refine am_Rn.call (t := am_t171) rfl rfl (sx_would3_V (hv := hv) (hw := h3) ..) ?_
          rintro _ _ ⟨rfl, rfl⟩
          refine am_Rn.go (t := am_t171) rfl 16 rfl ⟨trivial, trivial, trivial, trivial, trivial, (by exact am_inbS1 (by omega) hL), trivial, trivial, trivial, trivial, (by exact am_inbS2 (by omega) hL), trivial, trivial, trivial, trivial, (by exact am_inbS3 (by omega) hL), trivial⟩ ?_
          show am_Rn sc 171 (344, _, [.int (sc.2 (Int32.ofNat i + 3).toNatClampNeg), .int (sc.2 (Int32.ofNat i + 2).toNatClampNeg), .int (sc.2 (Int32.ofNat i + 1).toNatClampNeg), .ref 416, _], _) _
          rw [hw1, hw2, hw3]
          refine am_Rn.call (t := am_t171) rfl rfl (mm_would3_V (hv := hv) ..) ?_
          rintro _ _ ⟨rfl, rfl⟩
          refine am_Rn.go (t := am_t171) rfl 1 rfl ⟨trivial, trivial⟩ ?_
          refine am_Rn.brT rfl ?_
          exact hk _ (am_Inv_mk (P := P) (n := n) (rn := rn) (C := C) (N := N) (S := S) cP cn cC cr cN c0 cS c9 cu cm cl1 cl2 cl3 cl4 cla ct ⟨rfl, rfl, rfl, rfl, rfl, rfl, b1, b2, b3, b4, b5, b6, b7⟩ ci1 ci2 ccl cnr cho)
        · skip
          refine am_Rn.go (t := am_t171) rfl 16 rfl ⟨trivial, trivial, trivial, trivial, trivial, (by exact am_inbS1 (by omega) hL), trivial, trivial, trivial, trivial, (by exact am_inbS2 (by omega) hL), trivial, trivial, trivial, trivial, (by exact am_inbS3 (by omega) hL), trivial⟩ ?_
          show am_Rn sc 171 (327, _, [.int (sc.2 (Int32.ofNat i + 3).toNatClampNeg), .int (sc.2 (Int32.ofNat i + 2).toNatClampNeg), .int (sc.2 (Int32.ofNat i + 1).toNatClampNeg), .ref 0], _) _
          rw [hw1, hw2, hw3]
          refine am_Rn.call (t := am_t171) rfl rfl (sx_would_F (hw := fun z => h3 z.2) ..) ?_
          rintro _ _ ⟨rfl, rfl⟩
          refine am_Rn.go (t := am_t171) rfl 16 rfl ⟨trivial, trivial, trivial, trivial, trivial, (by exact am_inbS1 (by omega) hL), trivial, trivial, trivial, trivial, (by exact am_inbS2 (by omega) hL), trivial, trivial, trivial, trivial, (by exact am_inbS3 (by omega) hL), trivial⟩ ?_
          show am_Rn sc 171 (344, _, [.int (sc.2 (Int32.ofNat i + 3).toNatClampNeg), .int (sc.2 (Int32.ofNat i + 2).toNatClampNeg), .int (sc.2 (Int32.ofNat i + 1).toNatClampNeg), .ref 416, _], _) _
          rw [hw1, hw2, hw3]
          refine am_Rn.call (t := am_t171) rfl rfl (mm_would3_V (hv := hv) ..) ?_
          rintro _ _ ⟨rfl, rfl⟩
          refine am_Rn.go (t := am_t171) rfl 1 rfl ⟨trivial, trivial⟩ ?_
          refine am_Rn.brT rfl ?_
          exact hk _ (am_Inv_mk (P := P) (n := n) (rn := rn) (C := C) (N := N) (S := S) cP cn cC cr cN c0 cS c9 cu cm cl1 cl2 cl3 cl4 cla ct ⟨rfl, rfl, rfl, rfl, rfl, rfl, b1, b2, b3, b4, b5, b6, b7⟩ ci1 ci2 ccl cnr cho)
    · skip
      rcases Classical.em (1 ≤ w2 ∧ w2 ≤ 9) with hv | hv
      · skip
        rcases Classical.em (0 ≤ w3 ∧ w3 ≤ 2) with h3 | h3
        · skip
          rcases R6 with ⟨rd6, pr6, pv6, sa6, pd6, lo6, bo6, co6, sh6, se6, si6, er6, of6, bi6, bt6, so6⟩
          obtain ⟨SW, hSW, rfl⟩ := am_rng (k := 9) (by omega) ⟨Int32.le_trans (by decide) hv.1, hv.2⟩
          refine am_Rn.go (t := am_t171) rfl 16 rfl ⟨trivial, trivial, trivial, trivial, trivial, (by exact am_inbS1 (by omega) hL), trivial, trivial, trivial, trivial, (by exact am_inbS2 (by omega) hL), trivial, trivial, trivial, trivial, (by exact am_inbS3 (by omega) hL), trivial⟩ ?_
          show am_Rn sc 171 (327, _, [.int (sc.2 (Int32.ofNat i + 3).toNatClampNeg), .int (sc.2 (Int32.ofNat i + 2).toNatClampNeg), .int (sc.2 (Int32.ofNat i + 1).toNatClampNeg), .ref 0], _) _
          rw [hw1, hw2, hw3]
          refine am_Rn.call (t := am_t171) rfl rfl (sx_would4_T (hP := cP) (hv := hv) (hw := h3) (N := N) (SW := SW) (hN := cN) (h0 := c0) (hSW := hSW) (h9 := (mp_upd_eq nu 9 _)) ..) ?_
          rintro _ _ ⟨rfl, nu9, la9, me9, tc9, ts9, pe9, R9, rfl⟩
          refine am_Rn.go (t := am_t171) rfl 16 rfl ⟨trivial, trivial, trivial, trivial, trivial, (by exact am_inbS1 (by omega) hL), trivial, trivial, trivial, trivial, (by exact am_inbS2 (by omega) hL), trivial, trivial, trivial, trivial, (by exact am_inbS3 (by omega) hL), trivial⟩ ?_
          show am_Rn sc 171 (344, _, [.int (sc.2 (Int32.ofNat i + 3).toNatClampNeg), .int (sc.2 (Int32.ofNat i + 2).toNatClampNeg), .int (sc.2 (Int32.ofNat i + 1).toNatClampNeg), .ref 416, _], _) _
          rw [hw1, hw2, hw3]
          refine am_Rn.call (t := am_t171) rfl rfl (mm_would4_T (hP := cP) (hv := hv) (hw := h3) (N := N) (SW := SW) (hN := cN) (h0 := m0) (hSW := hSW) (h9 := (mp_upd_eq mnu 9 _)) (h7 := m7) (hla := mla_) ..) ?_
          rintro _ _ ⟨rfl, sp9, bi9, bt9, so9, rfl⟩
          refine am_Rn.go (t := am_t171) rfl 1 rfl ⟨trivial, trivial⟩ ?_
          refine am_Rn.brT (an_would_c cN (sp_upd_c cm 9 rfl) (sp_try_eq 0 (sp_upd_c cm 9 rfl) cl1 cl2 cl3 cl4 b1 b4 b6 b7) w3) ?_
          exact hk _ (am_Inv_mk (P := P) (n := n) (rn := rn) (C := C) (N := N) (S := S) cP cn cC cr cN c0 cS c9 cu cm cl1 cl2 cl3 cl4 cla ct ⟨rfl, rfl, rfl, rfl, rfl, rfl, b1, b2, b3, b4, b5, b6, b7⟩ ci1 ci2 ccl cnr cho)
        · skip
          refine am_Rn.go (t := am_t171) rfl 16 rfl ⟨trivial, trivial, trivial, trivial, trivial, (by exact am_inbS1 (by omega) hL), trivial, trivial, trivial, trivial, (by exact am_inbS2 (by omega) hL), trivial, trivial, trivial, trivial, (by exact am_inbS3 (by omega) hL), trivial⟩ ?_
          show am_Rn sc 171 (327, _, [.int (sc.2 (Int32.ofNat i + 3).toNatClampNeg), .int (sc.2 (Int32.ofNat i + 2).toNatClampNeg), .int (sc.2 (Int32.ofNat i + 1).toNatClampNeg), .ref 0], _) _
          rw [hw1, hw2, hw3]
          refine am_Rn.call (t := am_t171) rfl rfl (sx_would_F (hw := fun z => h3 z.2) ..) ?_
          rintro _ _ ⟨rfl, rfl⟩
          refine am_Rn.go (t := am_t171) rfl 16 rfl ⟨trivial, trivial, trivial, trivial, trivial, (by exact am_inbS1 (by omega) hL), trivial, trivial, trivial, trivial, (by exact am_inbS2 (by omega) hL), trivial, trivial, trivial, trivial, (by exact am_inbS3 (by omega) hL), trivial⟩ ?_
          show am_Rn sc 171 (344, _, [.int (sc.2 (Int32.ofNat i + 3).toNatClampNeg), .int (sc.2 (Int32.ofNat i + 2).toNatClampNeg), .int (sc.2 (Int32.ofNat i + 1).toNatClampNeg), .ref 416, _], _) _
          rw [hw1, hw2, hw3]
          refine am_Rn.call (t := am_t171) rfl rfl (mm_would4_W (hv := hv) (hw := h3) ..) ?_
          rintro _ _ ⟨rfl, rfl⟩
          refine am_Rn.go (t := am_t171) rfl 1 rfl ⟨trivial, trivial⟩ ?_
          refine am_Rn.brT rfl ?_
          exact hk _ (am_Inv_mk (P := P) (n := n) (rn := rn) (C := C) (N := N) (S := S) cP cn cC cr cN c0 cS c9 cu cm cl1 cl2 cl3 cl4 cla ct ⟨rfl, rfl, rfl, rfl, rfl, rfl, b1, b2, b3, b4, b5, b6, b7⟩ ci1 ci2 ccl cnr cho)
      · skip
        rcases Classical.em (0 ≤ w3 ∧ w3 ≤ 2) with h3 | h3
        · skip
          refine am_Rn.go (t := am_t171) rfl 16 rfl ⟨trivial, trivial, trivial, trivial, trivial, (by exact am_inbS1 (by omega) hL), trivial, trivial, trivial, trivial, (by exact am_inbS2 (by omega) hL), trivial, trivial, trivial, trivial, (by exact am_inbS3 (by omega) hL), trivial⟩ ?_
          show am_Rn sc 171 (327, _, [.int (sc.2 (Int32.ofNat i + 3).toNatClampNeg), .int (sc.2 (Int32.ofNat i + 2).toNatClampNeg), .int (sc.2 (Int32.ofNat i + 1).toNatClampNeg), .ref 0], _) _
          rw [hw1, hw2, hw3]
          refine am_Rn.call (t := am_t171) rfl rfl (sx_would4_V (hv := hv) (hw := h3) ..) ?_
          rintro _ _ ⟨rfl, rfl⟩
          refine am_Rn.go (t := am_t171) rfl 16 rfl ⟨trivial, trivial, trivial, trivial, trivial, (by exact am_inbS1 (by omega) hL), trivial, trivial, trivial, trivial, (by exact am_inbS2 (by omega) hL), trivial, trivial, trivial, trivial, (by exact am_inbS3 (by omega) hL), trivial⟩ ?_
          show am_Rn sc 171 (344, _, [.int (sc.2 (Int32.ofNat i + 3).toNatClampNeg), .int (sc.2 (Int32.ofNat i + 2).toNatClampNeg), .int (sc.2 (Int32.ofNat i + 1).toNatClampNeg), .ref 416, _], _) _
          rw [hw1, hw2, hw3]
          refine am_Rn.call (t := am_t171) rfl rfl (mm_would4_V (hv := hv) ..) ?_
          rintro _ _ ⟨rfl, rfl⟩
          refine am_Rn.go (t := am_t171) rfl 1 rfl ⟨trivial, trivial⟩ ?_
          refine am_Rn.brT rfl ?_
          exact hk _ (am_Inv_mk (P := P) (n := n) (rn := rn) (C := C) (N := N) (S := S) cP cn cC cr cN c0 cS c9 cu cm cl1 cl2 cl3 cl4 cla ct ⟨rfl, rfl, rfl, rfl, rfl, rfl, b1, b2, b3, b4, b5, b6, b7⟩ ci1 ci2 ccl cnr cho)
        · skip
          refine am_Rn.go (t := am_t171) rfl 16 rfl ⟨trivial, trivial, trivial, trivial, trivial, (by exact am_inbS1 (by omega) hL), trivial, trivial, trivial, trivial, (by exact am_inbS2 (by omega) hL), trivial, trivial, trivial, trivial, (by exact am_inbS3 (by omega) hL), trivial⟩ ?_
          show am_Rn sc 171 (327, _, [.int (sc.2 (Int32.ofNat i + 3).toNatClampNeg), .int (sc.2 (Int32.ofNat i + 2).toNatClampNeg), .int (sc.2 (Int32.ofNat i + 1).toNatClampNeg), .ref 0], _) _
          rw [hw1, hw2, hw3]
          refine am_Rn.call (t := am_t171) rfl rfl (sx_would_F (hw := fun z => h3 z.2) ..) ?_
          rintro _ _ ⟨rfl, rfl⟩
          refine am_Rn.go (t := am_t171) rfl 16 rfl ⟨trivial, trivial, trivial, trivial, trivial, (by exact am_inbS1 (by omega) hL), trivial, trivial, trivial, trivial, (by exact am_inbS2 (by omega) hL), trivial, trivial, trivial, trivial, (by exact am_inbS3 (by omega) hL), trivial⟩ ?_
          show am_Rn sc 171 (344, _, [.int (sc.2 (Int32.ofNat i + 3).toNatClampNeg), .int (sc.2 (Int32.ofNat i + 2).toNatClampNeg), .int (sc.2 (Int32.ofNat i + 1).toNatClampNeg), .ref 416, _], _) _
          rw [hw1, hw2, hw3]
          refine am_Rn.call (t := am_t171) rfl rfl (mm_would4_V (hv := hv) ..) ?_
          rintro _ _ ⟨rfl, rfl⟩
          refine am_Rn.go (t := am_t171) rfl 1 rfl ⟨trivial, trivial⟩ ?_
          refine am_Rn.brT rfl ?_
          exact hk _ (am_Inv_mk (P := P) (n := n) (rn := rn) (C := C) (N := N) (S := S) cP cn cC cr cN c0 cS c9 cu cm cl1 cl2 cl3 cl4 cla ct ⟨rfl, rfl, rfl, rfl, rfl, rfl, b1, b2, b3, b4, b5, b6, b7⟩ ci1 ci2 ccl cnr cho)
  · skip
    refine am_Rn.go (t := am_t171) rfl 16 rfl ⟨trivial, trivial, trivial, trivial, trivial, (by exact am_inbS1 (by omega) hL), trivial, trivial, trivial, trivial, (by exact am_inbS2 (by omega) hL), trivial, trivial, trivial, trivial, (by exact am_inbS3 (by omega) hL), trivial⟩ ?_
    show am_Rn sc 171 (327, _, [.int (sc.2 (Int32.ofNat i + 3).toNatClampNeg), .int (sc.2 (Int32.ofNat i + 2).toNatClampNeg), .int (sc.2 (Int32.ofNat i + 1).toNatClampNeg), .ref 0], _) _
    rw [hw1, hw2, hw3]
    refine am_Rn.call (t := am_t171) rfl rfl (sx_would_F (hw := fun z => h z.1) ..) ?_
    rintro _ _ ⟨rfl, rfl⟩
    refine am_Rn.go (t := am_t171) rfl 16 rfl ⟨trivial, trivial, trivial, trivial, trivial, (by exact am_inbS1 (by omega) hL), trivial, trivial, trivial, trivial, (by exact am_inbS2 (by omega) hL), trivial, trivial, trivial, trivial, (by exact am_inbS3 (by omega) hL), trivial⟩ ?_
    show am_Rn sc 171 (344, _, [.int (sc.2 (Int32.ofNat i + 3).toNatClampNeg), .int (sc.2 (Int32.ofNat i + 2).toNatClampNeg), .int (sc.2 (Int32.ofNat i + 1).toNatClampNeg), .ref 416, _], _) _
    rw [hw1, hw2, hw3]
    refine am_Rn.call (t := am_t171) rfl rfl (mm_would_F (hq := h) ..) ?_
    rintro _ _ ⟨rfl, rfl⟩
    refine am_Rn.go (t := am_t171) rfl 1 rfl ⟨trivial, trivial⟩ ?_
    refine am_Rn.brT rfl ?_
    exact hk _ (am_Inv_mk (P := P) (n := n) (rn := rn) (C := C) (N := N) (S := S) cP cn cC cr cN c0 cS c9 cu cm cl1 cl2 cl3 cl4 cla ct ⟨rfl, rfl, rfl, rfl, rfl, rfl, b1, b2, b3, b4, b5, b6, b7⟩ ci1 ci2 ccl cnr cho)
