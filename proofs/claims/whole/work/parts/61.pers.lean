theorem mp_pd (a b : Nat → Int32) {i : Nat} (h : i < 36) (v : Int32) : upd (mp_ps a b) (36 + i) v = mp_ps a (upd b i v) := by
  funext j
  by_cases e : j = 36 + i
  · subst e
    rw [mp_upd_eq]
    unfold mp_ps
    rw [if_neg (by omega), if_pos (by omega), show 36 + i - 36 = i by omega, mp_upd_eq]
  · rw [mp_upd_ne _ _ e]
    unfold mp_ps
    split
    · rfl
    · split
      · rw [mp_upd_ne _ _ (by omega)]
      · rfl
theorem mp_q_upd (la me tc ts : Nat → Int32) (p k : Nat) (hk : k < 4) (v : Int32) : upd (mp_q la me tc ts) (4 * p + k) v = mp_q (if k = 0 then upd la p v else la) (if k = 1 then upd me p v else me) (if k = 2 then upd tc p v else tc) (if k = 3 then upd ts p v else ts) := by
  funext j
  by_cases e : j = 4 * p + k
  · subst e
    rw [mp_upd_eq]
    unfold mp_q
    rw [show (4 * p + k) % 4 = k by omega, show (4 * p + k) / 4 = p by omega]
    rcases (show k = 0 ∨ k = 1 ∨ k = 2 ∨ k = 3 by omega) with rfl | rfl | rfl | rfl
    · exact (mp_upd_eq la p v).symm
    · exact (mp_upd_eq me p v).symm
    · exact (mp_upd_eq tc p v).symm
    · exact (mp_upd_eq ts p v).symm
  · rw [mp_upd_ne _ _ e]
    unfold mp_q
    have hb : j % 4 < 4 := Nat.mod_lt _ (by omega)
    have hj : j = 4 * (j / 4) + j % 4 := by omega
    generalize j % 4 = b at hb hj ⊢
    generalize j / 4 = a at hj ⊢
    rcases (show k = 0 ∨ k = 1 ∨ k = 2 ∨ k = 3 by omega) with rfl | rfl | rfl | rfl <;> rcases (show b = 0 ∨ b = 1 ∨ b = 2 ∨ b = 3 by omega) with rfl | rfl | rfl | rfl
    all_goals first
      | rfl
      | exact (mp_upd_ne la v (by omega)).symm
      | exact (mp_upd_ne me v (by omega)).symm
      | exact (mp_upd_ne tc v (by omega)).symm
      | exact (mp_upd_ne ts v (by omega)).symm
theorem mp_pd4 (a la me tc ts : Nat → Int32) {p k : Nat} (hp : p < 9) (hk : k < 4) (v : Int32) : upd (mp_ps a (mp_q la me tc ts)) (36 + (4 * p + k)) v = mp_ps a (mp_q (if k = 0 then upd la p v else la) (if k = 1 then upd me p v else me) (if k = 2 then upd tc p v else tc) (if k = 3 then upd ts p v else ts)) := by
  rw [mp_pd _ _ (by omega), mp_q_upd _ _ _ _ _ _ hk]
set_option maxHeartbeats 1000000 in
theorem mm_readsPerson (sc : am_Sc) (n : Nat) (hn : n ≤ 400) (tx : Nat → Int32) (hf : ∀ q, q < n → 0 ≤ tx q) (i : Nat) (hi : i ≤ n) (P3 : Nat) (hP3 : P3 < 9) (nx tk pl va : Int32) (hat : sp_at tx n i nx tk pl va) (tr : Int64) (cm : Int32) (nu dn la me tc ts la3 me3 tc3 ts3 : Nat → Int32) (P : Nat) (rd pr pv sa pd lo : Int32) (bo co sh se si er of_ sp ke ik bi bt so nr ou ho cl : Nat → Int32) (B0 B1 B2 B3 B4 B5 B6 B7 B8 B9 B10 B11 B12 : List am_E) (Bs : am_M) : am_Rn sc 110 (0, am_entry 110 [.ref 416], [], B0 :: B1 :: B2 :: B3 :: B4 :: B5 :: B6 :: B7 :: B8 :: B9 :: B10 :: B11 :: B12 :: bkModel tr (Int32.ofNat n) nx tk pl va (-1) (Int32.ofNat P) (Int32.ofNat P3) cm tx (mp_ru nu dn) (mp_ps (mp_q la me tc ts) (mp_q la3 me3 tc3 ts3)) (mp_s rd pr pv sa pd lo bo co sh se si er of_) sp ke ik bi bt so nr ou ho cl :: Bs) (fun r M' => r = none ∧ match sp_pers tx n i with | .inr X => ∃ nx2 tk2 pl2 va2, M' = B0 :: B1 :: B2 :: B3 :: B4 :: B5 :: B6 :: B7 :: B8 :: B9 :: B10 :: B11 :: B12 :: bkModel tr (Int32.ofNat n) nx2 tk2 pl2 va2 (-1) (Int32.ofNat P) (Int32.ofNat (P3 + 1)) cm tx (mp_ru nu dn) (mp_ps (mp_q la me tc ts) (mp_q (upd la3 P3 X.1) (upd me3 P3 X.2.1) (upd tc3 P3 X.2.2.1) (upd ts3 P3 X.2.2.2.1))) (mp_s rd pr pv sa pd lo bo co sh se si er of_) sp ke ik bi bt so nr ou ho cl :: Bs ∧ sp_at tx n X.2.2.2.2 nx2 tk2 pl2 va2 | .inl p => ∃ nx2 tk2 pl2 va2 la4 me4 tc4 ts4 dp2, M' = B0 :: B1 :: B2 :: B3 :: B4 :: B5 :: B6 :: B7 :: B8 :: B9 :: B10 :: B11 :: B12 :: bkModel tr (Int32.ofNat n) nx2 tk2 pl2 va2 (Int32.ofNat p) (Int32.ofNat P) dp2 cm tx (mp_ru nu dn) (mp_ps (mp_q la me tc ts) (mp_q la4 me4 tc4 ts4)) (mp_s rd pr pv sa pd lo bo co sh se si er of_) sp ke ik bi bt so nr ou ho cl :: Bs) := by
  show am_Rn sc 110 (0, [some (.ref 416), none, none], [], _) _
  have hle := sp_t_le tx n i hi
  have x0 : 36 + 4 * Int32.ofNat P3 = Int32.ofNat (36 + (4 * P3 + 0)) := by
    show Int32.ofNat 36 + Int32.ofNat 4 * Int32.ofNat P3 = _
    rw [am_mulN, am_addN]
    congr 1
  have n0 : (36 + 4 * Int32.ofNat P3).toNatClampNeg = 36 + (4 * P3 + 0) := by rw [x0]; exact am_tn _ (by omega)
  have i0 : am_inb (36 + 4 * Int32.ofNat P3) 72 := by rw [x0]; exact am_inb_of (by omega) (by omega)
  have x1 : 36 + 4 * Int32.ofNat P3 + 1 = Int32.ofNat (36 + (4 * P3 + 1)) := by
    show Int32.ofNat 36 + Int32.ofNat 4 * Int32.ofNat P3 + Int32.ofNat 1 = _
    rw [am_mulN, am_addN, am_addN]
    congr 1
  have n1 : (36 + 4 * Int32.ofNat P3 + 1).toNatClampNeg = 36 + (4 * P3 + 1) := by rw [x1]; exact am_tn _ (by omega)
  have i1 : am_inb (36 + 4 * Int32.ofNat P3 + 1) 72 := by rw [x1]; exact am_inb_of (by omega) (by omega)
  have x2 : 36 + 4 * Int32.ofNat P3 + 2 = Int32.ofNat (36 + (4 * P3 + 2)) := by
    show Int32.ofNat 36 + Int32.ofNat 4 * Int32.ofNat P3 + Int32.ofNat 2 = _
    rw [am_mulN, am_addN, am_addN]
    congr 1
  have n2 : (36 + 4 * Int32.ofNat P3 + 2).toNatClampNeg = 36 + (4 * P3 + 2) := by rw [x2]; exact am_tn _ (by omega)
  have i2 : am_inb (36 + 4 * Int32.ofNat P3 + 2) 72 := by rw [x2]; exact am_inb_of (by omega) (by omega)
  have x3 : 36 + 4 * Int32.ofNat P3 + 3 = Int32.ofNat (36 + (4 * P3 + 3)) := by
    show Int32.ofNat 36 + Int32.ofNat 4 * Int32.ofNat P3 + Int32.ofNat 3 = _
    rw [am_mulN, am_addN, am_addN]
    congr 1
  have n3 : (36 + 4 * Int32.ofNat P3 + 3).toNatClampNeg = 36 + (4 * P3 + 3) := by rw [x3]; exact am_tn _ (by omega)
  have i3 : am_inb (36 + 4 * Int32.ofNat P3 + 3) 72 := by rw [x3]; exact am_inb_of (by omega) (by omega)
  have LT : ∀ (law m0 : Int32) (i : Nat) (nx tk pl va a2 : Int32), i ≤ n → sp_at tx n i nx tk pl va → am_Rn sc 110 (53, [some (.ref 416), some (.int (36 + 4 * Int32.ofNat P3)), some (.int a2)], [], B0 :: B1 :: B2 :: B3 :: B4 :: B5 :: B6 :: B7 :: B8 :: B9 :: B10 :: B11 :: B12 :: bkModel tr (Int32.ofNat n) nx tk pl va (-1) (Int32.ofNat P) (Int32.ofNat P3) cm tx (mp_ru nu dn) (mp_ps (mp_q la me tc ts) (mp_q (upd la3 P3 law) (upd me3 P3 m0) tc3 ts3)) (mp_s rd pr pv sa pd lo bo co sh se si er of_) sp ke ik bi bt so nr ou ho cl :: Bs) (fun r M' => r = none ∧ match sp_pTail tx n i law m0 with | .inr X => ∃ nx2 tk2 pl2 va2, M' = B0 :: B1 :: B2 :: B3 :: B4 :: B5 :: B6 :: B7 :: B8 :: B9 :: B10 :: B11 :: B12 :: bkModel tr (Int32.ofNat n) nx2 tk2 pl2 va2 (-1) (Int32.ofNat P) (Int32.ofNat (P3 + 1)) cm tx (mp_ru nu dn) (mp_ps (mp_q la me tc ts) (mp_q (upd la3 P3 X.1) (upd me3 P3 X.2.1) (upd tc3 P3 X.2.2.1) (upd ts3 P3 X.2.2.2.1))) (mp_s rd pr pv sa pd lo bo co sh se si er of_) sp ke ik bi bt so nr ou ho cl :: Bs ∧ sp_at tx n X.2.2.2.2 nx2 tk2 pl2 va2 | .inl p => ∃ nx2 tk2 pl2 va2 la4 me4 tc4 ts4 dp2, M' = B0 :: B1 :: B2 :: B3 :: B4 :: B5 :: B6 :: B7 :: B8 :: B9 :: B10 :: B11 :: B12 :: bkModel tr (Int32.ofNat n) nx2 tk2 pl2 va2 (Int32.ofNat p) (Int32.ofNat P) dp2 cm tx (mp_ru nu dn) (mp_ps (mp_q la me tc ts) (mp_q la4 me4 tc4 ts4)) (mp_s rd pr pv sa pd lo bo co sh se si er of_) sp ke ik bi bt so nr ou ho cl :: Bs) := by
    intro law m0 i nx tk pl va a2 hi hat
    have hle := sp_t_le tx n i hi
    rcases Classical.em (sp_okN (sp_t tx n i) 0 99 = true) with h1 | h1
    · skip
      rcases Classical.em (sp_okN (sp_t tx n (sp_t tx n i).2.2.2) 0 9 = true) with h2 | h2
      · skip
        have hN : sp_pTail tx n i law m0 = .inr (law, m0, (sp_t tx n i).2.2.1, (sp_t tx n (sp_t tx n i).2.2.2).2.2.1, (sp_t tx n (sp_t tx n i).2.2.2).2.2.2) := (if_pos h1).trans (if_pos h2)
        rw [hN]
        refine am_Rn.go (t := am_t110) rfl 8 rfl ⟨trivial, trivial, trivial, trivial, trivial, trivial, trivial, trivial, trivial⟩ ?_
        refine am_Rn.call (t := am_t110) rfl rfl (mm_number_T (hn := hn) (hf := hf) (hi := hi) (lw := 0) (hi0 := 99) (hat := hat) (hok := h1) ..) ?_
        rintro _ _ ⟨nx3, tk3, pl3, va3, rfl, rfl, b3⟩
        refine am_Rn.go (t := am_t110) rfl 1 rfl ⟨(by exact i2), trivial⟩ ?_
        show am_Rn sc 110 (63, _, _, B0 :: B1 :: B2 :: B3 :: B4 :: B5 :: B6 :: B7 :: B8 :: B9 :: B10 :: B11 :: B12 :: bkModel tr (Int32.ofNat n) nx3 tk3 pl3 va3 (-1) (Int32.ofNat P) (Int32.ofNat P3) cm tx (mp_ru nu dn) (upd (mp_ps (mp_q la me tc ts) (mp_q (upd la3 P3 law) (upd me3 P3 m0) tc3 ts3)) (36 + 4 * Int32.ofNat P3 + 2).toNatClampNeg (sp_t tx n i).2.2.1) (mp_s rd pr pv sa pd lo bo co sh se si er of_) sp ke ik bi bt so nr ou ho cl :: Bs) _
        rw [n2, mp_pd4 _ _ _ _ _ (by omega) (by omega)]
        refine am_Rn.go (t := am_t110) rfl 8 rfl ⟨trivial, trivial, trivial, trivial, trivial, trivial, trivial, trivial, trivial⟩ ?_
        refine am_Rn.call (t := am_t110) rfl rfl (mm_number_T (hn := hn) (hf := hf) (hi := hle) (lw := 0) (hi0 := 9) (hat := b3) (hok := h2) ..) ?_
        rintro _ _ ⟨nx4, tk4, pl4, va4, rfl, rfl, b4⟩
        refine am_Rn.go (t := am_t110) rfl 1 rfl ⟨(by exact i3), trivial⟩ ?_
        show am_Rn sc 110 (73, _, _, B0 :: B1 :: B2 :: B3 :: B4 :: B5 :: B6 :: B7 :: B8 :: B9 :: B10 :: B11 :: B12 :: bkModel tr (Int32.ofNat n) nx4 tk4 pl4 va4 (-1) (Int32.ofNat P) (Int32.ofNat P3) cm tx (mp_ru nu dn) (upd (mp_ps (mp_q la me tc ts) (mp_q (upd la3 P3 law) (upd me3 P3 m0) (upd tc3 P3 (sp_t tx n i).2.2.1) ts3)) (36 + 4 * Int32.ofNat P3 + 3).toNatClampNeg (sp_t tx n (sp_t tx n i).2.2.2).2.2.1) (mp_s rd pr pv sa pd lo bo co sh se si er of_) sp ke ik bi bt so nr ou ho cl :: Bs) _
        rw [n3, mp_pd4 _ _ _ _ _ (by omega) (by omega)]
        refine am_Rn.go (t := am_t110) rfl 6 rfl ⟨trivial, trivial, trivial, trivial, trivial, trivial, trivial⟩ ?_
        show am_Rn sc 110 (79, _, _, B0 :: B1 :: B2 :: B3 :: B4 :: B5 :: B6 :: B7 :: B8 :: B9 :: B10 :: B11 :: B12 :: bkModel tr (Int32.ofNat n) nx4 tk4 pl4 va4 (-1) (Int32.ofNat P) (Int32.ofNat P3 + 1) cm tx (mp_ru nu dn) (mp_ps (mp_q la me tc ts) (mp_q (upd la3 P3 law) (upd me3 P3 m0) (upd tc3 P3 (sp_t tx n i).2.2.1) (upd ts3 P3 (sp_t tx n (sp_t tx n i).2.2.2).2.2.1))) (mp_s rd pr pv sa pd lo bo co sh se si er of_) sp ke ik bi bt so nr ou ho cl :: Bs) _
        rw [am_inc]
        refine am_Rn.ret (t := am_t110) rfl rfl trivial ?_
        exact ⟨rfl, nx4, tk4, pl4, va4, rfl, b4⟩
      · skip
        have hN : sp_pTail tx n i law m0 = .inl (sp_t tx n (sp_t tx n i).2.2.2).1 := (if_pos h1).trans (if_neg h2)
        rw [hN]
        refine am_Rn.go (t := am_t110) rfl 8 rfl ⟨trivial, trivial, trivial, trivial, trivial, trivial, trivial, trivial, trivial⟩ ?_
        refine am_Rn.call (t := am_t110) rfl rfl (mm_number_T (hn := hn) (hf := hf) (hi := hi) (lw := 0) (hi0 := 99) (hat := hat) (hok := h1) ..) ?_
        rintro _ _ ⟨nx3, tk3, pl3, va3, rfl, rfl, b3⟩
        refine am_Rn.go (t := am_t110) rfl 1 rfl ⟨(by exact i2), trivial⟩ ?_
        show am_Rn sc 110 (63, _, _, B0 :: B1 :: B2 :: B3 :: B4 :: B5 :: B6 :: B7 :: B8 :: B9 :: B10 :: B11 :: B12 :: bkModel tr (Int32.ofNat n) nx3 tk3 pl3 va3 (-1) (Int32.ofNat P) (Int32.ofNat P3) cm tx (mp_ru nu dn) (upd (mp_ps (mp_q la me tc ts) (mp_q (upd la3 P3 law) (upd me3 P3 m0) tc3 ts3)) (36 + 4 * Int32.ofNat P3 + 2).toNatClampNeg (sp_t tx n i).2.2.1) (mp_s rd pr pv sa pd lo bo co sh se si er of_) sp ke ik bi bt so nr ou ho cl :: Bs) _
        rw [n2, mp_pd4 _ _ _ _ _ (by omega) (by omega)]
        refine am_Rn.go (t := am_t110) rfl 8 rfl ⟨trivial, trivial, trivial, trivial, trivial, trivial, trivial, trivial, trivial⟩ ?_
        refine am_Rn.call (t := am_t110) rfl rfl (mm_number_F (hn := hn) (hf := hf) (hi := hle) (lw := 0) (hi0 := 9) (hat := b3) (hok := h2) ..) ?_
        rintro _ _ ⟨rfl, rfl⟩
        refine am_Rn.go (t := am_t110) rfl 1 rfl ⟨(by exact i3), trivial⟩ ?_
        show am_Rn sc 110 (73, _, _, B0 :: B1 :: B2 :: B3 :: B4 :: B5 :: B6 :: B7 :: B8 :: B9 :: B10 :: B11 :: B12 :: bkModel tr (Int32.ofNat n) nx3 tk3 pl3 va3 (Int32.ofNat (sp_t tx n (sp_t tx n i).2.2.2).1) (Int32.ofNat P) (Int32.ofNat P3) cm tx (mp_ru nu dn) (upd (mp_ps (mp_q la me tc ts) (mp_q (upd la3 P3 law) (upd me3 P3 m0) (upd tc3 P3 (sp_t tx n i).2.2.1) ts3)) (36 + 4 * Int32.ofNat P3 + 3).toNatClampNeg 0) (mp_s rd pr pv sa pd lo bo co sh se si er of_) sp ke ik bi bt so nr ou ho cl :: Bs) _
        rw [n3, mp_pd4 _ _ _ _ _ (by omega) (by omega)]
        refine am_Rn.go (t := am_t110) rfl 6 rfl ⟨trivial, trivial, trivial, trivial, trivial, trivial, trivial⟩ ?_
        refine am_Rn.ret (t := am_t110) rfl rfl trivial ?_
        exact ⟨rfl, _, _, _, _, _, _, _, _, _, rfl⟩
    · skip
      have hN : sp_pTail tx n i law m0 = .inl (sp_t tx n i).1 := if_neg h1
      rw [hN]
      have hle0 := hi
      have hp0 : (0 : Int32) ≤ Int32.ofNat (sp_t tx n i).1 := (am_le (i := 0) (by omega) (by have := sp_t_pl tx n _ hle0; omega)).mpr (by omega)
      refine am_Rn.go (t := am_t110) rfl 8 rfl ⟨trivial, trivial, trivial, trivial, trivial, trivial, trivial, trivial, trivial⟩ ?_
      refine am_Rn.call (t := am_t110) rfl rfl (mm_number_F (hn := hn) (hf := hf) (hi := hi) (lw := 0) (hi0 := 99) (hat := hat) (hok := h1) ..) ?_
      rintro _ _ ⟨rfl, rfl⟩
      refine am_Rn.go (t := am_t110) rfl 1 rfl ⟨(by exact i2), trivial⟩ ?_
      show am_Rn sc 110 (63, _, _, B0 :: B1 :: B2 :: B3 :: B4 :: B5 :: B6 :: B7 :: B8 :: B9 :: B10 :: B11 :: B12 :: bkModel tr (Int32.ofNat n) nx tk pl va (Int32.ofNat (sp_t tx n i).1) (Int32.ofNat P) (Int32.ofNat P3) cm tx (mp_ru nu dn) (upd (mp_ps (mp_q la me tc ts) (mp_q (upd la3 P3 law) (upd me3 P3 m0) tc3 ts3)) (36 + 4 * Int32.ofNat P3 + 2).toNatClampNeg 0) (mp_s rd pr pv sa pd lo bo co sh se si er of_) sp ke ik bi bt so nr ou ho cl :: Bs) _
      rw [n2, mp_pd4 _ _ _ _ _ (by omega) (by omega)]
      refine am_Rn.go (t := am_t110) rfl 8 rfl ⟨trivial, trivial, trivial, trivial, trivial, trivial, trivial, trivial, trivial⟩ ?_
      refine am_Rn.call (t := am_t110) rfl rfl (mm_number_N (hfa := hp0) ..) ?_
      rintro _ _ ⟨rfl, rfl⟩
      refine am_Rn.go (t := am_t110) rfl 1 rfl ⟨(by exact i3), trivial⟩ ?_
      show am_Rn sc 110 (73, _, _, B0 :: B1 :: B2 :: B3 :: B4 :: B5 :: B6 :: B7 :: B8 :: B9 :: B10 :: B11 :: B12 :: bkModel tr (Int32.ofNat n) nx tk pl va (Int32.ofNat (sp_t tx n i).1) (Int32.ofNat P) (Int32.ofNat P3) cm tx (mp_ru nu dn) (upd (mp_ps (mp_q la me tc ts) (mp_q (upd la3 P3 law) (upd me3 P3 m0) (upd tc3 P3 0) ts3)) (36 + 4 * Int32.ofNat P3 + 3).toNatClampNeg 0) (mp_s rd pr pv sa pd lo bo co sh se si er of_) sp ke ik bi bt so nr ou ho cl :: Bs) _
      rw [n3, mp_pd4 _ _ _ _ _ (by omega) (by omega)]
      refine am_Rn.go (t := am_t110) rfl 6 rfl ⟨trivial, trivial, trivial, trivial, trivial, trivial, trivial⟩ ?_
      refine am_Rn.ret (t := am_t110) rfl rfl trivial ?_
      exact ⟨rfl, _, _, _, _, _, _, _, _, _, rfl⟩
  have LN : ∀ (q : Nat) (law m0 : Int32) (nx tk pl va a2 : Int32), q ≤ n → am_Rn sc 110 (53, [some (.ref 416), some (.int (36 + 4 * Int32.ofNat P3)), some (.int a2)], [], B0 :: B1 :: B2 :: B3 :: B4 :: B5 :: B6 :: B7 :: B8 :: B9 :: B10 :: B11 :: B12 :: bkModel tr (Int32.ofNat n) nx tk pl va (Int32.ofNat q) (Int32.ofNat P) (Int32.ofNat P3) cm tx (mp_ru nu dn) (mp_ps (mp_q la me tc ts) (mp_q (upd la3 P3 law) (upd me3 P3 m0) tc3 ts3)) (mp_s rd pr pv sa pd lo bo co sh se si er of_) sp ke ik bi bt so nr ou ho cl :: Bs) (fun r M' => r = none ∧ ∃ nx2 tk2 pl2 va2 la4 me4 tc4 ts4 dp2, M' = B0 :: B1 :: B2 :: B3 :: B4 :: B5 :: B6 :: B7 :: B8 :: B9 :: B10 :: B11 :: B12 :: bkModel tr (Int32.ofNat n) nx2 tk2 pl2 va2 (Int32.ofNat q) (Int32.ofNat P) dp2 cm tx (mp_ru nu dn) (mp_ps (mp_q la me tc ts) (mp_q la4 me4 tc4 ts4)) (mp_s rd pr pv sa pd lo bo co sh se si er of_) sp ke ik bi bt so nr ou ho cl :: Bs) := by
    intro q law m0 nx tk pl va a2 hq
    have hp0 : (0 : Int32) ≤ Int32.ofNat q := (am_le (i := 0) (by omega) (by omega)).mpr (by omega)
    refine am_Rn.go (t := am_t110) rfl 8 rfl ⟨trivial, trivial, trivial, trivial, trivial, trivial, trivial, trivial, trivial⟩ ?_
    refine am_Rn.call (t := am_t110) rfl rfl (mm_number_N (hfa := hp0) ..) ?_
    rintro _ _ ⟨rfl, rfl⟩
    refine am_Rn.go (t := am_t110) rfl 1 rfl ⟨(by exact i2), trivial⟩ ?_
    show am_Rn sc 110 (63, _, _, B0 :: B1 :: B2 :: B3 :: B4 :: B5 :: B6 :: B7 :: B8 :: B9 :: B10 :: B11 :: B12 :: bkModel tr (Int32.ofNat n) nx tk pl va (Int32.ofNat q) (Int32.ofNat P) (Int32.ofNat P3) cm tx (mp_ru nu dn) (upd (mp_ps (mp_q la me tc ts) (mp_q (upd la3 P3 law) (upd me3 P3 m0) tc3 ts3)) (36 + 4 * Int32.ofNat P3 + 2).toNatClampNeg 0) (mp_s rd pr pv sa pd lo bo co sh se si er of_) sp ke ik bi bt so nr ou ho cl :: Bs) _
    rw [n2, mp_pd4 _ _ _ _ _ (by omega) (by omega)]
    refine am_Rn.go (t := am_t110) rfl 8 rfl ⟨trivial, trivial, trivial, trivial, trivial, trivial, trivial, trivial, trivial⟩ ?_
    refine am_Rn.call (t := am_t110) rfl rfl (mm_number_N (hfa := hp0) ..) ?_
    rintro _ _ ⟨rfl, rfl⟩
    refine am_Rn.go (t := am_t110) rfl 1 rfl ⟨(by exact i3), trivial⟩ ?_
    show am_Rn sc 110 (73, _, _, B0 :: B1 :: B2 :: B3 :: B4 :: B5 :: B6 :: B7 :: B8 :: B9 :: B10 :: B11 :: B12 :: bkModel tr (Int32.ofNat n) nx tk pl va (Int32.ofNat q) (Int32.ofNat P) (Int32.ofNat P3) cm tx (mp_ru nu dn) (upd (mp_ps (mp_q la me tc ts) (mp_q (upd la3 P3 law) (upd me3 P3 m0) (upd tc3 P3 0) ts3)) (36 + 4 * Int32.ofNat P3 + 3).toNatClampNeg 0) (mp_s rd pr pv sa pd lo bo co sh se si er of_) sp ke ik bi bt so nr ou ho cl :: Bs) _
    rw [n3, mp_pd4 _ _ _ _ _ (by omega) (by omega)]
    refine am_Rn.go (t := am_t110) rfl 6 rfl ⟨trivial, trivial, trivial, trivial, trivial, trivial, trivial⟩ ?_
    refine am_Rn.ret (t := am_t110) rfl rfl trivial ?_
    exact ⟨rfl, _, _, _, _, _, _, _, _, _, rfl⟩
  rcases Classical.em ((sp_t tx n i).2.1 = 4 ∧ 10 ≤ (sp_t tx n i).2.2.1) with h4 | h4
  · skip
    have k1 : tk = 1 := hat.1.trans ((sp_mk_iff tx n i).2.1.mpr h4.1)
    have kv : va = (sp_t tx n i).2.2.1 := hat.2.2.2 (Or.inr h4.1)
    obtain ⟨w, hw, hwv⟩ := sp_t_word tx n i h4.1
    have h1014 : 10 ≤ va ∧ va ≤ 14 := by
      rw [kv]
      refine ⟨h4.2, ?_⟩
      rw [hwv]
      exact (am_le (j := 14) (by omega) (by omega)).mpr (by omega)
    rcases Classical.em (((sp_t tx n i).2.2.1 - 10) = 0) with hL | hL
    · skip
      have hl0 : (sp_t tx n i).2.2.1 = 10 := by have := congrArg (fun z => z + 10) hL; simpa [Int32.sub_add_cancel] using this
      have hN : sp_pers tx n i = sp_pTail tx n (sp_t tx n i).2.2.2 0 0 := by
        unfold sp_pers
        rw [if_pos h4, if_pos hL]
      rw [hN]
      refine am_Rn.go (t := am_t110) rfl 12 rfl ⟨trivial, trivial, trivial, trivial, trivial, trivial, trivial, trivial, trivial, trivial, trivial, trivial, trivial⟩ ?_
      refine am_Rn.brT k1 ?_
      refine am_Rn.go (t := am_t110) rfl 4 rfl ⟨trivial, trivial, trivial, trivial, trivial⟩ ?_
      refine am_Rn.call (t := am_t110) rfl rfl (sx_in ..) ?_
      rintro _ _ ⟨rfl, rfl⟩
      refine am_Rn.go (t := am_t110) rfl 1 rfl ⟨trivial, trivial⟩ ?_
      refine am_Rn.brF (fun z => am_b0.mp z h1014) ?_
      refine am_Rn.go (t := am_t110) rfl 2 rfl ⟨trivial, trivial, trivial⟩ ?_
      refine am_Rn.call (t := am_t110) rfl rfl (mm_takes_T (hn := hn) (hf := hf) (hi := hi) (hat := hat) (hk := by rw [h4.1]; decide) ..) ?_
      rintro _ _ ⟨nx3, tk3, pl3, va3, rfl, rfl, b3⟩
      rw [kv]
      refine am_Rn.go (t := am_t110) rfl 8 rfl ⟨trivial, trivial, trivial, trivial, trivial, trivial, trivial, (by exact i0), trivial⟩ ?_
      show am_Rn sc 110 (30, _, _, B0 :: B1 :: B2 :: B3 :: B4 :: B5 :: B6 :: B7 :: B8 :: B9 :: B10 :: B11 :: B12 :: bkModel tr (Int32.ofNat n) nx3 tk3 pl3 va3 (-1) (Int32.ofNat P) (Int32.ofNat P3) cm tx (mp_ru nu dn) (upd (mp_ps (mp_q la me tc ts) (mp_q la3 me3 tc3 ts3)) (36 + 4 * Int32.ofNat P3).toNatClampNeg ((sp_t tx n i).2.2.1 - 10)) (mp_s rd pr pv sa pd lo bo co sh se si er of_) sp ke ik bi bt so nr ou ho cl :: Bs) _
      rw [n0, mp_pd4 _ _ _ _ _ (by omega) (by omega)]
      refine am_Rn.go (t := am_t110) rfl 8 rfl ⟨trivial, trivial, trivial, trivial, trivial, trivial, trivial, trivial, trivial⟩ ?_
      refine am_Rn.brT hl0 ?_
      refine am_Rn.go (t := am_t110) rfl 3 rfl ⟨trivial, trivial, (by exact i1), trivial⟩ ?_
      show am_Rn sc 110 (53, _, _, B0 :: B1 :: B2 :: B3 :: B4 :: B5 :: B6 :: B7 :: B8 :: B9 :: B10 :: B11 :: B12 :: bkModel tr (Int32.ofNat n) nx3 tk3 pl3 va3 (-1) (Int32.ofNat P) (Int32.ofNat P3) cm tx (mp_ru nu dn) (upd (mp_ps (mp_q la me tc ts) (mp_q (upd la3 P3 ((sp_t tx n i).2.2.1 - 10)) me3 tc3 ts3)) (36 + 4 * Int32.ofNat P3 + 1).toNatClampNeg 0) (mp_s rd pr pv sa pd lo bo co sh se si er of_) sp ke ik bi bt so nr ou ho cl :: Bs) _
      rw [n1, mp_pd4 _ _ _ _ _ (by omega) (by omega)]
      have g := LT ((sp_t tx n i).2.2.1 - 10) 0 (sp_t tx n i).2.2.2 _ _ _ _ (sp_t tx n i).2.2.1 hle b3
      rw [hL] at g ⊢
      exact g
    · skip
      have hl0 : ¬ (sp_t tx n i).2.2.1 = 10 := fun z => hL (by rw [z]; rfl)
      rcases Classical.em (((sp_t tx n i).2.2.1 - 10) = 3) with h3 | h3
      · skip
        have hl3 : (sp_t tx n i).2.2.1 = 13 := by have := congrArg (fun z => z + 10) h3; simpa [Int32.sub_add_cancel] using this
        have hHI : (if ((sp_t tx n i).2.2.1 - 10) = 3 then (99 : Int32) else 9) = 99 := if_pos h3
        rcases Classical.em (sp_okN (sp_t tx n (sp_t tx n i).2.2.2) 1 99 = true) with h5 | h5
        · skip
          have hN : sp_pers tx n i = sp_pTail tx n (sp_t tx n (sp_t tx n i).2.2.2).2.2.2 ((sp_t tx n i).2.2.1 - 10) (sp_t tx n (sp_t tx n i).2.2.2).2.2.1 := by
            unfold sp_pers
            rw [if_pos h4, if_neg hL, hHI, if_pos h5]
          rw [hN]
          refine am_Rn.go (t := am_t110) rfl 12 rfl ⟨trivial, trivial, trivial, trivial, trivial, trivial, trivial, trivial, trivial, trivial, trivial, trivial, trivial⟩ ?_
          refine am_Rn.brT k1 ?_
          refine am_Rn.go (t := am_t110) rfl 4 rfl ⟨trivial, trivial, trivial, trivial, trivial⟩ ?_
          refine am_Rn.call (t := am_t110) rfl rfl (sx_in ..) ?_
          rintro _ _ ⟨rfl, rfl⟩
          refine am_Rn.go (t := am_t110) rfl 1 rfl ⟨trivial, trivial⟩ ?_
          refine am_Rn.brF (fun z => am_b0.mp z h1014) ?_
          refine am_Rn.go (t := am_t110) rfl 2 rfl ⟨trivial, trivial, trivial⟩ ?_
          refine am_Rn.call (t := am_t110) rfl rfl (mm_takes_T (hn := hn) (hf := hf) (hi := hi) (hat := hat) (hk := by rw [h4.1]; decide) ..) ?_
          rintro _ _ ⟨nx3, tk3, pl3, va3, rfl, rfl, b3⟩
          rw [kv]
          refine am_Rn.go (t := am_t110) rfl 8 rfl ⟨trivial, trivial, trivial, trivial, trivial, trivial, trivial, (by exact i0), trivial⟩ ?_
          show am_Rn sc 110 (30, _, _, B0 :: B1 :: B2 :: B3 :: B4 :: B5 :: B6 :: B7 :: B8 :: B9 :: B10 :: B11 :: B12 :: bkModel tr (Int32.ofNat n) nx3 tk3 pl3 va3 (-1) (Int32.ofNat P) (Int32.ofNat P3) cm tx (mp_ru nu dn) (upd (mp_ps (mp_q la me tc ts) (mp_q la3 me3 tc3 ts3)) (36 + 4 * Int32.ofNat P3).toNatClampNeg ((sp_t tx n i).2.2.1 - 10)) (mp_s rd pr pv sa pd lo bo co sh se si er of_) sp ke ik bi bt so nr ou ho cl :: Bs) _
          rw [n0, mp_pd4 _ _ _ _ _ (by omega) (by omega)]
          refine am_Rn.go (t := am_t110) rfl 8 rfl ⟨trivial, trivial, trivial, trivial, trivial, trivial, trivial, trivial, trivial⟩ ?_
          refine am_Rn.brF hl0 ?_
          refine am_Rn.go (t := am_t110) rfl 1 rfl ⟨trivial, trivial⟩ ?_
          refine am_Rn.call (t := am_t110) rfl rfl (mm_isWell ..) ?_
          rintro _ _ ⟨rfl, rfl⟩
          refine am_Rn.go (t := am_t110) rfl 1 rfl ⟨trivial, trivial⟩ ?_
          refine am_Rn.brF (fun z => am_b0.mp z (by decide)) ?_
          refine am_Rn.go (t := am_t110) rfl 5 rfl ⟨trivial, trivial, trivial, trivial, trivial, trivial⟩ ?_
          refine am_Rn.brT hl3 ?_
          refine am_Rn.go (t := am_t110) rfl 2 rfl ⟨trivial, trivial, trivial⟩ ?_
          refine am_Rn.call (t := am_t110) rfl rfl (mm_number_T (hn := hn) (hf := hf) (hi := hle) (lw := 1) (hi0 := 99) (hat := b3) (hok := h5) ..) ?_
          rintro _ _ ⟨nx4, tk4, pl4, va4, rfl, rfl, b4⟩
          refine am_Rn.go (t := am_t110) rfl 1 rfl ⟨(by exact i1), trivial⟩ ?_
          show am_Rn sc 110 (53, _, _, B0 :: B1 :: B2 :: B3 :: B4 :: B5 :: B6 :: B7 :: B8 :: B9 :: B10 :: B11 :: B12 :: bkModel tr (Int32.ofNat n) nx4 tk4 pl4 va4 (-1) (Int32.ofNat P) (Int32.ofNat P3) cm tx (mp_ru nu dn) (upd (mp_ps (mp_q la me tc ts) (mp_q (upd la3 P3 ((sp_t tx n i).2.2.1 - 10)) me3 tc3 ts3)) (36 + 4 * Int32.ofNat P3 + 1).toNatClampNeg (sp_t tx n (sp_t tx n i).2.2.2).2.2.1) (mp_s rd pr pv sa pd lo bo co sh se si er of_) sp ke ik bi bt so nr ou ho cl :: Bs) _
          rw [n1, mp_pd4 _ _ _ _ _ (by omega) (by omega)]
          exact LT _ _ _ _ _ _ _ _ (sp_t_le tx n _ hle) b4
        · skip
          have hN : sp_pers tx n i = .inl (sp_t tx n (sp_t tx n i).2.2.2).1 := by
            unfold sp_pers
            rw [if_pos h4, if_neg hL, hHI, if_neg h5]
          rw [hN]
          refine am_Rn.go (t := am_t110) rfl 12 rfl ⟨trivial, trivial, trivial, trivial, trivial, trivial, trivial, trivial, trivial, trivial, trivial, trivial, trivial⟩ ?_
          refine am_Rn.brT k1 ?_
          refine am_Rn.go (t := am_t110) rfl 4 rfl ⟨trivial, trivial, trivial, trivial, trivial⟩ ?_
          refine am_Rn.call (t := am_t110) rfl rfl (sx_in ..) ?_
          rintro _ _ ⟨rfl, rfl⟩
          refine am_Rn.go (t := am_t110) rfl 1 rfl ⟨trivial, trivial⟩ ?_
          refine am_Rn.brF (fun z => am_b0.mp z h1014) ?_
          refine am_Rn.go (t := am_t110) rfl 2 rfl ⟨trivial, trivial, trivial⟩ ?_
          refine am_Rn.call (t := am_t110) rfl rfl (mm_takes_T (hn := hn) (hf := hf) (hi := hi) (hat := hat) (hk := by rw [h4.1]; decide) ..) ?_
          rintro _ _ ⟨nx3, tk3, pl3, va3, rfl, rfl, b3⟩
          rw [kv]
          refine am_Rn.go (t := am_t110) rfl 8 rfl ⟨trivial, trivial, trivial, trivial, trivial, trivial, trivial, (by exact i0), trivial⟩ ?_
          show am_Rn sc 110 (30, _, _, B0 :: B1 :: B2 :: B3 :: B4 :: B5 :: B6 :: B7 :: B8 :: B9 :: B10 :: B11 :: B12 :: bkModel tr (Int32.ofNat n) nx3 tk3 pl3 va3 (-1) (Int32.ofNat P) (Int32.ofNat P3) cm tx (mp_ru nu dn) (upd (mp_ps (mp_q la me tc ts) (mp_q la3 me3 tc3 ts3)) (36 + 4 * Int32.ofNat P3).toNatClampNeg ((sp_t tx n i).2.2.1 - 10)) (mp_s rd pr pv sa pd lo bo co sh se si er of_) sp ke ik bi bt so nr ou ho cl :: Bs) _
          rw [n0, mp_pd4 _ _ _ _ _ (by omega) (by omega)]
          refine am_Rn.go (t := am_t110) rfl 8 rfl ⟨trivial, trivial, trivial, trivial, trivial, trivial, trivial, trivial, trivial⟩ ?_
          refine am_Rn.brF hl0 ?_
          refine am_Rn.go (t := am_t110) rfl 1 rfl ⟨trivial, trivial⟩ ?_
          refine am_Rn.call (t := am_t110) rfl rfl (mm_isWell ..) ?_
          rintro _ _ ⟨rfl, rfl⟩
          refine am_Rn.go (t := am_t110) rfl 1 rfl ⟨trivial, trivial⟩ ?_
          refine am_Rn.brF (fun z => am_b0.mp z (by decide)) ?_
          refine am_Rn.go (t := am_t110) rfl 5 rfl ⟨trivial, trivial, trivial, trivial, trivial, trivial⟩ ?_
          refine am_Rn.brT hl3 ?_
          refine am_Rn.go (t := am_t110) rfl 2 rfl ⟨trivial, trivial, trivial⟩ ?_
          refine am_Rn.call (t := am_t110) rfl rfl (mm_number_F (hn := hn) (hf := hf) (hi := hle) (lw := 1) (hi0 := 99) (hat := b3) (hok := h5) ..) ?_
          rintro _ _ ⟨rfl, rfl⟩
          refine am_Rn.go (t := am_t110) rfl 1 rfl ⟨(by exact i1), trivial⟩ ?_
          show am_Rn sc 110 (53, _, _, B0 :: B1 :: B2 :: B3 :: B4 :: B5 :: B6 :: B7 :: B8 :: B9 :: B10 :: B11 :: B12 :: bkModel tr (Int32.ofNat n) nx3 tk3 pl3 va3 (Int32.ofNat (sp_t tx n (sp_t tx n i).2.2.2).1) (Int32.ofNat P) (Int32.ofNat P3) cm tx (mp_ru nu dn) (upd (mp_ps (mp_q la me tc ts) (mp_q (upd la3 P3 ((sp_t tx n i).2.2.1 - 10)) me3 tc3 ts3)) (36 + 4 * Int32.ofNat P3 + 1).toNatClampNeg 0) (mp_s rd pr pv sa pd lo bo co sh se si er of_) sp ke ik bi bt so nr ou ho cl :: Bs) _
          rw [n1, mp_pd4 _ _ _ _ _ (by omega) (by omega)]
          exact LN (sp_t tx n (sp_t tx n i).2.2.2).1 _ _ _ _ _ _ _ (sp_t_pl tx n _ hle)
      · skip
        have hl3 : ¬ (sp_t tx n i).2.2.1 = 13 := fun z => h3 (by rw [z]; rfl)
        have hHI : (if ((sp_t tx n i).2.2.1 - 10) = 3 then (99 : Int32) else 9) = 9 := if_neg h3
        rcases Classical.em (sp_okN (sp_t tx n (sp_t tx n i).2.2.2) 1 9 = true) with h5 | h5
        · skip
          have hN : sp_pers tx n i = sp_pTail tx n (sp_t tx n (sp_t tx n i).2.2.2).2.2.2 ((sp_t tx n i).2.2.1 - 10) (sp_t tx n (sp_t tx n i).2.2.2).2.2.1 := by
            unfold sp_pers
            rw [if_pos h4, if_neg hL, hHI, if_pos h5]
          rw [hN]
          refine am_Rn.go (t := am_t110) rfl 12 rfl ⟨trivial, trivial, trivial, trivial, trivial, trivial, trivial, trivial, trivial, trivial, trivial, trivial, trivial⟩ ?_
          refine am_Rn.brT k1 ?_
          refine am_Rn.go (t := am_t110) rfl 4 rfl ⟨trivial, trivial, trivial, trivial, trivial⟩ ?_
          refine am_Rn.call (t := am_t110) rfl rfl (sx_in ..) ?_
          rintro _ _ ⟨rfl, rfl⟩
          refine am_Rn.go (t := am_t110) rfl 1 rfl ⟨trivial, trivial⟩ ?_
          refine am_Rn.brF (fun z => am_b0.mp z h1014) ?_
          refine am_Rn.go (t := am_t110) rfl 2 rfl ⟨trivial, trivial, trivial⟩ ?_
          refine am_Rn.call (t := am_t110) rfl rfl (mm_takes_T (hn := hn) (hf := hf) (hi := hi) (hat := hat) (hk := by rw [h4.1]; decide) ..) ?_
          rintro _ _ ⟨nx3, tk3, pl3, va3, rfl, rfl, b3⟩
          rw [kv]
          refine am_Rn.go (t := am_t110) rfl 8 rfl ⟨trivial, trivial, trivial, trivial, trivial, trivial, trivial, (by exact i0), trivial⟩ ?_
          show am_Rn sc 110 (30, _, _, B0 :: B1 :: B2 :: B3 :: B4 :: B5 :: B6 :: B7 :: B8 :: B9 :: B10 :: B11 :: B12 :: bkModel tr (Int32.ofNat n) nx3 tk3 pl3 va3 (-1) (Int32.ofNat P) (Int32.ofNat P3) cm tx (mp_ru nu dn) (upd (mp_ps (mp_q la me tc ts) (mp_q la3 me3 tc3 ts3)) (36 + 4 * Int32.ofNat P3).toNatClampNeg ((sp_t tx n i).2.2.1 - 10)) (mp_s rd pr pv sa pd lo bo co sh se si er of_) sp ke ik bi bt so nr ou ho cl :: Bs) _
          rw [n0, mp_pd4 _ _ _ _ _ (by omega) (by omega)]
          refine am_Rn.go (t := am_t110) rfl 8 rfl ⟨trivial, trivial, trivial, trivial, trivial, trivial, trivial, trivial, trivial⟩ ?_
          refine am_Rn.brF hl0 ?_
          refine am_Rn.go (t := am_t110) rfl 1 rfl ⟨trivial, trivial⟩ ?_
          refine am_Rn.call (t := am_t110) rfl rfl (mm_isWell ..) ?_
          rintro _ _ ⟨rfl, rfl⟩
          refine am_Rn.go (t := am_t110) rfl 1 rfl ⟨trivial, trivial⟩ ?_
          refine am_Rn.brF (fun z => am_b0.mp z (by decide)) ?_
          refine am_Rn.go (t := am_t110) rfl 5 rfl ⟨trivial, trivial, trivial, trivial, trivial, trivial⟩ ?_
          refine am_Rn.brF hl3 ?_
          refine am_Rn.go (t := am_t110) rfl 1 rfl ⟨trivial, trivial⟩ ?_
          refine am_Rn.call (t := am_t110) rfl rfl (mm_number_T (hn := hn) (hf := hf) (hi := hle) (lw := 1) (hi0 := 9) (hat := b3) (hok := h5) ..) ?_
          rintro _ _ ⟨nx4, tk4, pl4, va4, rfl, rfl, b4⟩
          refine am_Rn.go (t := am_t110) rfl 1 rfl ⟨(by exact i1), trivial⟩ ?_
          show am_Rn sc 110 (53, _, _, B0 :: B1 :: B2 :: B3 :: B4 :: B5 :: B6 :: B7 :: B8 :: B9 :: B10 :: B11 :: B12 :: bkModel tr (Int32.ofNat n) nx4 tk4 pl4 va4 (-1) (Int32.ofNat P) (Int32.ofNat P3) cm tx (mp_ru nu dn) (upd (mp_ps (mp_q la me tc ts) (mp_q (upd la3 P3 ((sp_t tx n i).2.2.1 - 10)) me3 tc3 ts3)) (36 + 4 * Int32.ofNat P3 + 1).toNatClampNeg (sp_t tx n (sp_t tx n i).2.2.2).2.2.1) (mp_s rd pr pv sa pd lo bo co sh se si er of_) sp ke ik bi bt so nr ou ho cl :: Bs) _
          rw [n1, mp_pd4 _ _ _ _ _ (by omega) (by omega)]
          exact LT _ _ _ _ _ _ _ _ (sp_t_le tx n _ hle) b4
        · skip
          have hN : sp_pers tx n i = .inl (sp_t tx n (sp_t tx n i).2.2.2).1 := by
            unfold sp_pers
            rw [if_pos h4, if_neg hL, hHI, if_neg h5]
          rw [hN]
          refine am_Rn.go (t := am_t110) rfl 12 rfl ⟨trivial, trivial, trivial, trivial, trivial, trivial, trivial, trivial, trivial, trivial, trivial, trivial, trivial⟩ ?_
          refine am_Rn.brT k1 ?_
          refine am_Rn.go (t := am_t110) rfl 4 rfl ⟨trivial, trivial, trivial, trivial, trivial⟩ ?_
          refine am_Rn.call (t := am_t110) rfl rfl (sx_in ..) ?_
          rintro _ _ ⟨rfl, rfl⟩
          refine am_Rn.go (t := am_t110) rfl 1 rfl ⟨trivial, trivial⟩ ?_
          refine am_Rn.brF (fun z => am_b0.mp z h1014) ?_
          refine am_Rn.go (t := am_t110) rfl 2 rfl ⟨trivial, trivial, trivial⟩ ?_
          refine am_Rn.call (t := am_t110) rfl rfl (mm_takes_T (hn := hn) (hf := hf) (hi := hi) (hat := hat) (hk := by rw [h4.1]; decide) ..) ?_
          rintro _ _ ⟨nx3, tk3, pl3, va3, rfl, rfl, b3⟩
          rw [kv]
          refine am_Rn.go (t := am_t110) rfl 8 rfl ⟨trivial, trivial, trivial, trivial, trivial, trivial, trivial, (by exact i0), trivial⟩ ?_
          show am_Rn sc 110 (30, _, _, B0 :: B1 :: B2 :: B3 :: B4 :: B5 :: B6 :: B7 :: B8 :: B9 :: B10 :: B11 :: B12 :: bkModel tr (Int32.ofNat n) nx3 tk3 pl3 va3 (-1) (Int32.ofNat P) (Int32.ofNat P3) cm tx (mp_ru nu dn) (upd (mp_ps (mp_q la me tc ts) (mp_q la3 me3 tc3 ts3)) (36 + 4 * Int32.ofNat P3).toNatClampNeg ((sp_t tx n i).2.2.1 - 10)) (mp_s rd pr pv sa pd lo bo co sh se si er of_) sp ke ik bi bt so nr ou ho cl :: Bs) _
          rw [n0, mp_pd4 _ _ _ _ _ (by omega) (by omega)]
          refine am_Rn.go (t := am_t110) rfl 8 rfl ⟨trivial, trivial, trivial, trivial, trivial, trivial, trivial, trivial, trivial⟩ ?_
          refine am_Rn.brF hl0 ?_
          refine am_Rn.go (t := am_t110) rfl 1 rfl ⟨trivial, trivial⟩ ?_
          refine am_Rn.call (t := am_t110) rfl rfl (mm_isWell ..) ?_
          rintro _ _ ⟨rfl, rfl⟩
          refine am_Rn.go (t := am_t110) rfl 1 rfl ⟨trivial, trivial⟩ ?_
          refine am_Rn.brF (fun z => am_b0.mp z (by decide)) ?_
          refine am_Rn.go (t := am_t110) rfl 5 rfl ⟨trivial, trivial, trivial, trivial, trivial, trivial⟩ ?_
          refine am_Rn.brF hl3 ?_
          refine am_Rn.go (t := am_t110) rfl 1 rfl ⟨trivial, trivial⟩ ?_
          refine am_Rn.call (t := am_t110) rfl rfl (mm_number_F (hn := hn) (hf := hf) (hi := hle) (lw := 1) (hi0 := 9) (hat := b3) (hok := h5) ..) ?_
          rintro _ _ ⟨rfl, rfl⟩
          refine am_Rn.go (t := am_t110) rfl 1 rfl ⟨(by exact i1), trivial⟩ ?_
          show am_Rn sc 110 (53, _, _, B0 :: B1 :: B2 :: B3 :: B4 :: B5 :: B6 :: B7 :: B8 :: B9 :: B10 :: B11 :: B12 :: bkModel tr (Int32.ofNat n) nx3 tk3 pl3 va3 (Int32.ofNat (sp_t tx n (sp_t tx n i).2.2.2).1) (Int32.ofNat P) (Int32.ofNat P3) cm tx (mp_ru nu dn) (upd (mp_ps (mp_q la me tc ts) (mp_q (upd la3 P3 ((sp_t tx n i).2.2.1 - 10)) me3 tc3 ts3)) (36 + 4 * Int32.ofNat P3 + 1).toNatClampNeg 0) (mp_s rd pr pv sa pd lo bo co sh se si er of_) sp ke ik bi bt so nr ou ho cl :: Bs) _
          rw [n1, mp_pd4 _ _ _ _ _ (by omega) (by omega)]
          exact LN (sp_t tx n (sp_t tx n i).2.2.2).1 _ _ _ _ _ _ _ (sp_t_pl tx n _ hle)
  · skip
    obtain ⟨a1, a2, a3, a4⟩ := hat
    subst a2
    have hle0 := hi
    have hp0 : (0 : Int32) ≤ Int32.ofNat (sp_t tx n i).1 := (am_le (i := 0) (by omega) (by have := sp_t_pl tx n _ hle0; omega)).mpr (by omega)
    have hN : sp_pers tx n i = .inl (sp_t tx n i).1 := if_neg h4
    rw [hN]
    refine am_Rn.go (t := am_t110) rfl 12 rfl ⟨trivial, trivial, trivial, trivial, trivial, trivial, trivial, trivial, trivial, trivial, trivial, trivial, trivial⟩ ?_
    refine am_Rn.br (fun h1 => ?_) (fun h1 => ?_)
    · skip
      have k4 : (sp_t tx n i).2.1 = 4 := (sp_mk_iff tx n i).2.1.mp (a1.symm.trans h1)
      have kv := a4 (Or.inr k4)
      refine am_Rn.go (t := am_t110) rfl 4 rfl ⟨trivial, trivial, trivial, trivial, trivial⟩ ?_
      refine am_Rn.call (t := am_t110) rfl rfl (sx_in ..) ?_
      rintro _ _ ⟨rfl, rfl⟩
      refine am_Rn.go (t := am_t110) rfl 1 rfl ⟨trivial, trivial⟩ ?_
      refine am_Rn.brB (fun h2 => ?_) (fun h2 => ?_)
      · skip
        refine am_Rn.go (t := am_t110) rfl 1 rfl ⟨trivial, trivial⟩ ?_
        refine am_Rn.call (t := am_t110) rfl rfl (mm_takes_F (n := n) ..) ?_
        rintro _ _ ⟨rfl, rfl⟩
        refine am_Rn.go (t := am_t110) rfl 8 rfl ⟨trivial, trivial, trivial, trivial, trivial, trivial, trivial, (by exact i0), trivial⟩ ?_
        show am_Rn sc 110 (30, _, _, B0 :: B1 :: B2 :: B3 :: B4 :: B5 :: B6 :: B7 :: B8 :: B9 :: B10 :: B11 :: B12 :: bkModel tr (Int32.ofNat n) nx tk (Int32.ofNat (sp_t tx n i).1) va (Int32.ofNat (sp_t tx n i).1) (Int32.ofNat P) (Int32.ofNat P3) cm tx (mp_ru nu dn) (upd (mp_ps (mp_q la me tc ts) (mp_q la3 me3 tc3 ts3)) (36 + 4 * Int32.ofNat P3).toNatClampNeg (0 - 10)) (mp_s rd pr pv sa pd lo bo co sh se si er of_) sp ke ik bi bt so nr ou ho cl :: Bs) _
        rw [n0, mp_pd4 _ _ _ _ _ (by omega) (by omega)]
        refine am_Rn.go (t := am_t110) rfl 8 rfl ⟨trivial, trivial, trivial, trivial, trivial, trivial, trivial, trivial, trivial⟩ ?_
        refine am_Rn.brF (by decide) ?_
        refine am_Rn.go (t := am_t110) rfl 1 rfl ⟨trivial, trivial⟩ ?_
        refine am_Rn.call (t := am_t110) rfl rfl (mm_isWell ..) ?_
        rintro _ _ ⟨rfl, rfl⟩
        refine am_Rn.go (t := am_t110) rfl 1 rfl ⟨trivial, trivial⟩ ?_
        refine am_Rn.brT (am_b0.mpr (fun z => Int32.not_lt.mpr hp0 z)) ?_
        refine am_Rn.go (t := am_t110) rfl 3 rfl ⟨trivial, trivial, (by exact i1), trivial⟩ ?_
        show am_Rn sc 110 (53, _, _, B0 :: B1 :: B2 :: B3 :: B4 :: B5 :: B6 :: B7 :: B8 :: B9 :: B10 :: B11 :: B12 :: bkModel tr (Int32.ofNat n) nx tk (Int32.ofNat (sp_t tx n i).1) va (Int32.ofNat (sp_t tx n i).1) (Int32.ofNat P) (Int32.ofNat P3) cm tx (mp_ru nu dn) (upd (mp_ps (mp_q la me tc ts) (mp_q (upd la3 P3 (0 - 10)) me3 tc3 ts3)) (36 + 4 * Int32.ofNat P3 + 1).toNatClampNeg 0) (mp_s rd pr pv sa pd lo bo co sh se si er of_) sp ke ik bi bt so nr ou ho cl :: Bs) _
        rw [n1, mp_pd4 _ _ _ _ _ (by omega) (by omega)]
        exact LN (sp_t tx n i).1 _ _ _ _ _ _ _ (sp_t_pl tx n i hi)
      · skip
        exact absurd (show (sp_t tx n i).2.1 = 4 ∧ 10 ≤ (sp_t tx n i).2.2.1 from ⟨k4, by rw [← kv]; exact (by assumption : 10 ≤ va ∧ va ≤ 14).1⟩) h4
    · skip
      refine am_Rn.go (t := am_t110) rfl 1 rfl ⟨trivial, trivial⟩ ?_
      refine am_Rn.call (t := am_t110) rfl rfl (mm_takes_F (n := n) ..) ?_
      rintro _ _ ⟨rfl, rfl⟩
      refine am_Rn.go (t := am_t110) rfl 8 rfl ⟨trivial, trivial, trivial, trivial, trivial, trivial, trivial, (by exact i0), trivial⟩ ?_
      show am_Rn sc 110 (30, _, _, B0 :: B1 :: B2 :: B3 :: B4 :: B5 :: B6 :: B7 :: B8 :: B9 :: B10 :: B11 :: B12 :: bkModel tr (Int32.ofNat n) nx tk (Int32.ofNat (sp_t tx n i).1) va (Int32.ofNat (sp_t tx n i).1) (Int32.ofNat P) (Int32.ofNat P3) cm tx (mp_ru nu dn) (upd (mp_ps (mp_q la me tc ts) (mp_q la3 me3 tc3 ts3)) (36 + 4 * Int32.ofNat P3).toNatClampNeg (0 - 10)) (mp_s rd pr pv sa pd lo bo co sh se si er of_) sp ke ik bi bt so nr ou ho cl :: Bs) _
      rw [n0, mp_pd4 _ _ _ _ _ (by omega) (by omega)]
      refine am_Rn.go (t := am_t110) rfl 8 rfl ⟨trivial, trivial, trivial, trivial, trivial, trivial, trivial, trivial, trivial⟩ ?_
      refine am_Rn.brF (by decide) ?_
      refine am_Rn.go (t := am_t110) rfl 1 rfl ⟨trivial, trivial⟩ ?_
      refine am_Rn.call (t := am_t110) rfl rfl (mm_isWell ..) ?_
      rintro _ _ ⟨rfl, rfl⟩
      refine am_Rn.go (t := am_t110) rfl 1 rfl ⟨trivial, trivial⟩ ?_
      refine am_Rn.brT (am_b0.mpr (fun z => Int32.not_lt.mpr hp0 z)) ?_
      refine am_Rn.go (t := am_t110) rfl 3 rfl ⟨trivial, trivial, (by exact i1), trivial⟩ ?_
      show am_Rn sc 110 (53, _, _, B0 :: B1 :: B2 :: B3 :: B4 :: B5 :: B6 :: B7 :: B8 :: B9 :: B10 :: B11 :: B12 :: bkModel tr (Int32.ofNat n) nx tk (Int32.ofNat (sp_t tx n i).1) va (Int32.ofNat (sp_t tx n i).1) (Int32.ofNat P) (Int32.ofNat P3) cm tx (mp_ru nu dn) (upd (mp_ps (mp_q la me tc ts) (mp_q (upd la3 P3 (0 - 10)) me3 tc3 ts3)) (36 + 4 * Int32.ofNat P3 + 1).toNatClampNeg 0) (mp_s rd pr pv sa pd lo bo co sh se si er of_) sp ke ik bi bt so nr ou ho cl :: Bs) _
      rw [n1, mp_pd4 _ _ _ _ _ (by omega) (by omega)]
      exact LN (sp_t tx n i).1 _ _ _ _ _ _ _ (sp_t_pl tx n i hi)
