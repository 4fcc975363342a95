theorem sx_readPerson (sc : am_Sc) (tx : Nat → Int32) (n : Nat) (hn : n ≤ 400) (it fa ki va tw : Int32) (i p0 P : Nat) (hP : P ≤ 9) (hi : i ≤ n) (nu la me tc ts : Nat → Int32) (B0 B1 : List am_E) (Bs : am_M) : am_Rn sc 9 (0, am_entry 9 [.ref 64], [], B0 :: B1 :: bkReader tx (Int32.ofNat n) it fa (Int32.ofNat i) (Int32.ofNat p0) ki va tw :: bkRules 96 nu la me tc ts (Int32.ofNat P) :: Bs) (fun r M' => match (if 9 ≤ P then (.inl p0 : Nat ⊕ Int32 × Int32 × Int32 × Int32 × Nat) else sp_pers tx n i) with | .inr X => ∃ pl2 ki2 va2, r = some (.int 1) ∧ M' = B0 :: B1 :: bkReader tx (Int32.ofNat n) it fa (Int32.ofNat X.2.2.2.2) pl2 ki2 va2 tw :: bkRules 96 nu (upd la P X.1) (upd me P X.2.1) (upd tc P X.2.2.1) (upd ts P X.2.2.2.1) (Int32.ofNat (P + 1)) :: Bs | .inl p => ∃ la2 me2 tc2 ts2 nx2 ki2 va2, r = some (.int 0) ∧ M' = B0 :: B1 :: bkReader tx (Int32.ofNat n) it fa nx2 (Int32.ofNat p) ki2 va2 tw :: bkRules 96 nu la2 me2 tc2 ts2 (Int32.ofNat P) :: Bs) := by
  show am_Rn sc 9 (0, [some (.ref 64), none, none], [], _) _
  have hle := sp_t_le tx n i hi
  have e1 : (Int32.ofNat P).toNatClampNeg = P := am_tn P (by omega)
  have L61 : ∀ (law m0 : Int32) (i : Nat) (pl ki va : Int32) (x2 : Option Value), P < 9 → i ≤ n → am_Rn sc 9 (61, [some (.ref 64), some (.int (Int32.ofNat P)), x2], [], B0 :: B1 :: bkReader tx (Int32.ofNat n) it fa (Int32.ofNat i) pl ki va tw :: bkRules 96 nu (upd la P law) (upd me P m0) tc ts (Int32.ofNat P) :: Bs) (fun r M' => match sp_pTail tx n i law m0 with | .inr X => ∃ pl2 ki2 va2, r = some (.int 1) ∧ M' = B0 :: B1 :: bkReader tx (Int32.ofNat n) it fa (Int32.ofNat X.2.2.2.2) pl2 ki2 va2 tw :: bkRules 96 nu (upd la P X.1) (upd me P X.2.1) (upd tc P X.2.2.1) (upd ts P X.2.2.2.1) (Int32.ofNat (P + 1)) :: Bs | .inl p => ∃ la2 me2 tc2 ts2 nx2 ki2 va2, r = some (.int 0) ∧ M' = B0 :: B1 :: bkReader tx (Int32.ofNat n) it fa nx2 (Int32.ofNat p) ki2 va2 tw :: bkRules 96 nu la2 me2 tc2 ts2 (Int32.ofNat P) :: Bs) := by
    intro law m0 i pl ki va x2 hP9 hi
    have hle := sp_t_le tx n i hi
    unfold sp_pTail
    refine am_Rn.go (t := am_t9) rfl 3 rfl ⟨trivial, trivial, trivial, trivial⟩ ?_
    refine am_Rn.call (t := am_t9) rfl rfl (sx_readNumber sc i 0 99 tx n hn it fa _ _ _ tw hi ..) ?_
    rintro _ _ ⟨ki2, va2, rfl, rfl, hv⟩
    refine am_Rn.go (t := am_t9) rfl 1 rfl ⟨trivial, trivial⟩ ?_
    refine am_Rn.brB (fun h1 => ?_) (fun h1 => ?_)
    · skip
      rw [if_neg (show ¬ sp_okN (sp_t tx n i) 0 99 = true from h1)]
      refine am_Rn.go (t := am_t9) rfl 1 rfl ⟨trivial, trivial⟩ ?_
      refine am_Rn.ret (t := am_t9) rfl rfl (by first | exact Or.inl rfl | exact Or.inr rfl | exact am_b01 _) ?_
      first
        | exact ⟨_, _, _, rfl, rfl⟩
        | exact ⟨_, _, _, _, _, _, _, rfl, rfl⟩
    · skip
      have ok1 : sp_okN (sp_t tx n i) 0 99 = true := h1
      rw [if_pos ok1]
      obtain rfl := hv ok1
      refine am_Rn.go (t := am_t9) rfl 7 rfl ⟨trivial, trivial, trivial, trivial, trivial, trivial, (by first | exact am_inb_lit rfl | exact am_inb_of (by omega) (by omega)), trivial⟩ ?_
      show am_Rn sc 9 (75, _, _, B0 :: B1 :: bkReader tx (Int32.ofNat n) it fa (Int32.ofNat (sp_t tx n i).2.2.2) (Int32.ofNat (sp_t tx n i).1) ki2 (sp_t tx n i).2.2.1 tw :: bkRules 96 nu (upd la P law) (upd me P m0) (upd tc (Int32.ofNat P).toNatClampNeg (sp_t tx n i).2.2.1) ts (Int32.ofNat P) :: Bs) _
      rw [e1]
      refine am_Rn.go (t := am_t9) rfl 3 rfl ⟨trivial, trivial, trivial, trivial⟩ ?_
      refine am_Rn.call (t := am_t9) rfl rfl (sx_readNumber sc (sp_t tx n i).2.2.2 0 9 tx n hn it fa _ _ _ tw hle ..) ?_
      rintro _ _ ⟨ki3, va3, rfl, rfl, hv3⟩
      refine am_Rn.go (t := am_t9) rfl 1 rfl ⟨trivial, trivial⟩ ?_
      refine am_Rn.brB (fun h2 => ?_) (fun h2 => ?_)
      · skip
        rw [if_neg (show ¬ sp_okN (sp_t tx n (sp_t tx n i).2.2.2) 0 9 = true from h2)]
        refine am_Rn.go (t := am_t9) rfl 1 rfl ⟨trivial, trivial⟩ ?_
        refine am_Rn.ret (t := am_t9) rfl rfl (by first | exact Or.inl rfl | exact Or.inr rfl | exact am_b01 _) ?_
        first
          | exact ⟨_, _, _, rfl, rfl⟩
          | exact ⟨_, _, _, _, _, _, _, rfl, rfl⟩
      · skip
        have ok2 : sp_okN (sp_t tx n (sp_t tx n i).2.2.2) 0 9 = true := h2
        rw [if_pos ok2]
        obtain rfl := hv3 ok2
        refine am_Rn.go (t := am_t9) rfl 7 rfl ⟨trivial, trivial, trivial, trivial, trivial, trivial, (by first | exact am_inb_lit rfl | exact am_inb_of (by omega) (by omega)), trivial⟩ ?_
        show am_Rn sc 9 (89, _, _, B0 :: B1 :: bkReader tx (Int32.ofNat n) it fa (Int32.ofNat (sp_t tx n (sp_t tx n i).2.2.2).2.2.2) (Int32.ofNat (sp_t tx n (sp_t tx n i).2.2.2).1) ki3 (sp_t tx n (sp_t tx n i).2.2.2).2.2.1 tw :: bkRules 96 nu (upd la P law) (upd me P m0) (upd tc P (sp_t tx n i).2.2.1) (upd ts (Int32.ofNat P).toNatClampNeg (sp_t tx n (sp_t tx n i).2.2.2).2.2.1) (Int32.ofNat P) :: Bs) _
        rw [e1]
        refine am_Rn.go (t := am_t9) rfl 7 rfl ⟨trivial, trivial, trivial, trivial, trivial, trivial, trivial, trivial⟩ ?_
        show am_Rn sc 9 (96, _, _, B0 :: B1 :: bkReader tx (Int32.ofNat n) it fa (Int32.ofNat (sp_t tx n (sp_t tx n i).2.2.2).2.2.2) (Int32.ofNat (sp_t tx n (sp_t tx n i).2.2.2).1) ki3 (sp_t tx n (sp_t tx n i).2.2.2).2.2.1 tw :: bkRules 96 nu (upd la P law) (upd me P m0) (upd tc P (sp_t tx n i).2.2.1) (upd ts P (sp_t tx n (sp_t tx n i).2.2.2).2.2.1) (Int32.ofNat P + 1) :: Bs) _
        rw [am_inc]
        refine am_Rn.go (t := am_t9) rfl 1 rfl ⟨trivial, trivial⟩ ?_
        refine am_Rn.ret (t := am_t9) rfl rfl (by first | exact Or.inl rfl | exact Or.inr rfl | exact am_b01 _) ?_
        first
          | exact ⟨_, _, _, rfl, rfl⟩
          | exact ⟨_, _, _, _, _, _, _, rfl, rfl⟩
  refine am_Rn.go (t := am_t9) rfl 6 rfl ⟨trivial, trivial, trivial, trivial, trivial, trivial, trivial⟩ ?_
  refine am_Rn.brF (fun q => absurd ((am_lt (j := 0) (by omega) (by omega)).mp q) (by omega)) ?_
  refine am_Rn.go (t := am_t9) rfl 3 rfl ⟨trivial, trivial, trivial, trivial⟩ ?_
  refine am_Rn.br (fun h2 => ?_) (fun h2 => ?_)
  · skip
    have hp9 : ¬ 9 ≤ P := fun q => absurd ((am_lt (j := 9) (by omega) (by omega)).mp h2) (by omega)
    rw [if_neg hp9]
    unfold sp_pers
    refine am_Rn.go (t := am_t9) rfl 1 rfl ⟨trivial, trivial⟩ ?_
    refine am_Rn.call (t := am_t9) rfl rfl (sx_readToken sc i tx n hn it fa _ _ va tw hi ..) ?_
    rintro _ _ ⟨rfl, rfl⟩
    obtain ⟨t1, t2, t3, t4⟩ := sp_tok_va tx n i va
    rw [t1, t3]
    generalize (sp_tok tx n i va).2.1 = ki2 at t2 ⊢
    generalize (sp_tok tx n i va).2.2.1 = va2 at t4 ⊢
    refine am_Rn.go (t := am_t9) rfl 4 rfl ⟨trivial, trivial, trivial, trivial, trivial⟩ ?_
    refine am_Rn.br (fun h3 => ?_) (fun h3 => ?_)
    · skip
      have k1 := t2.symm.trans h3
      obtain rfl := t4 (Or.inr k1)
      refine am_Rn.go (t := am_t9) rfl 4 rfl ⟨trivial, trivial, trivial, trivial, trivial⟩ ?_
      refine am_Rn.br (fun h4 => ?_) (fun h4 => ?_)
      · skip
        rw [if_pos ⟨k1, h4⟩]
        refine am_Rn.go (t := am_t9) rfl 11 rfl ⟨trivial, trivial, trivial, trivial, trivial, trivial, trivial, trivial, trivial, trivial, (by first | exact am_inb_lit rfl | exact am_inb_of (by omega) (by omega)), trivial⟩ ?_
        show am_Rn sc 9 (34, _, _, B0 :: B1 :: bkReader tx (Int32.ofNat n) it fa (Int32.ofNat (sp_t tx n i).2.2.2) (Int32.ofNat (sp_t tx n i).1) ki2 (sp_t tx n i).2.2.1 tw :: bkRules 96 nu (upd la (Int32.ofNat P).toNatClampNeg ((sp_t tx n i).2.2.1 - 10)) me tc ts (Int32.ofNat P) :: Bs) _
        rw [e1]
        refine am_Rn.go (t := am_t9) rfl 6 rfl ⟨trivial, trivial, trivial, trivial, trivial, (by first | exact am_inb_lit rfl | exact am_inb_of (by omega) (by omega)), trivial⟩ ?_
        show am_Rn sc 9 (40, _, _, B0 :: B1 :: bkReader tx (Int32.ofNat n) it fa (Int32.ofNat (sp_t tx n i).2.2.2) (Int32.ofNat (sp_t tx n i).1) ki2 (sp_t tx n i).2.2.1 tw :: bkRules 96 nu (upd la P ((sp_t tx n i).2.2.1 - 10)) (upd me (Int32.ofNat P).toNatClampNeg 0) tc ts (Int32.ofNat P) :: Bs) _
        rw [e1]
        refine am_Rn.go (t := am_t9) rfl 2 rfl ⟨trivial, trivial, trivial⟩ ?_
        refine am_Rn.br (fun h5 => ?_) (fun h5 => ?_)
        · skip
          have k2 : ((sp_t tx n i).2.2.1 - 10) = 0 := h5
          rw [if_pos k2]
          have g := L61 ((sp_t tx n i).2.2.1 - 10) 0 (sp_t tx n i).2.2.2 (Int32.ofNat (sp_t tx n i).1) ki2 (sp_t tx n i).2.2.1 (some (.int ((sp_t tx n i).2.2.1 - 10))) (by omega) hle
          rw [k2] at g ⊢
          exact g
        · skip
          have k2 : ¬ ((sp_t tx n i).2.2.1 - 10) = 0 := h5
          rw [if_neg k2]
          refine am_Rn.go (t := am_t9) rfl 5 rfl ⟨trivial, trivial, trivial, trivial, trivial, trivial⟩ ?_
          refine am_Rn.br (fun h6 => ?_) (fun h6 => ?_)
          · skip
            have k3 : ((sp_t tx n i).2.2.1 - 10) = 3 := h6
            rw [if_pos k3]
            refine am_Rn.go (t := am_t9) rfl 2 rfl ⟨trivial, trivial, trivial⟩ ?_
            refine am_Rn.call (t := am_t9) rfl rfl (sx_readNumber sc (sp_t tx n i).2.2.2 1 99 tx n hn it fa _ _ _ tw hle ..) ?_
            rintro _ _ ⟨ki3, va3, rfl, rfl, hv3⟩
            refine am_Rn.go (t := am_t9) rfl 1 rfl ⟨trivial, trivial⟩ ?_
            refine am_Rn.brB (fun h7 => ?_) (fun h7 => ?_)
            · skip
              rw [if_neg h7]
              refine am_Rn.go (t := am_t9) rfl 1 rfl ⟨trivial, trivial⟩ ?_
              refine am_Rn.ret (t := am_t9) rfl rfl (by first | exact Or.inl rfl | exact Or.inr rfl | exact am_b01 _) ?_
              exact ⟨_, _, _, _, _, _, _, rfl, rfl⟩
            · skip
              have ok1 := h7
              rw [if_pos ok1]
              obtain rfl := hv3 ok1
              refine am_Rn.go (t := am_t9) rfl 7 rfl ⟨trivial, trivial, trivial, trivial, trivial, trivial, (by first | exact am_inb_lit rfl | exact am_inb_of (by omega) (by omega)), trivial⟩ ?_
              rw [e1, am_upd_upd]
              exact L61 _ _ _ _ _ _ _ (by omega) (sp_t_le tx n _ hle)
          · skip
            have k3 : ¬ ((sp_t tx n i).2.2.1 - 10) = 3 := h6
            rw [if_neg k3]
            refine am_Rn.go (t := am_t9) rfl 1 rfl ⟨trivial, trivial⟩ ?_
            refine am_Rn.call (t := am_t9) rfl rfl (sx_readNumber sc (sp_t tx n i).2.2.2 1 9 tx n hn it fa _ _ _ tw hle ..) ?_
            rintro _ _ ⟨ki3, va3, rfl, rfl, hv3⟩
            refine am_Rn.go (t := am_t9) rfl 1 rfl ⟨trivial, trivial⟩ ?_
            refine am_Rn.brB (fun h8 => ?_) (fun h8 => ?_)
            · skip
              rw [if_neg h8]
              refine am_Rn.go (t := am_t9) rfl 1 rfl ⟨trivial, trivial⟩ ?_
              refine am_Rn.ret (t := am_t9) rfl rfl (by first | exact Or.inl rfl | exact Or.inr rfl | exact am_b01 _) ?_
              exact ⟨_, _, _, _, _, _, _, rfl, rfl⟩
            · skip
              have ok1 := h8
              rw [if_pos ok1]
              obtain rfl := hv3 ok1
              refine am_Rn.go (t := am_t9) rfl 7 rfl ⟨trivial, trivial, trivial, trivial, trivial, trivial, (by first | exact am_inb_lit rfl | exact am_inb_of (by omega) (by omega)), trivial⟩ ?_
              rw [e1, am_upd_upd]
              exact L61 _ _ _ _ _ _ _ (by omega) (sp_t_le tx n _ hle)
      · skip
        rw [if_neg (fun z => h4 z.2)]
        refine am_Rn.go (t := am_t9) rfl 1 rfl ⟨trivial, trivial⟩ ?_
        refine am_Rn.ret (t := am_t9) rfl rfl (by first | exact Or.inl rfl | exact Or.inr rfl | exact am_b01 _) ?_
        exact ⟨_, _, _, _, _, _, _, rfl, rfl⟩
    · skip
      have k1 : ¬ (sp_t tx n i).2.1 = 4 := fun z => h3 (t2.trans z)
      rw [if_neg (fun z => k1 z.1)]
      refine am_Rn.go (t := am_t9) rfl 1 rfl ⟨trivial, trivial⟩ ?_
      refine am_Rn.ret (t := am_t9) rfl rfl (by first | exact Or.inl rfl | exact Or.inr rfl | exact am_b01 _) ?_
      exact ⟨_, _, _, _, _, _, _, rfl, rfl⟩
  · skip
    have hp9 : 9 ≤ P := Nat.le_of_not_lt (fun q => h2 ((am_lt (j := 9) (by omega) (by omega)).mpr q))
    rw [if_pos hp9]
    refine am_Rn.go (t := am_t9) rfl 1 rfl ⟨trivial, trivial⟩ ?_
    refine am_Rn.ret (t := am_t9) rfl rfl (by first | exact Or.inl rfl | exact Or.inr rfl | exact am_b01 _) ?_
    exact ⟨_, _, _, _, _, _, _, rfl, rfl⟩
