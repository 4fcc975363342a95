theorem sx_read (sc : am_Sc) (tx : Nat → Int32) (n : Nat) (hn : n ≤ 400) (it fa nx pl ki va tw : Int32) (nu la me tc ts : Nat → Int32) (pe : Int32) (B0 B1 : List am_E) (Bs : am_M) : am_Rn sc 7 (0, am_entry 7 [.ref 64], [], B0 :: B1 :: bkReader tx (Int32.ofNat n) it fa nx pl ki va tw :: bkRules 96 nu la me tc ts pe :: Bs) (fun r M' => match sp_items tx n 401 0 0 (sp_usual nu, la, me, tc, ts, 0) 0 with | .inr X => ∃ fa2 nx2 pl2 ki2 va2 tw2, r = some (.int 1) ∧ M' = B0 :: B1 :: bkReader tx (Int32.ofNat n) (Int32.ofNat X.2) fa2 nx2 pl2 ki2 va2 tw2 :: bkRules 96 (sp_settle X.1.1) X.1.2.1 X.1.2.2.1 X.1.2.2.2.1 X.1.2.2.2.2.1 (Int32.ofNat X.1.2.2.2.2.2) :: Bs | .inl p => ∃ it2 nx2 pl2 ki2 va2 tw2 nu2 la2 me2 tc2 ts2 pe2, r = some (.int 0) ∧ M' = B0 :: B1 :: bkReader tx (Int32.ofNat n) it2 (Int32.ofNat p) nx2 pl2 ki2 va2 tw2 :: bkRules 96 nu2 la2 me2 tc2 ts2 pe2 :: Bs) := by
  show am_Rn sc 7 (0, [some (.ref 64), none, none], [], _) _
  have L : ∀ (d j i : Nat) (tw : Int32) (nu la me tc ts : Nat → Int32) (P : Nat) (fa pl ki va : Int32) (x2 : Option Value), j + d = 401 → i ≤ n → P ≤ 9 → am_Rn sc 7 (14, [some (.ref 64), some (.int (Int32.ofNat j)), x2], [], B0 :: B1 :: bkReader tx (Int32.ofNat n) (Int32.ofNat j) fa (Int32.ofNat i) pl ki va tw :: bkRules 96 nu la me tc ts (Int32.ofNat P) :: Bs) (fun r M' => match sp_items tx n d i tw (nu, la, me, tc, ts, P) j with | .inr X => ∃ fa2 nx2 pl2 ki2 va2 tw2, r = some (.int 1) ∧ M' = B0 :: B1 :: bkReader tx (Int32.ofNat n) (Int32.ofNat X.2) fa2 nx2 pl2 ki2 va2 tw2 :: bkRules 96 (sp_settle X.1.1) X.1.2.1 X.1.2.2.1 X.1.2.2.2.1 X.1.2.2.2.2.1 (Int32.ofNat X.1.2.2.2.2.2) :: Bs | .inl p => ∃ it2 nx2 pl2 ki2 va2 tw2 nu2 la2 me2 tc2 ts2 pe2, r = some (.int 0) ∧ M' = B0 :: B1 :: bkReader tx (Int32.ofNat n) it2 (Int32.ofNat p) nx2 pl2 ki2 va2 tw2 :: bkRules 96 nu2 la2 me2 tc2 ts2 pe2 :: Bs) := by
    intro d
    induction d with
    | zero =>
      intro j i tw nu la me tc ts P fa pl ki va x2 hj hi hP
      obtain rfl : j = 401 := by omega
      refine am_Rn.go (t := am_t7) rfl 3 rfl ⟨trivial, trivial, trivial, trivial⟩ ?_
      refine am_Rn.brT (by decide) ?_
      have hz : sp_items tx n 0 i tw (nu, la, me, tc, ts, P) 401 = .inr ((nu, la, me, tc, ts, P), 401) := rfl
      rw [hz]
      refine am_Rn.go (t := am_t7) rfl 2 rfl ⟨trivial, trivial, trivial⟩ ?_
      refine am_Rn.call (t := am_t7) rfl rfl (sx_settle_d ..) ?_
      rintro _ _ ⟨rfl, rfl⟩
      refine am_Rn.go (t := am_t7) rfl 1 rfl ⟨trivial, trivial⟩ ?_
      refine am_Rn.ret (t := am_t7) rfl rfl (by first | exact Or.inl rfl | exact Or.inr rfl | exact am_b01 _) ?_
      exact ⟨_, _, _, _, _, _, rfl, rfl⟩
    | succ d ih =>
      intro j i tw nu la me tc ts P fa pl ki va x2 hj hi hP
      have hle := sp_t_le tx n i hi
      have hgt : ¬ Int32.ofNat 400 < Int32.ofNat j := fun q => absurd ((am_lt (by omega) (by omega)).mp q) (by omega)
      have hU : sp_items tx n (d + 1) i tw (nu, la, me, tc, ts, P) j = (if (sp_t tx n i).2.1 = 1 then .inr ((nu, la, me, tc, ts, P), j) else match sp_item tx n i tw (nu, la, me, tc, ts, P) with | .inl p => .inl p | .inr X => sp_items tx n d X.2.2 X.2.1 X.1 (j + 1)) := rfl
      refine am_Rn.go (t := am_t7) rfl 3 rfl ⟨trivial, trivial, trivial, trivial⟩ ?_
      refine am_Rn.brF hgt ?_
      refine am_Rn.go (t := am_t7) rfl 1 rfl ⟨trivial, trivial⟩ ?_
      refine am_Rn.call (t := am_t7) rfl rfl (sx_readToken sc i tx n hn _ fa pl ki va tw hi ..) ?_
      rintro _ _ ⟨rfl, rfl⟩
      obtain ⟨t1, t2, t3, t4⟩ := sp_tok_va tx n i va
      rw [t1, t3]
      generalize (sp_tok tx n i va).2.1 = ki2 at t2 ⊢
      generalize (sp_tok tx n i va).2.2.1 = va2 at t4 ⊢
      refine am_Rn.go (t := am_t7) rfl 4 rfl ⟨trivial, trivial, trivial, trivial, trivial⟩ ?_
      refine am_Rn.br (fun h2 => ?_) (fun h2 => ?_)
      · skip
        have k1 := t2.symm.trans h2
        have hz : sp_items tx n (d + 1) i tw (nu, la, me, tc, ts, P) j = .inr ((nu, la, me, tc, ts, P), j) := by rw [hU, if_pos k1]
        rw [hz]
        refine am_Rn.go (t := am_t7) rfl 1 rfl ⟨trivial, trivial⟩ ?_
        refine am_Rn.go (t := am_t7) rfl 2 rfl ⟨trivial, trivial, trivial⟩ ?_
        refine am_Rn.call (t := am_t7) rfl rfl (sx_settle_d ..) ?_
        rintro _ _ ⟨rfl, rfl⟩
        refine am_Rn.go (t := am_t7) rfl 1 rfl ⟨trivial, trivial⟩ ?_
        refine am_Rn.ret (t := am_t7) rfl rfl (by first | exact Or.inl rfl | exact Or.inr rfl | exact am_b01 _) ?_
        exact ⟨_, _, _, _, _, _, rfl, rfl⟩
      · skip
        have k1 : ¬ (sp_t tx n i).2.1 = 1 := fun z => h2 (t2.trans z)
        refine am_Rn.go (t := am_t7) rfl 4 rfl ⟨trivial, trivial, trivial, trivial, trivial⟩ ?_
        refine am_Rn.br (fun h3 => ?_) (fun h3 => ?_)
        · skip
          have k4 := t2.symm.trans h3
          have hv := t4 (Or.inr k4)
          refine am_Rn.go (t := am_t7) rfl 4 rfl ⟨trivial, trivial, trivial, trivial, trivial⟩ ?_
          refine am_Rn.br (fun h4 => ?_) (fun h4 => ?_)
          · skip
            have k9 := hv.symm.trans h4
            refine am_Rn.go (t := am_t7) rfl 1 rfl ⟨trivial, trivial⟩ ?_
            refine am_Rn.call (t := am_t7) rfl rfl (sx_readPerson sc tx n hn _ fa _ _ tw (sp_t tx n i).2.2.2 (sp_t tx n i).1 P hP hle ..) ?_
            intro r M' h
            have hI0 : sp_item tx n i tw (nu, la, me, tc, ts, P) = sp_itPer tx n tw (nu, la, me, tc, ts, P) (if 9 ≤ P then (.inl (sp_t tx n i).1 : Nat ⊕ Int32 × Int32 × Int32 × Int32 × Nat) else sp_pers tx n (sp_t tx n i).2.2.2) := by
              show (if (sp_t tx n i).2.1 = 4 then _ else _) = _
              rw [if_pos k4]
              exact if_pos k9
            generalize hS : (if 9 ≤ P then (.inl (sp_t tx n i).1 : Nat ⊕ Int32 × Int32 × Int32 × Int32 × Nat) else sp_pers tx n (sp_t tx n i).2.2.2) = S at h hI0
            rcases S with p | X
            · skip
              obtain ⟨la2, me2, tc2, ts2, nx2, ki3, va3, rfl, rfl⟩ := h
              have hI : sp_item tx n i tw (nu, la, me, tc, ts, P) = .inl p := hI0
              rw [hU, if_neg k1, hI]
              refine am_Rn.go (t := am_t7) rfl 1 rfl ⟨trivial, trivial⟩ ?_
              refine am_Rn.brT (by decide) ?_
              refine am_Rn.go (t := am_t7) rfl 4 rfl ⟨trivial, trivial, trivial, trivial, trivial⟩ ?_
              refine am_Rn.brT (by decide) ?_
              refine am_Rn.go (t := am_t7) rfl 5 rfl ⟨trivial, trivial, trivial, trivial, trivial, trivial⟩ ?_
              refine am_Rn.ret (t := am_t7) rfl rfl (by first | exact Or.inl rfl | exact Or.inr rfl | exact am_b01 _) ?_
              exact ⟨_, _, _, _, _, _, _, _, _, _, _, _, rfl, rfl⟩
            · skip
              obtain ⟨pl2, ki3, va3, rfl, rfl⟩ := h
              have hP9 : ¬ 9 ≤ P := fun q => by rw [if_pos q] at hS; cases hS
              rw [if_neg hP9] at hS
              have hle1 : X.2.2.2.2 ≤ n := sp_pers_le hle hS
              have hI : sp_item tx n i tw (nu, la, me, tc, ts, P) = sp_stop tx n X.2.2.2.2 (sp_perD (nu, la, me, tc, ts, P) X) tw := hI0
              refine am_Rn.go (t := am_t7) rfl 1 rfl ⟨trivial, trivial⟩ ?_
              refine am_Rn.brF (by decide) ?_
              refine am_Rn.go (t := am_t7) rfl 1 rfl ⟨trivial, trivial⟩ ?_
              have hle2 := sp_t_le tx n X.2.2.2.2 hle1
              refine am_Rn.go (t := am_t7) rfl 5 rfl ⟨trivial, trivial, trivial, trivial, trivial, trivial⟩ ?_
              refine am_Rn.brF (by decide) ?_
              refine am_Rn.go (t := am_t7) rfl 1 rfl ⟨trivial, trivial⟩ ?_
              refine am_Rn.call (t := am_t7) rfl rfl (sx_readStop sc X.2.2.2.2 tx n hn _ fa _ _ _ _ hle1 ..) ?_
              rintro _ _ ⟨ki4, va4, rfl, rfl⟩
              refine am_Rn.go (t := am_t7) rfl 1 rfl ⟨trivial, trivial⟩ ?_
              refine am_Rn.brB (fun h2 => ?_) (fun h2 => ?_)
              · skip
                have ks := h2
                have hI2 : sp_item tx n i tw (nu, la, me, tc, ts, P) = .inl (sp_t tx n X.2.2.2.2).1 := by rw [hI]; exact if_neg ks
                rw [hU, if_neg k1, hI2]
                refine am_Rn.go (t := am_t7) rfl 5 rfl ⟨trivial, trivial, trivial, trivial, trivial, trivial⟩ ?_
                refine am_Rn.ret (t := am_t7) rfl rfl (by first | exact Or.inl rfl | exact Or.inr rfl | exact am_b01 _) ?_
                exact ⟨_, _, _, _, _, _, _, _, _, _, _, _, rfl, rfl⟩
              · skip
                have ks := h2
                have hI2 : sp_item tx n i tw (nu, la, me, tc, ts, P) = .inr (sp_perD (nu, la, me, tc, ts, P) X, tw, (sp_t tx n X.2.2.2.2).2.2.2) := by rw [hI]; exact if_pos ks
                have hR : sp_items tx n (d + 1) i tw (nu, la, me, tc, ts, P) j = sp_items tx n d (sp_t tx n X.2.2.2.2).2.2.2 tw (nu, upd la P X.1, upd me P X.2.1, upd tc P X.2.2.1, upd ts P X.2.2.2.1, P + 1) (j + 1) := by rw [hU, if_neg k1, hI2]; first | done | rfl
                rw [hR]
                refine am_Rn.go (t := am_t7) rfl 8 rfl ⟨trivial, trivial, trivial, trivial, trivial, trivial, trivial, trivial, trivial⟩ ?_
                have g := ih (j + 1) (sp_t tx n X.2.2.2.2).2.2.2 tw nu (upd la P X.1) (upd me P X.2.1) (upd tc P X.2.2.1) (upd ts P X.2.2.2.1) (P + 1) fa (Int32.ofNat (sp_t tx n X.2.2.2.2).1) ki4 va4 (some (.int 1)) (by omega) hle2 (by omega)
                rw [← am_inc j] at g
                exact g
          · skip
            have k9 : ¬ va2 = 9 := h4
            obtain ⟨w, hw, hw1⟩ := sp_t_word tx n i k4
            obtain rfl : va2 = Int32.ofNat w := hv.trans hw1
            have hw2 : Int32.ofNat w = (sp_t tx n i).2.2.1 := hw1.symm
            refine am_Rn.go (t := am_t7) rfl 3 rfl ⟨trivial, trivial, trivial, trivial⟩ ?_
            refine am_Rn.call (t := am_t7) rfl rfl (sx_readRule sc tx n hn _ fa _ _ tw w (sp_t tx n i).2.2.2 (sp_t tx n i).1 hw hle ..) ?_
            intro r M' h
            have hI0 : sp_item tx n i tw (nu, la, me, tc, ts, P) = sp_itRule tx n (sp_tell tw w) (nu, la, me, tc, ts, P) (sp_rule tx n w (sp_t tx n i).2.2.2 (sp_t tx n i).1 tw nu) := by
              show (if (sp_t tx n i).2.1 = 4 then _ else _) = _
              rw [if_pos k4, if_neg (fun z => k9 (hw2.trans z)), ← hw2, am_tn w (by omega)]
            generalize hS : sp_rule tx n w (sp_t tx n i).2.2.2 (sp_t tx n i).1 tw nu = S at h hI0
            rcases S with p | X
            · skip
              obtain ⟨nu2, nx2, ki3, va3, tw2, rfl, rfl⟩ := h
              have hI : sp_item tx n i tw (nu, la, me, tc, ts, P) = .inl p := hI0
              rw [hU, if_neg k1, hI]
              refine am_Rn.go (t := am_t7) rfl 1 rfl ⟨trivial, trivial⟩ ?_
              refine am_Rn.brT (by decide) ?_
              refine am_Rn.go (t := am_t7) rfl 4 rfl ⟨trivial, trivial, trivial, trivial, trivial⟩ ?_
              refine am_Rn.brT (by decide) ?_
              refine am_Rn.go (t := am_t7) rfl 5 rfl ⟨trivial, trivial, trivial, trivial, trivial, trivial⟩ ?_
              refine am_Rn.ret (t := am_t7) rfl rfl (by first | exact Or.inl rfl | exact Or.inr rfl | exact am_b01 _) ?_
              exact ⟨_, _, _, _, _, _, _, _, _, _, _, _, rfl, rfl⟩
            · skip
              obtain ⟨pl2, ki3, va3, rfl, rfl⟩ := h
              have hle1 : X.2 ≤ n := sp_rule_le hle hS
              have hI : sp_item tx n i tw (nu, la, me, tc, ts, P) = sp_stop tx n X.2 (X.1, la, me, tc, ts, P) (sp_tell tw w) := hI0
              refine am_Rn.go (t := am_t7) rfl 1 rfl ⟨trivial, trivial⟩ ?_
              refine am_Rn.brF (by decide) ?_
              have hle2 := sp_t_le tx n X.2 hle1
              refine am_Rn.go (t := am_t7) rfl 5 rfl ⟨trivial, trivial, trivial, trivial, trivial, trivial⟩ ?_
              refine am_Rn.brF (by decide) ?_
              refine am_Rn.go (t := am_t7) rfl 1 rfl ⟨trivial, trivial⟩ ?_
              refine am_Rn.call (t := am_t7) rfl rfl (sx_readStop sc X.2 tx n hn _ fa _ _ _ _ hle1 ..) ?_
              rintro _ _ ⟨ki4, va4, rfl, rfl⟩
              refine am_Rn.go (t := am_t7) rfl 1 rfl ⟨trivial, trivial⟩ ?_
              refine am_Rn.brB (fun h2 => ?_) (fun h2 => ?_)
              · skip
                have ks := h2
                have hI2 : sp_item tx n i tw (nu, la, me, tc, ts, P) = .inl (sp_t tx n X.2).1 := by rw [hI]; exact if_neg ks
                rw [hU, if_neg k1, hI2]
                refine am_Rn.go (t := am_t7) rfl 5 rfl ⟨trivial, trivial, trivial, trivial, trivial, trivial⟩ ?_
                refine am_Rn.ret (t := am_t7) rfl rfl (by first | exact Or.inl rfl | exact Or.inr rfl | exact am_b01 _) ?_
                exact ⟨_, _, _, _, _, _, _, _, _, _, _, _, rfl, rfl⟩
              · skip
                have ks := h2
                have hI2 : sp_item tx n i tw (nu, la, me, tc, ts, P) = .inr ((X.1, la, me, tc, ts, P), (sp_tell tw w), (sp_t tx n X.2).2.2.2) := by rw [hI]; exact if_pos ks
                have hR : sp_items tx n (d + 1) i tw (nu, la, me, tc, ts, P) j = sp_items tx n d (sp_t tx n X.2).2.2.2 (sp_tell tw w) (X.1, la, me, tc, ts, P) (j + 1) := by rw [hU, if_neg k1, hI2]; first | done | rfl
                rw [hR]
                refine am_Rn.go (t := am_t7) rfl 8 rfl ⟨trivial, trivial, trivial, trivial, trivial, trivial, trivial, trivial, trivial⟩ ?_
                have g := ih (j + 1) (sp_t tx n X.2).2.2.2 (sp_tell tw w) X.1 la me tc ts P fa (Int32.ofNat (sp_t tx n X.2).1) ki4 va4 (some (.int 1)) (by omega) hle2 (by omega)
                rw [← am_inc j] at g
                exact g
        · skip
          have k4 : ¬ (sp_t tx n i).2.1 = 4 := fun z => h3 (t2.trans z)
          have hI : sp_item tx n i tw (nu, la, me, tc, ts, P) = .inl (sp_t tx n i).1 := if_neg k4
          rw [hU, if_neg k1, hI]
          refine am_Rn.go (t := am_t7) rfl 4 rfl ⟨trivial, trivial, trivial, trivial, trivial⟩ ?_
          refine am_Rn.brT (by decide) ?_
          refine am_Rn.go (t := am_t7) rfl 5 rfl ⟨trivial, trivial, trivial, trivial, trivial, trivial⟩ ?_
          refine am_Rn.ret (t := am_t7) rfl rfl (by first | exact Or.inl rfl | exact Or.inr rfl | exact am_b01 _) ?_
          exact ⟨_, _, _, _, _, _, _, _, _, _, _, _, rfl, rfl⟩
  refine am_Rn.go (t := am_t7) rfl 2 rfl ⟨trivial, trivial, trivial⟩ ?_
  refine am_Rn.call (t := am_t7) rfl rfl (sx_empty_d ..) ?_
  rintro _ _ ⟨rfl, rfl⟩
  refine am_Rn.go (t := am_t7) rfl 11 rfl ⟨trivial, trivial, trivial, trivial, trivial, trivial, trivial, trivial, trivial, trivial, trivial, trivial⟩ ?_
  exact L 401 0 0 0 _ la me tc ts 0 _ _ _ _ _ (by omega) (by omega) (by omega)
