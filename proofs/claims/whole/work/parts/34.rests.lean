theorem sx_isRest (sc : am_Sc) (m l : Nat) (hm : m ≤ 3) (hl : l ≤ 9) (nr ho ou : Nat → Int32) (rc fr : Int32) (B0 B1 B2 B3 B4 B5 B6 B7 B8 B9 B10 : List am_E) (Bs : am_M) : am_Rn sc 23 (0, am_entry 23 [.ref 352, .int (Int32.ofNat m), .int (Int32.ofNat l)], [], B0 :: B1 :: B2 :: B3 :: B4 :: B5 :: B6 :: B7 :: B8 :: B9 :: B10 :: bkRiders nr ho ou rc fr :: Bs) (fun r M' => r = some (.int (am_b (sp_rest nr ou m l = true))) ∧ M' = B0 :: B1 :: B2 :: B3 :: B4 :: B5 :: B6 :: B7 :: B8 :: B9 :: B10 :: bkRiders nr ho ou rc fr :: Bs) := by
  show am_Rn sc 23 (0, [some (.ref 352), some (.int (Int32.ofNat m)), some (.int (Int32.ofNat l)), none, none, none, none, none], [], _) _
  have LI : ∀ (i : Nat), i < m → ∀ (K : Option Value → am_M → Prop), (∀ (x7 : Option Value) (v : Int32), am_Rn sc 23 (46, [some (.ref 352), some (.int (Int32.ofNat m)), some (.int (Int32.ofNat l)), some (.int (Int32.ofNat i)), some (.int (ou i)), some (.int (sp_share nr ou m i)), some (.int (am_b (sp_stays nr ou m l i = true))), x7], [], B0 :: B1 :: B2 :: B3 :: B4 :: B5 :: B6 :: B7 :: B8 :: B9 :: B10 :: bkRiders nr ho (upd ou i v) rc fr :: Bs) K) → ∀ (d j : Nat) (v : Int32), j + d = l + 1 → am_Rn sc 23 (24, [some (.ref 352), some (.int (Int32.ofNat m)), some (.int (Int32.ofNat l)), some (.int (Int32.ofNat i)), some (.int (ou i)), some (.int (sp_share nr ou m i)), some (.int (am_b ((am_fold j (sp_stayOne nr ou m i (sp_share nr ou m i)) true) = true))), some (.int (Int32.ofNat j))], [], B0 :: B1 :: B2 :: B3 :: B4 :: B5 :: B6 :: B7 :: B8 :: B9 :: B10 :: bkRiders nr ho (upd ou i v) rc fr :: Bs) K := by
    intro i him K hk d
    have e2 : (Int32.ofNat i).toNatClampNeg = i := am_tn i (by omega)
    induction d with
    | zero =>
      intro j v hj
      obtain rfl : j = l + 1 := by omega
      refine am_Rn.go (t := am_t23) rfl 3 rfl ⟨trivial, trivial, trivial, trivial⟩ ?_
      refine am_Rn.brT ((am_lt (by omega) (by omega)).mpr (by omega)) ?_
      exact hk _ v
    | succ d ih =>
      intro j v hj
      have hle : ¬ Int32.ofNat l < Int32.ofNat j := fun q => absurd ((am_lt (by omega) (by omega)).mp q) (by omega)
      have hst := am_fold_succ j (sp_stayOne nr ou m i (sp_share nr ou m i)) true
      generalize hF : (am_fold j (sp_stayOne nr ou m i (sp_share nr ou m i)) true) = b at hst ⊢
      cases b with
      | false =>
        have h0 : am_fold (j + 1) (sp_stayOne nr ou m i (sp_share nr ou m i)) true = false := by rw [hst]; rfl
        have g := ih (j + 1) (Int32.ofNat j) (by omega)
        rw [h0, ← am_inc] at g
        refine am_Rn.go (t := am_t23) rfl 3 rfl ⟨trivial, trivial, trivial, trivial⟩ ?_
        refine am_Rn.brF hle ?_
        refine am_Rn.go (t := am_t23) rfl 5 rfl ⟨trivial, trivial, trivial, trivial, (by exact am_inb_of (by omega) (by omega)), trivial⟩ ?_
        show am_Rn sc 23 (32, _, _, B0 :: B1 :: B2 :: B3 :: B4 :: B5 :: B6 :: B7 :: B8 :: B9 :: B10 :: bkRiders nr ho (upd (upd ou i v) (Int32.ofNat i).toNatClampNeg (Int32.ofNat j)) rc fr :: Bs) _
        rw [e2, am_upd_upd]
        refine am_Rn.go (t := am_t23) rfl 2 rfl ⟨trivial, trivial, trivial⟩ ?_
        refine am_Rn.brT (am_b0.mpr (by decide)) ?_
        refine am_Rn.go (t := am_t23) rfl 4 rfl ⟨trivial, trivial, trivial, trivial, trivial⟩ ?_
        exact g
      | true =>
        have g := ih (j + 1) (Int32.ofNat j) (by omega)
        rw [hst, ← am_inc] at g
        refine am_Rn.go (t := am_t23) rfl 3 rfl ⟨trivial, trivial, trivial, trivial⟩ ?_
        refine am_Rn.brF hle ?_
        refine am_Rn.go (t := am_t23) rfl 5 rfl ⟨trivial, trivial, trivial, trivial, (by first | exact am_inb_lit rfl | exact am_inb_of (by omega) (by omega)), trivial⟩ ?_
        show am_Rn sc 23 (32, _, _, B0 :: B1 :: B2 :: B3 :: B4 :: B5 :: B6 :: B7 :: B8 :: B9 :: B10 :: bkRiders nr ho (upd (upd ou i v) (Int32.ofNat i).toNatClampNeg (Int32.ofNat j)) rc fr :: Bs) _
        rw [e2, am_upd_upd]
        refine am_Rn.go (t := am_t23) rfl 2 rfl ⟨trivial, trivial, trivial⟩ ?_
        refine am_Rn.brF (fun q => absurd (am_b0.mp q) (by decide)) ?_
        refine am_Rn.go (t := am_t23) rfl 3 rfl ⟨trivial, trivial, trivial, trivial⟩ ?_
        refine am_Rn.call (t := am_t23) rfl rfl (sx_shareOf sc m i him hm nr ho (upd ou i (Int32.ofNat j)) ..) ?_
        rintro _ _ ⟨rfl, rfl⟩
        refine am_Rn.go (t := am_t23) rfl 2 rfl ⟨trivial, trivial, trivial⟩ ?_
        refine am_Rn.br (fun h3 => ?_) (fun h3 => ?_)
        · skip
          refine am_Rn.go (t := am_t23) rfl 4 rfl ⟨trivial, trivial, trivial, trivial, trivial⟩ ?_
          first
            | (rw [show sp_stayOne nr ou m i (sp_share nr ou m i) j true = true from decide_eq_true (Int32.not_lt.mp (by assumption))] at g; exact g)
            | (rw [show sp_stayOne nr ou m i (sp_share nr ou m i) j true = false from decide_eq_false (Int32.not_le.mpr (by assumption))] at g; exact g)
        · skip
          refine am_Rn.go (t := am_t23) rfl 5 rfl ⟨trivial, trivial, trivial, trivial, trivial, trivial⟩ ?_
          first
            | (rw [show sp_stayOne nr ou m i (sp_share nr ou m i) j true = true from decide_eq_true (Int32.not_lt.mp (by assumption))] at g; exact g)
            | (rw [show sp_stayOne nr ou m i (sp_share nr ou m i) j true = false from decide_eq_false (Int32.not_le.mpr (by assumption))] at g; exact g)
  have L : ∀ (d i : Nat) (x4 x5 x6 x7 : Option Value), i + d = m → (am_fold i (sp_restOne nr ou m l) true) = true → am_Rn sc 23 (2, [some (.ref 352), some (.int (Int32.ofNat m)), some (.int (Int32.ofNat l)), some (.int (Int32.ofNat i)), x4, x5, x6, x7], [], B0 :: B1 :: B2 :: B3 :: B4 :: B5 :: B6 :: B7 :: B8 :: B9 :: B10 :: bkRiders nr ho ou rc fr :: Bs) (fun r M' => r = some (.int (am_b (sp_rest nr ou m l = true))) ∧ M' = B0 :: B1 :: B2 :: B3 :: B4 :: B5 :: B6 :: B7 :: B8 :: B9 :: B10 :: bkRiders nr ho ou rc fr :: Bs) := by
    intro d
    induction d with
    | zero =>
      intro i x4 x5 x6 x7 hi hb
      obtain rfl : i = m := by omega
      refine am_Rn.go (t := am_t23) rfl 3 rfl ⟨trivial, trivial, trivial, trivial⟩ ?_
      refine am_Rn.brT ((am_le (by omega) (by omega)).mpr (Nat.le_refl _)) ?_
      refine am_Rn.go (t := am_t23) rfl 1 rfl ⟨trivial, trivial⟩ ?_
      refine am_Rn.ret (t := am_t23) rfl rfl (by first | exact Or.inl rfl | exact Or.inr rfl | exact am_b01 _) ?_
      exact ⟨congrArg (fun z => some (Value.int z)) (am_bT hb).symm, rfl⟩
    | succ d ih =>
      intro i x4 x5 x6 x7 hi hb
      have him : i < m := by omega
      have e2 : (Int32.ofNat i).toNatClampNeg = i := am_tn i (by omega)
      have hst := am_fold_succ i (sp_restOne nr ou m l) true
      rw [hb] at hst
      refine am_Rn.go (t := am_t23) rfl 3 rfl ⟨trivial, trivial, trivial, trivial⟩ ?_
      refine am_Rn.brF (fun q => absurd ((am_le (by omega) (by omega)).mp q) (by omega)) ?_
      refine am_Rn.go (t := am_t23) rfl 5 rfl ⟨trivial, trivial, trivial, trivial, trivial, trivial⟩ ?_
      refine am_Rn.brF (fun q => absurd ((am_le (i := 3) (by omega) (by omega)).mp q) (by omega)) ?_
      refine am_Rn.go (t := am_t23) rfl 8 rfl ⟨trivial, trivial, trivial, (by first | exact am_inb_lit rfl | exact am_inb_of (by omega) (by omega)), trivial, trivial, trivial, trivial, trivial⟩ ?_
      refine am_Rn.call (t := am_t23) rfl rfl (sx_shareOf sc m i him hm nr ho ou ..) ?_
      rintro _ _ ⟨rfl, rfl⟩
      refine am_Rn.go (t := am_t23) rfl 5 rfl ⟨trivial, trivial, trivial, trivial, trivial, trivial⟩ ?_
      rw [e2]
      have hk : ∀ (x7 : Option Value) (v : Int32), am_Rn sc 23 (46, [some (.ref 352), some (.int (Int32.ofNat m)), some (.int (Int32.ofNat l)), some (.int (Int32.ofNat i)), some (.int (ou i)), some (.int (sp_share nr ou m i)), some (.int (am_b (sp_stays nr ou m l i = true))), x7], [], B0 :: B1 :: B2 :: B3 :: B4 :: B5 :: B6 :: B7 :: B8 :: B9 :: B10 :: bkRiders nr ho (upd ou i v) rc fr :: Bs) (fun r M' => r = some (.int (am_b (sp_rest nr ou m l = true))) ∧ M' = B0 :: B1 :: B2 :: B3 :: B4 :: B5 :: B6 :: B7 :: B8 :: B9 :: B10 :: bkRiders nr ho ou rc fr :: Bs) := by
        intro x7 v
        have hs2 : sp_restOne nr ou m l i true = sp_stays nr ou m l i := Bool.true_and _
        rw [hs2] at hst
        generalize hS : sp_stays nr ou m l i = b at hst ⊢
        cases b with
        | true =>
          refine am_Rn.go (t := am_t23) rfl 5 rfl ⟨trivial, trivial, trivial, trivial, (by first | exact am_inb_lit rfl | exact am_inb_of (by omega) (by omega)), trivial⟩ ?_
          show am_Rn sc 23 (51, _, _, B0 :: B1 :: B2 :: B3 :: B4 :: B5 :: B6 :: B7 :: B8 :: B9 :: B10 :: bkRiders nr ho (upd (upd ou i v) (Int32.ofNat i).toNatClampNeg (ou i)) rc fr :: Bs) _
          rw [e2, am_upd_upd, am_upd_self]
          refine am_Rn.go (t := am_t23) rfl 2 rfl ⟨trivial, trivial, trivial⟩ ?_
          refine am_Rn.brF (fun q => absurd (am_b0.mp q) (by decide)) ?_
          refine am_Rn.go (t := am_t23) rfl 2 rfl ⟨trivial, trivial, trivial⟩ ?_
          have g := ih (i + 1) (some (.int (ou i))) (some (.int (sp_share nr ou m i))) (some (.int (am_b (true = true)))) x7 (by omega) hst
          rw [← am_inc] at g
          exact g
        | false =>
          refine am_Rn.go (t := am_t23) rfl 5 rfl ⟨trivial, trivial, trivial, trivial, (by first | exact am_inb_lit rfl | exact am_inb_of (by omega) (by omega)), trivial⟩ ?_
          show am_Rn sc 23 (51, _, _, B0 :: B1 :: B2 :: B3 :: B4 :: B5 :: B6 :: B7 :: B8 :: B9 :: B10 :: bkRiders nr ho (upd (upd ou i v) (Int32.ofNat i).toNatClampNeg (ou i)) rc fr :: Bs) _
          rw [e2, am_upd_upd, am_upd_self]
          refine am_Rn.go (t := am_t23) rfl 2 rfl ⟨trivial, trivial, trivial⟩ ?_
          refine am_Rn.brT (am_b0.mpr (by decide)) ?_
          refine am_Rn.go (t := am_t23) rfl 1 rfl ⟨trivial, trivial⟩ ?_
          refine am_Rn.ret (t := am_t23) rfl rfl (by first | exact Or.inl rfl | exact Or.inr rfl | exact am_b01 _) ?_
          have hz : sp_rest nr ou m l = false := by
            have := sp_rest_mono (i := i + 1) hst (m - (i + 1))
            rw [show i + 1 + (m - (i + 1)) = m by omega] at this
            exact this
          exact ⟨congrArg (fun z => some (Value.int z)) (am_bF (by rw [hz]; decide)).symm, rfl⟩
      have g := LI i him _ hk (l + 1) 0 (ou i) (by omega)
      rw [am_upd_self] at g
      exact g
  refine am_Rn.go (t := am_t23) rfl 2 rfl ⟨trivial, trivial, trivial⟩ ?_
  exact L m 0 _ _ _ _ (by omega) rfl
theorem sx_seekRests (sc : am_Sc) (m l : Nat) (hm : m ≤ 3) (hl : l ≤ 8) (nr ho ou : Nat → Int32) (rc fr : Int32) (B0 B1 B2 B3 B4 B5 B6 B7 B8 B9 B10 : List am_E) (Bs : am_M) : am_Rn sc 21 (0, am_entry 21 [.ref 352, .int (Int32.ofNat m), .int (Int32.ofNat l)], [], B0 :: B1 :: B2 :: B3 :: B4 :: B5 :: B6 :: B7 :: B8 :: B9 :: B10 :: bkRiders nr ho ou rc fr :: Bs) (fun r M' => r = none ∧ ∃ ou, M' = B0 :: B1 :: B2 :: B3 :: B4 :: B5 :: B6 :: B7 :: B8 :: B9 :: B10 :: bkRiders nr ho ou ((sp_rests nr m l)).1 ((sp_rests nr m l)).2 :: Bs) := by
  show am_Rn sc 21 (0, [some (.ref 352), some (.int (Int32.ofNat m)), some (.int (Int32.ofNat l)), none, none, none, none], [], _) _
  have h3l : sp_third m l ≤ 9 := by unfold sp_third; split <;> omega
  have LC : ∀ (K : Option Value → am_M → Prop) (a b : Nat), a ≤ 9 → b ≤ 9 → ∀ (X0 : Int32 × Int32), (∀ (ou : Nat → Int32) (x6 : Option Value), am_Rn sc 21 (70, [some (.ref 352), some (.int (Int32.ofNat m)), some (.int (Int32.ofNat l)), some (.int (Int32.ofNat (sp_third m l))), some (.int (Int32.ofNat a)), some (.int (Int32.ofNat b)), x6], [], B0 :: B1 :: B2 :: B3 :: B4 :: B5 :: B6 :: B7 :: B8 :: B9 :: B10 :: bkRiders nr ho ou (am_fold (sp_third m l + 1) (fun c X => sp_cntOne nr m l a b c X) X0).1 (am_fold (sp_third m l + 1) (fun c X => sp_cntOne nr m l a b c X) X0).2 :: Bs) K) → ∀ (d c : Nat) (ou : Nat → Int32), c + d = sp_third m l + 1 → am_Rn sc 21 (25, [some (.ref 352), some (.int (Int32.ofNat m)), some (.int (Int32.ofNat l)), some (.int (Int32.ofNat (sp_third m l))), some (.int (Int32.ofNat a)), some (.int (Int32.ofNat b)), some (.int (Int32.ofNat c))], [], B0 :: B1 :: B2 :: B3 :: B4 :: B5 :: B6 :: B7 :: B8 :: B9 :: B10 :: bkRiders nr ho ou (am_fold c (fun c X => sp_cntOne nr m l a b c X) X0).1 (am_fold c (fun c X => sp_cntOne nr m l a b c X) X0).2 :: Bs) K := by
    intro K a b ha hb X0 hk d
    induction d with
    | zero =>
      intro c ou hc
      obtain rfl : c = sp_third m l + 1 := by omega
      refine am_Rn.go (t := am_t21) rfl 3 rfl ⟨trivial, trivial, trivial, trivial⟩ ?_
      refine am_Rn.brT ((am_lt (by omega) (by omega)).mpr (by omega)) ?_
      exact hk ou _
    | succ d ih =>
      intro c ou hc
      have hle : ¬ Int32.ofNat (sp_third m l) < Int32.ofNat c := fun q => absurd ((am_lt (by omega) (by omega)).mp q) (by omega)
      have hr : sp_rest nr (upd (upd (upd ou 0 (Int32.ofNat a)) 1 (Int32.ofNat b)) 2 (Int32.ofNat c)) m l = sp_rest nr (sp_tri a b c) m l := sp_rest_congr (fun q hq => by
        rcases (show q = 0 ∨ q = 1 ∨ q = 2 by omega) with rfl | rfl | rfl <;> rfl)
      have g := ih (c + 1) (upd (upd (upd ou 0 (Int32.ofNat a)) 1 (Int32.ofNat b)) 2 (Int32.ofNat c)) (by omega)
      rw [am_fold_succ, ← am_inc] at g
      generalize hX : am_fold c (fun c X => sp_cntOne nr m l a b c X) X0 = X at g ⊢
      (try dsimp only at g)
      refine am_Rn.go (t := am_t21) rfl 3 rfl ⟨trivial, trivial, trivial, trivial⟩ ?_
      refine am_Rn.brF hle ?_
      refine am_Rn.go (t := am_t21) rfl 15 rfl ⟨trivial, trivial, trivial, trivial, (by first | exact am_inb_lit rfl | exact am_inb_of (by omega) (by omega)), trivial, trivial, trivial, trivial, (by first | exact am_inb_lit rfl | exact am_inb_of (by omega) (by omega)), trivial, trivial, trivial, trivial, (by first | exact am_inb_lit rfl | exact am_inb_of (by omega) (by omega)), trivial⟩ ?_
      show am_Rn sc 21 (43, _, _, B0 :: B1 :: B2 :: B3 :: B4 :: B5 :: B6 :: B7 :: B8 :: B9 :: B10 :: bkRiders nr ho (upd (upd (upd ou 0 (Int32.ofNat a)) 1 (Int32.ofNat b)) 2 (Int32.ofNat c)) (X).1 (X).2 :: Bs) _
      refine am_Rn.go (t := am_t21) rfl 3 rfl ⟨trivial, trivial, trivial, trivial⟩ ?_
      refine am_Rn.call (t := am_t21) rfl rfl (sx_isRest sc m l hm (by omega) nr ho (upd (upd (upd ou 0 (Int32.ofNat a)) 1 (Int32.ofNat b)) 2 (Int32.ofNat c)) ..) ?_
      rintro _ _ ⟨rfl, rfl⟩
      refine am_Rn.go (t := am_t21) rfl 1 rfl ⟨trivial, trivial⟩ ?_
      refine am_Rn.brB (fun h2 => ?_) (fun h2 => ?_)
      · skip
        refine am_Rn.go (t := am_t21) rfl 2 rfl ⟨trivial, trivial, trivial⟩ ?_
        first
          | (rw [show sp_cntOne nr m l a b c X = X from if_neg (by rw [← hr]; assumption)] at g; exact g)
          | (rw [show sp_cntOne nr m l a b c X = (X.1 + 1, if X.1 = 0 then 10 * Int32.ofNat a + Int32.ofNat b else X.2) by unfold sp_cntOne sp_fig; rw [if_pos (by rw [← hr]; assumption), if_pos h2m]] at g; exact g)
          | (rw [show sp_cntOne nr m l a b c X = (X.1 + 1, if X.1 = 0 then 100 * Int32.ofNat a + 10 * Int32.ofNat b + Int32.ofNat c else X.2) by unfold sp_cntOne sp_fig; rw [if_pos (by rw [← hr]; assumption), if_neg h2m]] at g; exact g)
      · skip
        refine am_Rn.go (t := am_t21) rfl 4 rfl ⟨trivial, trivial, trivial, trivial, trivial⟩ ?_
        refine am_Rn.br (fun h3 => ?_) (fun h3 => ?_)
        · skip
          have h2m : m ≤ 2 := (am_le (j := 2) (by omega) (by omega)).mp h3
          refine am_Rn.go (t := am_t21) rfl 5 rfl ⟨trivial, trivial, trivial, trivial, trivial, trivial⟩ ?_
          refine am_Rn.call (t := am_t21) rfl rfl (sx_countRest ..) ?_
          rintro _ _ ⟨rfl, rfl⟩
          refine am_Rn.go (t := am_t21) rfl 2 rfl ⟨trivial, trivial, trivial⟩ ?_
          first
            | (rw [show sp_cntOne nr m l a b c X = X from if_neg (by rw [← hr]; assumption)] at g; exact g)
            | (rw [show sp_cntOne nr m l a b c X = (X.1 + 1, if X.1 = 0 then 10 * Int32.ofNat a + Int32.ofNat b else X.2) by unfold sp_cntOne sp_fig; rw [if_pos (by rw [← hr]; assumption), if_pos h2m]] at g; exact g)
            | (rw [show sp_cntOne nr m l a b c X = (X.1 + 1, if X.1 = 0 then 100 * Int32.ofNat a + 10 * Int32.ofNat b + Int32.ofNat c else X.2) by unfold sp_cntOne sp_fig; rw [if_pos (by rw [← hr]; assumption), if_neg h2m]] at g; exact g)
        · skip
          have h2m : ¬ m ≤ 2 := fun q => h3 ((am_le (j := 2) (by omega) (by omega)).mpr q)
          refine am_Rn.go (t := am_t21) rfl 10 rfl ⟨trivial, trivial, trivial, trivial, trivial, trivial, trivial, trivial, trivial, trivial, trivial⟩ ?_
          refine am_Rn.call (t := am_t21) rfl rfl (sx_countRest ..) ?_
          rintro _ _ ⟨rfl, rfl⟩
          refine am_Rn.go (t := am_t21) rfl 2 rfl ⟨trivial, trivial, trivial⟩ ?_
          first
            | (rw [show sp_cntOne nr m l a b c X = X from if_neg (by rw [← hr]; assumption)] at g; exact g)
            | (rw [show sp_cntOne nr m l a b c X = (X.1 + 1, if X.1 = 0 then 10 * Int32.ofNat a + Int32.ofNat b else X.2) by unfold sp_cntOne sp_fig; rw [if_pos (by rw [← hr]; assumption), if_pos h2m]] at g; exact g)
            | (rw [show sp_cntOne nr m l a b c X = (X.1 + 1, if X.1 = 0 then 100 * Int32.ofNat a + 10 * Int32.ofNat b + Int32.ofNat c else X.2) by unfold sp_cntOne sp_fig; rw [if_pos (by rw [← hr]; assumption), if_neg h2m]] at g; exact g)
  have LB : ∀ (K : Option Value → am_M → Prop) (a : Nat), a ≤ 9 → ∀ (X0 : Int32 × Int32), (∀ (ou : Nat → Int32) (x5 x6 : Option Value), am_Rn sc 21 (72, [some (.ref 352), some (.int (Int32.ofNat m)), some (.int (Int32.ofNat l)), some (.int (Int32.ofNat (sp_third m l))), some (.int (Int32.ofNat a)), x5, x6], [], B0 :: B1 :: B2 :: B3 :: B4 :: B5 :: B6 :: B7 :: B8 :: B9 :: B10 :: bkRiders nr ho ou (am_fold (l + 1) (fun b X => am_fold (sp_third m l + 1) (fun c X => sp_cntOne nr m l a b c X) X) X0).1 (am_fold (l + 1) (fun b X => am_fold (sp_third m l + 1) (fun c X => sp_cntOne nr m l a b c X) X) X0).2 :: Bs) K) → ∀ (d b : Nat) (ou : Nat → Int32) (x6 : Option Value), b + d = l + 1 → am_Rn sc 21 (20, [some (.ref 352), some (.int (Int32.ofNat m)), some (.int (Int32.ofNat l)), some (.int (Int32.ofNat (sp_third m l))), some (.int (Int32.ofNat a)), some (.int (Int32.ofNat b)), x6], [], B0 :: B1 :: B2 :: B3 :: B4 :: B5 :: B6 :: B7 :: B8 :: B9 :: B10 :: bkRiders nr ho ou (am_fold b (fun b X => am_fold (sp_third m l + 1) (fun c X => sp_cntOne nr m l a b c X) X) X0).1 (am_fold b (fun b X => am_fold (sp_third m l + 1) (fun c X => sp_cntOne nr m l a b c X) X) X0).2 :: Bs) K := by
    intro K a ha X0 hk d
    induction d with
    | zero =>
      intro b ou x6 hb
      obtain rfl : b = l + 1 := by omega
      refine am_Rn.go (t := am_t21) rfl 3 rfl ⟨trivial, trivial, trivial, trivial⟩ ?_
      refine am_Rn.brT ((am_lt (by omega) (by omega)).mpr (by omega)) ?_
      exact hk ou _ _
    | succ d ih =>
      intro b ou x6 hb
      have hle : ¬ Int32.ofNat l < Int32.ofNat b := fun q => absurd ((am_lt (by omega) (by omega)).mp q) (by omega)
      refine am_Rn.go (t := am_t21) rfl 3 rfl ⟨trivial, trivial, trivial, trivial⟩ ?_
      refine am_Rn.brF hle ?_
      refine am_Rn.go (t := am_t21) rfl 2 rfl ⟨trivial, trivial, trivial⟩ ?_
      refine LC K a b ha (by omega) _ (fun ou x6 => ?_) (sp_third m l + 1) 0 ou (by omega)
      refine am_Rn.go (t := am_t21) rfl 2 rfl ⟨trivial, trivial, trivial⟩ ?_
      have g := ih (b + 1) ou x6 (by omega)
      rw [am_fold_succ, ← am_inc] at g
      exact g
  have LA : ∀ (d a : Nat) (ou : Nat → Int32) (x5 x6 : Option Value), a + d = l + 1 → am_Rn sc 21 (15, [some (.ref 352), some (.int (Int32.ofNat m)), some (.int (Int32.ofNat l)), some (.int (Int32.ofNat (sp_third m l))), some (.int (Int32.ofNat a)), x5, x6], [], B0 :: B1 :: B2 :: B3 :: B4 :: B5 :: B6 :: B7 :: B8 :: B9 :: B10 :: bkRiders nr ho ou (am_fold a (fun a X => am_fold (l + 1) (fun b X => am_fold (sp_third m l + 1) (fun c X => sp_cntOne nr m l a b c X) X) X) (0, -9)).1 (am_fold a (fun a X => am_fold (l + 1) (fun b X => am_fold (sp_third m l + 1) (fun c X => sp_cntOne nr m l a b c X) X) X) (0, -9)).2 :: Bs) (fun r M' => r = none ∧ ∃ ou, M' = B0 :: B1 :: B2 :: B3 :: B4 :: B5 :: B6 :: B7 :: B8 :: B9 :: B10 :: bkRiders nr ho ou ((sp_rests nr m l)).1 ((sp_rests nr m l)).2 :: Bs) := by
    intro d
    induction d with
    | zero =>
      intro a ou x5 x6 ha
      obtain rfl : a = l + 1 := by omega
      refine am_Rn.go (t := am_t21) rfl 3 rfl ⟨trivial, trivial, trivial, trivial⟩ ?_
      refine am_Rn.brT ((am_lt (by omega) (by omega)).mpr (by omega)) ?_
      refine am_Rn.ret (t := am_t21) rfl rfl trivial ?_
      exact ⟨rfl, ou, rfl⟩
    | succ d ih =>
      intro a ou x5 x6 ha
      have hle : ¬ Int32.ofNat l < Int32.ofNat a := fun q => absurd ((am_lt (by omega) (by omega)).mp q) (by omega)
      refine am_Rn.go (t := am_t21) rfl 3 rfl ⟨trivial, trivial, trivial, trivial⟩ ?_
      refine am_Rn.brF hle ?_
      refine am_Rn.go (t := am_t21) rfl 2 rfl ⟨trivial, trivial, trivial⟩ ?_
      refine LB _ a (by omega) _ (fun ou x5 x6 => ?_) (l + 1) 0 ou x6 (by omega)
      refine am_Rn.go (t := am_t21) rfl 2 rfl ⟨trivial, trivial, trivial⟩ ?_
      have g := ih (a + 1) ou x5 x6 (by omega)
      rw [am_fold_succ, ← am_inc] at g
      exact g
  refine am_Rn.go (t := am_t21) rfl 9 rfl ⟨trivial, trivial, trivial, trivial, trivial, trivial, trivial, trivial, trivial, trivial⟩ ?_
  refine am_Rn.br (fun h1 => ?_) (fun h1 => ?_)
  · skip
    have hz : sp_third m l = 0 := if_pos ((am_le (j := 2) (by omega) (by omega)).mp h1)
    refine am_Rn.go (t := am_t21) rfl 4 rfl ⟨trivial, trivial, trivial, trivial, trivial⟩ ?_
    have g := LA (l + 1) 0 ou none none (by omega)
    rw [hz] at g
    exact g
  · skip
    have hz : sp_third m l = l := if_neg (fun q => h1 ((am_le (j := 2) (by omega) (by omega)).mpr q))
    refine am_Rn.go (t := am_t21) rfl 5 rfl ⟨trivial, trivial, trivial, trivial, trivial, trivial⟩ ?_
    have g := LA (l + 1) 0 ou none none (by omega)
    rw [hz] at g
    exact g
