theorem sx_put (sc : am_Sc) (w : Nat) (hw : w < 3) (v : Int32) (nr ho ou : Nat → Int32) (rc fr : Int32) (B0 B1 B2 B3 B4 B5 B6 B7 B8 B9 B10 : List am_E) (Bs : am_M) : am_Rn sc 19 (0, am_entry 19 [.ref 352, .int (Int32.ofNat w), .int v], [], B0 :: B1 :: B2 :: B3 :: B4 :: B5 :: B6 :: B7 :: B8 :: B9 :: B10 :: bkRiders nr ho ou rc fr :: Bs) (fun r M' => r = some (.int (nr w)) ∧ M' = B0 :: B1 :: B2 :: B3 :: B4 :: B5 :: B6 :: B7 :: B8 :: B9 :: B10 :: bkRiders (upd nr w v) ho ou rc fr :: Bs) := by
  show am_Rn sc 19 (0, [some (.ref 352), some (.int (Int32.ofNat w)), some (.int v), none], [], _) _
  have e1 : (Int32.ofNat w).toNatClampNeg = w := am_tn w (by omega)
  refine am_Rn.go (t := am_t19) rfl 2 rfl ⟨trivial, trivial, trivial⟩ ?_
  refine am_Rn.brF (fun q => absurd ((am_lt (j := 0) (by omega) (by omega)).mp q) (by omega)) ?_
  refine am_Rn.go (t := am_t19) rfl 3 rfl ⟨trivial, trivial, trivial, trivial⟩ ?_
  refine am_Rn.brT ((am_le (j := 2) (by omega) (by omega)).mpr (by omega)) ?_
  refine am_Rn.go (t := am_t19) rfl 10 rfl ⟨trivial, trivial, trivial, (by first | exact am_inb_lit rfl | exact am_inb_of (by omega) (by omega)), trivial, trivial, trivial, trivial, trivial, (by first | exact am_inb_lit rfl | exact am_inb_of (by omega) (by omega)), trivial⟩ ?_
  show am_Rn sc 19 (17, _, _, B0 :: B1 :: B2 :: B3 :: B4 :: B5 :: B6 :: B7 :: B8 :: B9 :: B10 :: bkRiders (upd nr (Int32.ofNat w).toNatClampNeg v) ho ou rc fr :: Bs) _
  rw [e1]
  refine am_Rn.go (t := am_t19) rfl 1 rfl ⟨trivial, trivial⟩ ?_
  refine am_Rn.ret (t := am_t19) rfl rfl trivial ?_
  exact ⟨rfl, rfl⟩
theorem sx_priceIn (sc : am_Sc) (f : Int32) (nr ho ou : Nat → Int32) (rc fr : Int32) (B0 B1 B2 B3 B4 B5 B6 B7 B8 B9 B10 : List am_E) (Bs : am_M) : am_Rn sc 20 (0, am_entry 20 [.ref 352, .int f], [], B0 :: B1 :: B2 :: B3 :: B4 :: B5 :: B6 :: B7 :: B8 :: B9 :: B10 :: bkRiders nr ho ou rc fr :: Bs) (fun r M' => r = some (.int (sp_price nr f)) ∧ M' = B0 :: B1 :: B2 :: B3 :: B4 :: B5 :: B6 :: B7 :: B8 :: B9 :: B10 :: bkRiders nr ho ou rc fr :: Bs) := by
  show am_Rn sc 20 (0, [some (.ref 352), some (.int f)], [], _) _
  refine am_Rn.go (t := am_t20) rfl 11 rfl ⟨trivial, trivial, trivial, (by first | exact am_inb_lit rfl | exact am_inb_of (by omega) (by omega)), trivial, trivial, trivial, (by first | exact am_inb_lit rfl | exact am_inb_of (by omega) (by omega)), trivial, trivial, trivial, trivial⟩ ?_
  refine am_Rn.ret (t := am_t20) rfl rfl trivial ?_
  exact ⟨rfl, rfl⟩
theorem sx_shareOf (sc : am_Sc) (m w : Nat) (hw : w < m) (hm : m ≤ 3) (nr ho ou : Nat → Int32) (rc fr : Int32) (B0 B1 B2 B3 B4 B5 B6 B7 B8 B9 B10 : List am_E) (Bs : am_M) : am_Rn sc 24 (0, am_entry 24 [.ref 352, .int (Int32.ofNat w), .int (Int32.ofNat m)], [], B0 :: B1 :: B2 :: B3 :: B4 :: B5 :: B6 :: B7 :: B8 :: B9 :: B10 :: bkRiders nr ho ou rc fr :: Bs) (fun r M' => r = some (.int (sp_share nr ou m w)) ∧ M' = B0 :: B1 :: B2 :: B3 :: B4 :: B5 :: B6 :: B7 :: B8 :: B9 :: B10 :: bkRiders nr ho ou rc fr :: Bs) := by
  show am_Rn sc 24 (0, [some (.ref 352), some (.int (Int32.ofNat w)), some (.int (Int32.ofNat m)), none, none, none], [], _) _
  have e0 : (Int32.ofNat w).toNatClampNeg = w := am_tn w (by omega)
  have L2g : ∀ f : Int32, am_Rn sc 24 (39, [some (.ref 352), some (.int (Int32.ofNat w)), some (.int (Int32.ofNat m)), some (.int f), some (.int 0), some (.int 0)], [], B0 :: B1 :: B2 :: B3 :: B4 :: B5 :: B6 :: B7 :: B8 :: B9 :: B10 :: bkRiders nr ho ou rc fr :: Bs) (fun r M' => r = some (.int (if 0 < sp_tog ou m f then sp_price nr f / sp_tog ou m f else 0)) ∧ M' = B0 :: B1 :: B2 :: B3 :: B4 :: B5 :: B6 :: B7 :: B8 :: B9 :: B10 :: bkRiders nr ho ou rc fr :: Bs) := by
    intro f
    have L2 : ∀ (d i : Nat), i + d = m → am_Rn sc 24 (39, [some (.ref 352), some (.int (Int32.ofNat w)), some (.int (Int32.ofNat m)), some (.int f), some (.int (am_fold i (sp_togOne ou f) 0)), some (.int (Int32.ofNat i))], [], B0 :: B1 :: B2 :: B3 :: B4 :: B5 :: B6 :: B7 :: B8 :: B9 :: B10 :: bkRiders nr ho ou rc fr :: Bs) (fun r M' => r = some (.int (if 0 < sp_tog ou m f then sp_price nr f / sp_tog ou m f else 0)) ∧ M' = B0 :: B1 :: B2 :: B3 :: B4 :: B5 :: B6 :: B7 :: B8 :: B9 :: B10 :: bkRiders nr ho ou rc fr :: Bs) := by
      intro d
      induction d with
      | zero =>
        intro i  hi
        obtain rfl : i = m := by omega
        refine am_Rn.go (t := am_t24) rfl 3 rfl ⟨trivial, trivial, trivial, trivial⟩ ?_
        refine am_Rn.brT (by first | exact (am_le (by omega) (by omega)).mpr (Nat.le_refl _) | exact fun q => absurd ((am_lt (by omega) (by omega)).mp q) (Nat.lt_irrefl _) | exact (am_lt (by omega) (by omega)).mpr (by omega) | decide) ?_
        refine am_Rn.go (t := am_t24) rfl 2 rfl ⟨trivial, trivial, trivial⟩ ?_
        refine am_Rn.br (fun h1 => ?_) (fun h1 => ?_)
        · skip
          have hg : ¬ 0 < sp_tog ou i f := Int32.not_lt.mpr h1
          refine am_Rn.go (t := am_t24) rfl 1 rfl ⟨trivial, trivial⟩ ?_
          refine am_Rn.ret (t := am_t24) rfl rfl trivial ?_
          first | rw [if_pos hg] | rw [if_neg hg]
          exact ⟨rfl, rfl⟩
        · skip
          have hg : 0 < sp_tog ou i f := Int32.not_le.mp h1
          have hz : ¬ sp_tog ou i f = 0 := fun z => by rw [z] at hg; exact absurd hg (by decide)
          refine am_Rn.go (t := am_t24) rfl 2 rfl ⟨trivial, trivial, trivial⟩ ?_
          refine am_Rn.call (t := am_t24) rfl rfl (sx_priceIn ..) ?_
          rintro _ _ ⟨rfl, rfl⟩
          refine am_Rn.go (t := am_t24) rfl 3 rfl ⟨trivial, hz, trivial, trivial⟩ ?_
          refine am_Rn.ret (t := am_t24) rfl rfl trivial ?_
          first | rw [if_pos hg] | rw [if_neg hg]
          exact ⟨rfl, rfl⟩
      | succ d ih =>
        intro i  hi
        have hiP : i < m := by omega
        have e1 : (Int32.ofNat i).toNatClampNeg = i := am_tn i (by omega)
        refine am_Rn.go (t := am_t24) rfl 3 rfl ⟨trivial, trivial, trivial, trivial⟩ ?_
        refine am_Rn.brF (by first | exact fun q => absurd ((am_le (by omega) (by omega)).mp q) (by omega) | exact fun q => absurd ((am_le (i := 9) (by omega) (by omega)).mp q) (by omega) | exact fun q => absurd ((am_le (i := 10) (by omega) (by omega)).mp q) (by omega) | exact (am_lt (by omega) (by omega)).mpr hiP | exact fun q => absurd ((am_lt (by omega) (by omega)).mp q) (by omega)) ?_
        refine am_Rn.go (t := am_t24) rfl 5 rfl ⟨trivial, trivial, trivial, trivial, trivial, trivial⟩ ?_
        refine am_Rn.brF (fun q => absurd ((am_le (i := 3) (by omega) (by omega)).mp q) (by omega)) ?_
        refine am_Rn.go (t := am_t24) rfl 7 rfl ⟨trivial, trivial, trivial, trivial, (by first | exact am_inb_lit rfl | exact am_inb_of (by omega) (by omega)), trivial, trivial, trivial⟩ ?_
        refine am_Rn.br (fun h3 => ?_) (fun h3 => ?_)
        · skip
          refine am_Rn.go (t := am_t24) rfl 6 rfl ⟨trivial, trivial, trivial, trivial, trivial, trivial, trivial⟩ ?_
          have g := ih (i + 1) (by omega)
          rw [am_fold_succ, ← am_inc] at g
          generalize hX : (am_fold i (sp_togOne ou f) 0) = X at *
          simp only [e1] at *
          first
            | (rw [show sp_togOne ou f i X = X + 1 by unfold sp_togOne; rw [if_pos (by assumption)]] at g; exact g)
            | (rw [show sp_togOne ou f i X = X + 0 by unfold sp_togOne; rw [if_neg (by assumption)]] at g; exact g)
        · skip
          refine am_Rn.go (t := am_t24) rfl 5 rfl ⟨trivial, trivial, trivial, trivial, trivial, trivial⟩ ?_
          have g := ih (i + 1) (by omega)
          rw [am_fold_succ, ← am_inc] at g
          generalize hX : (am_fold i (sp_togOne ou f) 0) = X at *
          simp only [e1] at *
          first
            | (rw [show sp_togOne ou f i X = X + 1 by unfold sp_togOne; rw [if_pos (by assumption)]] at g; exact g)
            | (rw [show sp_togOne ou f i X = X + 0 by unfold sp_togOne; rw [if_neg (by assumption)]] at g; exact g)
    exact L2 m 0 (by omega)
  have L1 : ∀ (d i : Nat) (x5 : Option Value), i + d = m → am_Rn sc 24 (7, [some (.ref 352), some (.int (Int32.ofNat w)), some (.int (Int32.ofNat m)), some (.int (am_fold i (sp_minOne ou) (ou w))), some (.int (Int32.ofNat i)), x5], [], B0 :: B1 :: B2 :: B3 :: B4 :: B5 :: B6 :: B7 :: B8 :: B9 :: B10 :: bkRiders nr ho ou rc fr :: Bs) (fun r M' => r = some (.int (sp_share nr ou m w)) ∧ M' = B0 :: B1 :: B2 :: B3 :: B4 :: B5 :: B6 :: B7 :: B8 :: B9 :: B10 :: bkRiders nr ho ou rc fr :: Bs) := by
    intro d
    induction d with
    | zero =>
      intro i x5 hi
      obtain rfl : i = m := by omega
      refine am_Rn.go (t := am_t24) rfl 3 rfl ⟨trivial, trivial, trivial, trivial⟩ ?_
      refine am_Rn.brT (by first | exact (am_le (by omega) (by omega)).mpr (Nat.le_refl _) | exact fun q => absurd ((am_lt (by omega) (by omega)).mp q) (Nat.lt_irrefl _) | exact (am_lt (by omega) (by omega)).mpr (by omega) | decide) ?_
      refine am_Rn.go (t := am_t24) rfl 6 rfl ⟨trivial, trivial, trivial, (by first | exact am_inb_lit rfl | exact am_inb_of (by omega) (by omega)), trivial, trivial, trivial⟩ ?_
      refine am_Rn.br (fun h1 => ?_) (fun h1 => ?_)
      · skip
        simp only [e0] at *
        have hn := Int32.not_lt.mpr h1
        refine am_Rn.go (t := am_t24) rfl 4 rfl ⟨trivial, trivial, trivial, trivial, trivial⟩ ?_
        have g := L2g (am_fold i (sp_minOne ou) (ou w))
        have hS : sp_share nr ou i w = _ := if_neg (show ¬ (am_fold i (sp_minOne ou) (ou w)) < ou w from hn)
        rw [hS]
        exact g
      · skip
        simp only [e0] at *
        have hS : sp_share nr ou i w = nr 2 := if_pos (show (am_fold i (sp_minOne ou) (ou w)) < ou w from Int32.not_le.mp h1)
        refine am_Rn.go (t := am_t24) rfl 4 rfl ⟨trivial, trivial, trivial, (by first | exact am_inb_lit rfl | exact am_inb_of (by omega) (by omega)), trivial⟩ ?_
        refine am_Rn.ret (t := am_t24) rfl rfl trivial ?_
        rw [hS]
        exact ⟨rfl, rfl⟩
    | succ d ih =>
      intro i x5 hi
      have hiP : i < m := by omega
      have e1 : (Int32.ofNat i).toNatClampNeg = i := am_tn i (by omega)
      refine am_Rn.go (t := am_t24) rfl 3 rfl ⟨trivial, trivial, trivial, trivial⟩ ?_
      refine am_Rn.brF (by first | exact fun q => absurd ((am_le (by omega) (by omega)).mp q) (by omega) | exact fun q => absurd ((am_le (i := 9) (by omega) (by omega)).mp q) (by omega) | exact fun q => absurd ((am_le (i := 10) (by omega) (by omega)).mp q) (by omega) | exact (am_lt (by omega) (by omega)).mpr hiP | exact fun q => absurd ((am_lt (by omega) (by omega)).mp q) (by omega)) ?_
      refine am_Rn.go (t := am_t24) rfl 5 rfl ⟨trivial, trivial, trivial, trivial, trivial, trivial⟩ ?_
      refine am_Rn.brF (fun q => absurd ((am_le (i := 3) (by omega) (by omega)).mp q) (by omega)) ?_
      refine am_Rn.go (t := am_t24) rfl 9 rfl ⟨trivial, trivial, trivial, trivial, (by first | exact am_inb_lit rfl | exact am_inb_of (by omega) (by omega)), trivial, trivial, trivial, trivial, trivial⟩ ?_
      have g := ih (i + 1) x5 (by omega)
      rw [am_fold_succ, ← am_inc] at g
      generalize hX : (am_fold i (sp_minOne ou) (ou w)) = X at *
      simp only [e1]
      exact g
  refine am_Rn.go (t := am_t24) rfl 7 rfl ⟨trivial, trivial, trivial, (by first | exact am_inb_lit rfl | exact am_inb_of (by omega) (by omega)), trivial, trivial, trivial, trivial⟩ ?_
  rw [e0]
  exact L1 m 0 _ (by omega)
theorem sx_countRest (sc : am_Sc) (g : Int32) (nr ho ou : Nat → Int32) (rc fr : Int32) (B0 B1 B2 B3 B4 B5 B6 B7 B8 B9 B10 : List am_E) (Bs : am_M) : am_Rn sc 22 (0, am_entry 22 [.ref 352, .int g], [], B0 :: B1 :: B2 :: B3 :: B4 :: B5 :: B6 :: B7 :: B8 :: B9 :: B10 :: bkRiders nr ho ou rc fr :: Bs) (fun r M' => r = none ∧ M' = B0 :: B1 :: B2 :: B3 :: B4 :: B5 :: B6 :: B7 :: B8 :: B9 :: B10 :: bkRiders nr ho ou (rc + 1) (if rc = 0 then g else fr) :: Bs) := by
  show am_Rn sc 22 (0, [some (.ref 352), some (.int g)], [], _) _
  refine am_Rn.go (t := am_t22) rfl 3 rfl ⟨trivial, trivial, trivial, trivial⟩ ?_
  refine am_Rn.br (fun h1 => ?_) (fun h1 => ?_)
  · skip
    refine am_Rn.go (t := am_t22) rfl 9 rfl ⟨trivial, trivial, trivial, trivial, trivial, trivial, trivial, trivial, trivial, trivial⟩ ?_
    refine am_Rn.ret (t := am_t22) rfl rfl trivial ?_
    first | rw [if_pos (by assumption)] | rw [if_neg (by assumption)]
    exact ⟨rfl, rfl⟩
  · skip
    refine am_Rn.go (t := am_t22) rfl 6 rfl ⟨trivial, trivial, trivial, trivial, trivial, trivial, trivial⟩ ?_
    refine am_Rn.ret (t := am_t22) rfl rfl trivial ?_
    first | rw [if_pos (by assumption)] | rw [if_neg (by assumption)]
    exact ⟨rfl, rfl⟩
theorem sx_mean (sc : am_Sc) (q : Nat) (hq : q < 10) (nr ho ou : Nat → Int32) (rc fr : Int32) (B0 B1 B2 B3 B4 B5 B6 B7 B8 B9 B10 : List am_E) (Bs : am_M) : am_Rn sc 25 (0, am_entry 25 [.ref 352, .int (Int32.ofNat q)], [], B0 :: B1 :: B2 :: B3 :: B4 :: B5 :: B6 :: B7 :: B8 :: B9 :: B10 :: bkRiders nr ho ou rc fr :: Bs) (fun r M' => r = some (.int (sp_mean nr ho q)) ∧ M' = B0 :: B1 :: B2 :: B3 :: B4 :: B5 :: B6 :: B7 :: B8 :: B9 :: B10 :: bkRiders nr ho ou rc fr :: Bs) := by
  show am_Rn sc 25 (0, [some (.ref 352), some (.int (Int32.ofNat q)), none, none, none], [], _) _
  have L : ∀ (d i : Nat) (x4 : Option Value), i + d = 10 → am_Rn sc 25 (4, [some (.ref 352), some (.int (Int32.ofNat q)), some (.int (am_fold i (sp_meanOne nr ho q) 0)), some (.int (Int32.ofNat i)), x4], [], B0 :: B1 :: B2 :: B3 :: B4 :: B5 :: B6 :: B7 :: B8 :: B9 :: B10 :: bkRiders nr ho ou rc fr :: Bs) (fun r M' => r = some (.int (sp_mean nr ho q)) ∧ M' = B0 :: B1 :: B2 :: B3 :: B4 :: B5 :: B6 :: B7 :: B8 :: B9 :: B10 :: bkRiders nr ho ou rc fr :: Bs) := by
    intro d
    induction d with
    | zero =>
      intro i x4 hi
      obtain rfl : i = 10 := by omega
      refine am_Rn.go (t := am_t25) rfl 3 rfl ⟨trivial, trivial, trivial, trivial⟩ ?_
      refine am_Rn.brT (by first | exact (am_le (by omega) (by omega)).mpr (Nat.le_refl _) | exact fun q => absurd ((am_lt (by omega) (by omega)).mp q) (Nat.lt_irrefl _) | exact (am_lt (by omega) (by omega)).mpr (by omega) | decide) ?_
      refine am_Rn.go (t := am_t25) rfl 1 rfl ⟨trivial, trivial⟩ ?_
      refine am_Rn.ret (t := am_t25) rfl rfl trivial ?_
      exact ⟨rfl, rfl⟩
    | succ d ih =>
      intro i x4 hi
      have hiP : i < 10 := by omega
      have e1 : (Int32.ofNat i).toNatClampNeg = i := am_tn i (by omega)
      have hlt := am_lt (i := q) (j := i) (by omega) (by omega)
      have heq := am_eqi (i := q) (j := i) (by omega) (by omega)
      have hle := am_le (i := i) (j := q) (by omega) (by omega)
      refine am_Rn.go (t := am_t25) rfl 3 rfl ⟨trivial, trivial, trivial, trivial⟩ ?_
      refine am_Rn.brF (by first | exact fun q => absurd ((am_le (by omega) (by omega)).mp q) (by omega) | exact fun q => absurd ((am_le (i := 9) (by omega) (by omega)).mp q) (by omega) | exact fun q => absurd ((am_le (i := 10) (by omega) (by omega)).mp q) (by omega) | exact (am_lt (by omega) (by omega)).mpr hiP | exact fun q => absurd ((am_lt (by omega) (by omega)).mp q) (by omega)) ?_
      refine am_Rn.go (t := am_t25) rfl 10 rfl ⟨trivial, trivial, trivial, trivial, (by first | exact am_inb_lit rfl | exact am_inb_of (by omega) (by omega)), trivial, trivial, trivial, trivial, trivial, trivial⟩ ?_
      refine am_Rn.br (fun h2 => ?_) (fun h2 => ?_)
      · skip
        refine am_Rn.go (t := am_t25) rfl 3 rfl ⟨trivial, trivial, trivial, trivial⟩ ?_
        refine am_Rn.br (fun h3 => ?_) (fun h3 => ?_)
        · skip
          refine am_Rn.go (t := am_t25) rfl 2 rfl ⟨trivial, trivial, trivial⟩ ?_
          refine am_Rn.call (t := am_t25) rfl rfl (sx_priceIn ..) ?_
          rintro _ _ ⟨rfl, rfl⟩
          refine am_Rn.go (t := am_t25) rfl 12 rfl ⟨trivial, trivial, trivial, trivial, trivial, (by first | exact am_inb_lit rfl | exact am_inb_of (by omega) (by omega)), trivial, trivial, trivial, trivial, trivial, trivial, trivial⟩ ?_
          have g := fun x9 => ih (i + 1) x9 (by omega)
          simp only [am_fold_succ, ← am_inc] at g
          generalize hX : (am_fold i (sp_meanOne nr ho q) 0) = X at *
          simp only [e1, hlt, heq, hle] at *
          first
            | (rw [show sp_meanOne nr ho q i X = X + ho i * (2 * sp_price nr (Int32.ofNat q)) by unfold sp_meanOne; rw [if_pos (by omega)]] at g; exact g _)
            | (rw [show sp_meanOne nr ho q i X = X + ho i * sp_price nr (Int32.ofNat q) by unfold sp_meanOne; rw [if_neg (by omega), if_pos (by omega)]] at g; exact g _)
            | (rw [show sp_meanOne nr ho q i X = X + ho i * (2 * nr 2) by unfold sp_meanOne; rw [if_neg (by omega), if_neg (by omega)]] at g; exact g _)
        · skip
          refine am_Rn.go (t := am_t25) rfl 11 rfl ⟨trivial, trivial, trivial, trivial, (by first | exact am_inb_lit rfl | exact am_inb_of (by omega) (by omega)), trivial, trivial, trivial, trivial, trivial, trivial, trivial⟩ ?_
          have g := fun x9 => ih (i + 1) x9 (by omega)
          simp only [am_fold_succ, ← am_inc] at g
          generalize hX : (am_fold i (sp_meanOne nr ho q) 0) = X at *
          simp only [e1, hlt, heq, hle] at *
          first
            | (rw [show sp_meanOne nr ho q i X = X + ho i * (2 * sp_price nr (Int32.ofNat q)) by unfold sp_meanOne; rw [if_pos (by omega)]] at g; exact g _)
            | (rw [show sp_meanOne nr ho q i X = X + ho i * sp_price nr (Int32.ofNat q) by unfold sp_meanOne; rw [if_neg (by omega), if_pos (by omega)]] at g; exact g _)
            | (rw [show sp_meanOne nr ho q i X = X + ho i * (2 * nr 2) by unfold sp_meanOne; rw [if_neg (by omega), if_neg (by omega)]] at g; exact g _)
      · skip
        refine am_Rn.go (t := am_t25) rfl 3 rfl ⟨trivial, trivial, trivial, trivial⟩ ?_
        refine am_Rn.call (t := am_t25) rfl rfl (sx_priceIn ..) ?_
        rintro _ _ ⟨rfl, rfl⟩
        refine am_Rn.go (t := am_t25) rfl 14 rfl ⟨trivial, trivial, trivial, trivial, trivial, trivial, trivial, (by first | exact am_inb_lit rfl | exact am_inb_of (by omega) (by omega)), trivial, trivial, trivial, trivial, trivial, trivial, trivial⟩ ?_
        have g := fun x9 => ih (i + 1) x9 (by omega)
        simp only [am_fold_succ, ← am_inc] at g
        generalize hX : (am_fold i (sp_meanOne nr ho q) 0) = X at *
        simp only [e1, hlt, heq, hle] at *
        first
          | (rw [show sp_meanOne nr ho q i X = X + ho i * (2 * sp_price nr (Int32.ofNat q)) by unfold sp_meanOne; rw [if_pos (by omega)]] at g; exact g _)
          | (rw [show sp_meanOne nr ho q i X = X + ho i * sp_price nr (Int32.ofNat q) by unfold sp_meanOne; rw [if_neg (by omega), if_pos (by omega)]] at g; exact g _)
          | (rw [show sp_meanOne nr ho q i X = X + ho i * (2 * nr 2) by unfold sp_meanOne; rw [if_neg (by omega), if_neg (by omega)]] at g; exact g _)
  refine am_Rn.go (t := am_t25) rfl 4 rfl ⟨trivial, trivial, trivial, trivial, trivial⟩ ?_
  exact L 10 0 _ (by omega)
theorem sx_bestRound (sc : am_Sc) (nr ho ou : Nat → Int32) (rc fr : Int32) (B0 B1 B2 B3 B4 B5 B6 B7 B8 B9 B10 : List am_E) (Bs : am_M) : am_Rn sc 26 (0, am_entry 26 [.ref 352], [], B0 :: B1 :: B2 :: B3 :: B4 :: B5 :: B6 :: B7 :: B8 :: B9 :: B10 :: bkRiders nr ho ou rc fr :: Bs) (fun r M' => r = some (.int (Int32.ofNat (am_fold 10 (sp_bestOne nr ho) 0))) ∧ M' = B0 :: B1 :: B2 :: B3 :: B4 :: B5 :: B6 :: B7 :: B8 :: B9 :: B10 :: bkRiders nr ho ou rc fr :: Bs) := by
  show am_Rn sc 26 (0, [some (.ref 352), none, none], [], _) _
  have L : ∀ (d i : Nat) (h1 : 1 ≤ i), i + d = 10 → am_Rn sc 26 (4, [some (.ref 352), some (.int (Int32.ofNat (am_fold i (sp_bestOne nr ho) 0))), some (.int (Int32.ofNat i))], [], B0 :: B1 :: B2 :: B3 :: B4 :: B5 :: B6 :: B7 :: B8 :: B9 :: B10 :: bkRiders nr ho ou rc fr :: Bs) (fun r M' => r = some (.int (Int32.ofNat (am_fold 10 (sp_bestOne nr ho) 0))) ∧ M' = B0 :: B1 :: B2 :: B3 :: B4 :: B5 :: B6 :: B7 :: B8 :: B9 :: B10 :: bkRiders nr ho ou rc fr :: Bs) := by
    intro d
    induction d with
    | zero =>
      intro i h1 hi
      obtain rfl : i = 10 := by omega
      refine am_Rn.go (t := am_t26) rfl 3 rfl ⟨trivial, trivial, trivial, trivial⟩ ?_
      refine am_Rn.brT (by first | exact (am_le (by omega) (by omega)).mpr (Nat.le_refl _) | exact fun q => absurd ((am_lt (by omega) (by omega)).mp q) (Nat.lt_irrefl _) | exact (am_lt (by omega) (by omega)).mpr (by omega) | decide) ?_
      refine am_Rn.go (t := am_t26) rfl 1 rfl ⟨trivial, trivial⟩ ?_
      refine am_Rn.ret (t := am_t26) rfl rfl trivial ?_
      exact ⟨rfl, rfl⟩
    | succ d ih =>
      intro i h1 hi
      have hiP : i < 10 := by omega
      have e1 : (Int32.ofNat i).toNatClampNeg = i := am_tn i (by omega)
      have hb := sp_bestOne_lt nr ho i (by omega)
      refine am_Rn.go (t := am_t26) rfl 3 rfl ⟨trivial, trivial, trivial, trivial⟩ ?_
      refine am_Rn.brF (by first | exact fun q => absurd ((am_le (by omega) (by omega)).mp q) (by omega) | exact fun q => absurd ((am_le (i := 9) (by omega) (by omega)).mp q) (by omega) | exact fun q => absurd ((am_le (i := 10) (by omega) (by omega)).mp q) (by omega) | exact (am_lt (by omega) (by omega)).mpr hiP | exact fun q => absurd ((am_lt (by omega) (by omega)).mp q) (by omega)) ?_
      refine am_Rn.go (t := am_t26) rfl 2 rfl ⟨trivial, trivial, trivial⟩ ?_
      refine am_Rn.call (t := am_t26) rfl rfl (sx_mean sc i (by omega) ..) ?_
      rintro _ _ ⟨rfl, rfl⟩
      refine am_Rn.go (t := am_t26) rfl 2 rfl ⟨trivial, trivial, trivial⟩ ?_
      refine am_Rn.call (t := am_t26) rfl rfl (sx_mean sc _ (by omega) ..) ?_
      rintro _ _ ⟨rfl, rfl⟩
      refine am_Rn.go (t := am_t26) rfl 1 rfl ⟨trivial, trivial⟩ ?_
      refine am_Rn.br (fun h2 => ?_) (fun h2 => ?_)
      · skip
        refine am_Rn.go (t := am_t26) rfl 2 rfl ⟨trivial, trivial, trivial⟩ ?_
        have g := ih (i + 1) (by omega) (by omega)
        rw [am_fold_succ, ← am_inc] at g
        generalize hX : (am_fold i (sp_bestOne nr ho) 0) = X at *
        first
          | (rw [show sp_bestOne nr ho i X = X by unfold sp_bestOne; rw [if_neg (by omega), if_pos (by assumption)]] at g; exact g)
          | (rw [show sp_bestOne nr ho i X = i by unfold sp_bestOne; rw [if_neg (by omega), if_neg (by assumption)]] at g; exact g)
      · skip
        refine am_Rn.go (t := am_t26) rfl 4 rfl ⟨trivial, trivial, trivial, trivial, trivial⟩ ?_
        have g := ih (i + 1) (by omega) (by omega)
        rw [am_fold_succ, ← am_inc] at g
        generalize hX : (am_fold i (sp_bestOne nr ho) 0) = X at *
        first
          | (rw [show sp_bestOne nr ho i X = X by unfold sp_bestOne; rw [if_neg (by omega), if_pos (by assumption)]] at g; exact g)
          | (rw [show sp_bestOne nr ho i X = i by unfold sp_bestOne; rw [if_neg (by omega), if_neg (by assumption)]] at g; exact g)
  refine am_Rn.go (t := am_t26) rfl 4 rfl ⟨trivial, trivial, trivial, trivial, trivial⟩ ?_
  exact L 9 1 (by omega) (by omega)
