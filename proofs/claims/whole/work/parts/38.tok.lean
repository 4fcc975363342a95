def sp_tokAt (c : Nat → Int32) (n s : Nat) (va : Int32) : Nat × Int32 × Int32 × Nat :=
  if n ≤ s then (s, 1, va, s)
  else if c s = 59 then (s, 2, va, s + 1)
  else if sp_dig (c s) = true then (s, sp_nkind c s (sp_run sp_dig c (n - s) s) (sp_num c (n - s) s 0), sp_num c (n - s) s 0, sp_run sp_dig c (n - s) s)
  else if sp_let (c s) = true then (s, (sp_wFold c s (sp_run sp_let c (n - s) s - s) n va 89).1, (sp_wFold c s (sp_run sp_let c (n - s) s - s) n va 89).2.1, sp_run sp_let c (n - s) s)
  else (s, 0, va, s)
def sp_tok (c : Nat → Int32) (n i : Nat) (va : Int32) : Nat × Int32 × Int32 × Nat := sp_tokAt c n (sp_run sp_sp c (n - i) i) va
theorem sx_readToken (sc : am_Sc) (i : Nat) (tx : Nat → Int32) (n : Nat) (hn : n ≤ 400) (it fa pl ki va tw : Int32) (hi : i ≤ n) (B0 B1 : List am_E) (Bs : am_M) : am_Rn sc 13 (0, am_entry 13 [.ref 64], [], B0 :: B1 :: bkReader tx (Int32.ofNat n) it fa (Int32.ofNat i) pl ki va tw :: Bs) (fun r M' => r = none ∧ M' = B0 :: B1 :: bkReader tx (Int32.ofNat n) it fa (Int32.ofNat (sp_tok tx n i va).2.2.2) (Int32.ofNat (sp_tok tx n i va).1) (sp_tok tx n i va).2.1 (sp_tok tx n i va).2.2.1 tw :: Bs) := by
  show am_Rn sc 13 (0, [some (.ref 64), none], [], _) _
  have L18 : ∀ (s : Nat) (x1 : Option Value), s < n → am_Rn sc 13 (18, [some (.ref 64), x1], [], B0 :: B1 :: bkReader tx (Int32.ofNat n) it fa (Int32.ofNat s) pl ki va tw :: Bs) (fun r M' => r = none ∧ M' = B0 :: B1 :: bkReader tx (Int32.ofNat n) it fa (Int32.ofNat (sp_tokAt tx n s va).2.2.2) (Int32.ofNat (sp_tokAt tx n s va).1) (sp_tokAt tx n s va).2.1 (sp_tokAt tx n s va).2.2.1 tw :: Bs) := by
    intro s x1 hs
    have hns : ¬ n ≤ s := by omega
    refine am_Rn.go (t := am_t13) rfl 7 rfl ⟨trivial, trivial, trivial, trivial, trivial, trivial, trivial, trivial⟩ ?_
    refine am_Rn.call (t := am_t13) rfl rfl (sx_byteAt sc s (by omega) tx n hn ..) ?_
    rintro _ _ ⟨rfl, rfl⟩
    rw [if_pos hs]
    refine am_Rn.go (t := am_t13) rfl 6 rfl ⟨trivial, trivial, trivial, trivial, trivial, trivial, trivial⟩ ?_
    refine am_Rn.brT ((am_lt (by omega) (by omega)).mpr hs) ?_
    refine am_Rn.go (t := am_t13) rfl 3 rfl ⟨trivial, trivial, trivial, trivial⟩ ?_
    refine am_Rn.br (fun h2 => ?_) (fun h2 => ?_)
    · skip
      have hc : tx s = 59 := h2
      refine am_Rn.go (t := am_t13) rfl 10 rfl ⟨trivial, trivial, trivial, trivial, trivial, trivial, trivial, trivial, trivial, trivial, trivial⟩ ?_
      refine am_Rn.ret (t := am_t13) rfl rfl trivial ?_
      first
        | (have hz : sp_tokAt tx n s va = (s, 2, va, s + 1) := by unfold sp_tokAt; rw [if_neg hns, if_pos hc]
           rw [hz, ← am_inc]
           exact ⟨rfl, rfl⟩)
        | (rw [show sp_tokAt tx n s va = _ by unfold sp_tokAt; rw [if_neg hns, if_neg hc, if_pos hd]]
           exact ⟨rfl, rfl⟩)
        | (rw [show sp_tokAt tx n s va = _ by unfold sp_tokAt; rw [if_neg hns, if_neg hc, if_neg hd, if_pos hl]]
           exact ⟨rfl, rfl⟩)
        | (rw [show sp_tokAt tx n s va = (s, 0, va, s) by unfold sp_tokAt; rw [if_neg hns, if_neg hc, if_neg hd, if_neg hl]]
           exact ⟨rfl, rfl⟩)
    · skip
      have hc : ¬ tx s = 59 := h2
      refine am_Rn.go (t := am_t13) rfl 1 rfl ⟨trivial, trivial⟩ ?_
      refine am_Rn.call (t := am_t13) rfl rfl (sx_isDigit ..) ?_
      rintro _ _ ⟨rfl, rfl⟩
      refine am_Rn.go (t := am_t13) rfl 1 rfl ⟨trivial, trivial⟩ ?_
      refine am_Rn.brB (fun h3 => ?_) (fun h3 => ?_)
      · skip
        have hd : ¬ sp_dig (tx s) = true := fun z => h3 (of_decide_eq_true z)
        refine am_Rn.go (t := am_t13) rfl 1 rfl ⟨trivial, trivial⟩ ?_
        refine am_Rn.call (t := am_t13) rfl rfl (sx_isLetter ..) ?_
        rintro _ _ ⟨rfl, rfl⟩
        refine am_Rn.go (t := am_t13) rfl 1 rfl ⟨trivial, trivial⟩ ?_
        refine am_Rn.brB (fun h4 => ?_) (fun h4 => ?_)
        · skip
          have hl : ¬ sp_let (tx s) = true := fun z => h4 (of_decide_eq_true z)
          refine am_Rn.go (t := am_t13) rfl 3 rfl ⟨trivial, trivial, trivial, trivial⟩ ?_
          refine am_Rn.ret (t := am_t13) rfl rfl trivial ?_
          first
            | (have hz : sp_tokAt tx n s va = (s, 2, va, s + 1) := by unfold sp_tokAt; rw [if_neg hns, if_pos hc]
               rw [hz, ← am_inc]
               exact ⟨rfl, rfl⟩)
            | (rw [show sp_tokAt tx n s va = _ by unfold sp_tokAt; rw [if_neg hns, if_neg hc, if_pos hd]]
               exact ⟨rfl, rfl⟩)
            | (rw [show sp_tokAt tx n s va = _ by unfold sp_tokAt; rw [if_neg hns, if_neg hc, if_neg hd, if_pos hl]]
               exact ⟨rfl, rfl⟩)
            | (rw [show sp_tokAt tx n s va = (s, 0, va, s) by unfold sp_tokAt; rw [if_neg hns, if_neg hc, if_neg hd, if_neg hl]]
               exact ⟨rfl, rfl⟩)
        · skip
          have hl : sp_let (tx s) = true := decide_eq_true h4
          refine am_Rn.go (t := am_t13) rfl 1 rfl ⟨trivial, trivial⟩ ?_
          refine am_Rn.call (t := am_t13) rfl rfl (sx_takeWord sc s tx n hn it fa ki va tw hs ..) ?_
          rintro _ _ ⟨rfl, rfl⟩
          refine am_Rn.go (t := am_t13) rfl 1 rfl ⟨trivial, trivial⟩ ?_
          refine am_Rn.ret (t := am_t13) rfl rfl trivial ?_
          first
            | (have hz : sp_tokAt tx n s va = (s, 2, va, s + 1) := by unfold sp_tokAt; rw [if_neg hns, if_pos hc]
               rw [hz, ← am_inc]
               exact ⟨rfl, rfl⟩)
            | (rw [show sp_tokAt tx n s va = _ by unfold sp_tokAt; rw [if_neg hns, if_neg hc, if_pos hd]]
               exact ⟨rfl, rfl⟩)
            | (rw [show sp_tokAt tx n s va = _ by unfold sp_tokAt; rw [if_neg hns, if_neg hc, if_neg hd, if_pos hl]]
               exact ⟨rfl, rfl⟩)
            | (rw [show sp_tokAt tx n s va = (s, 0, va, s) by unfold sp_tokAt; rw [if_neg hns, if_neg hc, if_neg hd, if_neg hl]]
               exact ⟨rfl, rfl⟩)
      · skip
        have hd : sp_dig (tx s) = true := decide_eq_true h3
        refine am_Rn.go (t := am_t13) rfl 1 rfl ⟨trivial, trivial⟩ ?_
        refine am_Rn.call (t := am_t13) rfl rfl (sx_takeNumber sc s tx n hn it fa ki va tw hs ..) ?_
        rintro _ _ ⟨rfl, rfl⟩
        refine am_Rn.go (t := am_t13) rfl 1 rfl ⟨trivial, trivial⟩ ?_
        refine am_Rn.ret (t := am_t13) rfl rfl trivial ?_
        first
          | (have hz : sp_tokAt tx n s va = (s, 2, va, s + 1) := by unfold sp_tokAt; rw [if_neg hns, if_pos hc]
             rw [hz, ← am_inc]
             exact ⟨rfl, rfl⟩)
          | (rw [show sp_tokAt tx n s va = _ by unfold sp_tokAt; rw [if_neg hns, if_neg hc, if_pos hd]]
             exact ⟨rfl, rfl⟩)
          | (rw [show sp_tokAt tx n s va = _ by unfold sp_tokAt; rw [if_neg hns, if_neg hc, if_neg hd, if_pos hl]]
             exact ⟨rfl, rfl⟩)
          | (rw [show sp_tokAt tx n s va = (s, 0, va, s) by unfold sp_tokAt; rw [if_neg hns, if_neg hc, if_neg hd, if_neg hl]]
             exact ⟨rfl, rfl⟩)
  have L : ∀ (d i : Nat) (x1 : Option Value), i + d = n → am_Rn sc 13 (0, [some (.ref 64), x1], [], B0 :: B1 :: bkReader tx (Int32.ofNat n) it fa (Int32.ofNat i) pl ki va tw :: Bs) (fun r M' => r = none ∧ M' = B0 :: B1 :: bkReader tx (Int32.ofNat n) it fa (Int32.ofNat (sp_tokAt tx n (sp_run sp_sp tx d i) va).2.2.2) (Int32.ofNat (sp_tokAt tx n (sp_run sp_sp tx d i) va).1) (sp_tokAt tx n (sp_run sp_sp tx d i) va).2.1 (sp_tokAt tx n (sp_run sp_sp tx d i) va).2.2.1 tw :: Bs) := by
    intro d
    induction d with
    | zero =>
      intro i x1 hi
      obtain rfl : i = n := by omega
      refine am_Rn.go (t := am_t13) rfl 5 rfl ⟨trivial, trivial, trivial, trivial, trivial, trivial⟩ ?_
      refine am_Rn.brT ((am_le (by omega) (by omega)).mpr (Nat.le_refl _)) ?_
      refine am_Rn.go (t := am_t13) rfl 7 rfl ⟨trivial, trivial, trivial, trivial, trivial, trivial, trivial, trivial⟩ ?_
      refine am_Rn.call (t := am_t13) rfl rfl (sx_byteAt sc i (by omega) tx i hn ..) ?_
      rintro _ _ ⟨rfl, rfl⟩
      refine am_Rn.go (t := am_t13) rfl 6 rfl ⟨trivial, trivial, trivial, trivial, trivial, trivial, trivial⟩ ?_
      refine am_Rn.brF (fun q => absurd ((am_lt (by omega) (by omega)).mp q) (Nat.lt_irrefl _)) ?_
      refine am_Rn.go (t := am_t13) rfl 4 rfl ⟨trivial, trivial, trivial, trivial, trivial⟩ ?_
      refine am_Rn.ret (t := am_t13) rfl rfl trivial ?_
      rw [show sp_tokAt tx i (sp_run sp_sp tx 0 i) va = (i, 1, va, i) from if_pos (Nat.le_refl _)]
      exact ⟨rfl, rfl⟩
    | succ d ih =>
      intro i x1 hi
      have hin : i < n := by omega
      refine am_Rn.go (t := am_t13) rfl 5 rfl ⟨trivial, trivial, trivial, trivial, trivial, trivial⟩ ?_
      refine am_Rn.brF (fun q => absurd ((am_le (by omega) (by omega)).mp q) (by omega)) ?_
      refine am_Rn.go (t := am_t13) rfl 3 rfl ⟨trivial, trivial, trivial, trivial⟩ ?_
      refine am_Rn.call (t := am_t13) rfl rfl (sx_byteAt sc i (by omega) tx n hn ..) ?_
      rintro _ _ ⟨rfl, rfl⟩
      rw [if_pos hin]
      refine am_Rn.go (t := am_t13) rfl 2 rfl ⟨trivial, trivial, trivial⟩ ?_
      refine am_Rn.br (fun h2 => ?_) (fun h2 => ?_)
      · skip
        have hd : sp_sp (tx i) = true := decide_eq_true h2
        rw [sp_run_T hd]
        refine am_Rn.go (t := am_t13) rfl 7 rfl ⟨trivial, trivial, trivial, trivial, trivial, trivial, trivial, trivial⟩ ?_
        have g := ih (i + 1) x1 (by omega)
        rw [← am_inc] at g
        exact g
      · skip
        have hd : ¬ sp_sp (tx i) = true := fun z => h2 (of_decide_eq_true z)
        rw [sp_run_F hd]
        exact L18 i x1 hin
  exact L (n - i) i _ (by omega)
