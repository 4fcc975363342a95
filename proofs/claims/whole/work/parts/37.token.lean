theorem am_addN (i j : Nat) : Int32.ofNat i + Int32.ofNat j = Int32.ofNat (i + j) := (Int32.ofNat_add i j).symm
theorem sx_takeNumber (sc : am_Sc) (s : Nat) (tx : Nat → Int32) (n : Nat) (hn : n ≤ 400) (it fa ki va tw : Int32) (hsn : s < n) (B0 B1 : List am_E) (Bs : am_M) : am_Rn sc 14 (0, am_entry 14 [.ref 64], [], B0 :: B1 :: bkReader tx (Int32.ofNat n) it fa (Int32.ofNat s) (Int32.ofNat s) ki va tw :: Bs) (fun r M' => r = none ∧ M' = B0 :: B1 :: bkReader tx (Int32.ofNat n) it fa (Int32.ofNat (sp_run sp_dig tx (n - s) s)) (Int32.ofNat s) (sp_nkind tx s (sp_run sp_dig tx (n - s) s) (sp_num tx (n - s) s 0)) (sp_num tx (n - s) s 0) tw :: Bs) := by
  show am_Rn sc 14 (0, [some (.ref 64), none], [], _) _
  have L36 : ∀ (e : Nat) (v : Int32) (x1 : Option Value), s ≤ e → e ≤ n → am_Rn sc 14 (36, [some (.ref 64), x1], [], B0 :: B1 :: bkReader tx (Int32.ofNat n) it fa (Int32.ofNat e) (Int32.ofNat s) ki v tw :: Bs) (fun r M' => r = none ∧ M' = B0 :: B1 :: bkReader tx (Int32.ofNat n) it fa (Int32.ofNat e) (Int32.ofNat s) (sp_nkind tx s e v) v tw :: Bs) := by
    intro e v x1 hse hen
    have es : Int32.ofNat e - Int32.ofNat s = Int32.ofNat (e - s) := am_sub_ofN hse (by omega)
    refine am_Rn.go (t := am_t14) rfl 3 rfl ⟨trivial, trivial, trivial, trivial⟩ ?_
    refine am_Rn.call (t := am_t14) rfl rfl (sx_byteAt sc s (by omega) tx n hn ..) ?_
    rintro _ _ ⟨rfl, rfl⟩
    rw [if_pos hsn]
    refine am_Rn.go (t := am_t14) rfl 2 rfl ⟨trivial, trivial, trivial⟩ ?_
    refine am_Rn.br (fun h1 => ?_) (fun h1 => ?_)
    · skip
      have hc : tx s = 48 := h1
      refine am_Rn.go (t := am_t14) rfl 7 rfl ⟨trivial, trivial, trivial, trivial, trivial, trivial, trivial, trivial⟩ ?_
      refine am_Rn.br (fun h2 => ?_) (fun h2 => ?_)
      · skip
        have he : ¬ 1 < e - s := by
          have := h2
          rw [es] at this
          have := (am_le (j := 1) (by omega) (by omega)).mp this
          omega
        refine am_Rn.go (t := am_t14) rfl 7 rfl ⟨trivial, trivial, trivial, trivial, trivial, trivial, trivial, trivial⟩ ?_
        refine am_Rn.br (fun h3 => ?_) (fun h3 => ?_)
        · skip
          have hv : 99 < v := h3
          refine am_Rn.go (t := am_t14) rfl 3 rfl ⟨trivial, trivial, trivial, trivial⟩ ?_
          refine am_Rn.ret (t := am_t14) rfl rfl trivial ?_
          first
            | exact absurd (by assumption : (1 : Int32) = 0) (by decide)
            | exact absurd rfl (by assumption : ¬ (0 : Int32) = 0)
            | (have hk : sp_nkind tx s e v = 0 := if_pos (by first | exact Or.inl hv | exact Or.inr ⟨hc, he⟩)
               rw [hk]
               exact ⟨rfl, rfl⟩)
            | (have hk : sp_nkind tx s e v = 3 := if_neg (by
                rintro (q | ⟨q1, q2⟩)
                · exact hv q
                · first | exact hc q1 | exact he q2)
               rw [hk]
               exact ⟨rfl, rfl⟩)
        · skip
          have hv : ¬ 99 < v := h3
          refine am_Rn.go (t := am_t14) rfl 2 rfl ⟨trivial, trivial, trivial⟩ ?_
          refine am_Rn.br (fun h4 => ?_) (fun h4 => ?_)
          · skip
            refine am_Rn.go (t := am_t14) rfl 2 rfl ⟨trivial, trivial, trivial⟩ ?_
            refine am_Rn.ret (t := am_t14) rfl rfl trivial ?_
            first
              | exact absurd (by assumption : (1 : Int32) = 0) (by decide)
              | exact absurd rfl (by assumption : ¬ (0 : Int32) = 0)
              | (have hk : sp_nkind tx s e v = 0 := if_pos (by first | exact Or.inl hv | exact Or.inr ⟨hc, he⟩)
                 rw [hk]
                 exact ⟨rfl, rfl⟩)
              | (have hk : sp_nkind tx s e v = 3 := if_neg (by
                  rintro (q | ⟨q1, q2⟩)
                  · exact hv q
                  · first | exact hc q1 | exact he q2)
                 rw [hk]
                 exact ⟨rfl, rfl⟩)
          · skip
            refine am_Rn.go (t := am_t14) rfl 3 rfl ⟨trivial, trivial, trivial, trivial⟩ ?_
            refine am_Rn.ret (t := am_t14) rfl rfl trivial ?_
            first
              | exact absurd (by assumption : (1 : Int32) = 0) (by decide)
              | exact absurd rfl (by assumption : ¬ (0 : Int32) = 0)
              | (have hk : sp_nkind tx s e v = 0 := if_pos (by first | exact Or.inl hv | exact Or.inr ⟨hc, he⟩)
                 rw [hk]
                 exact ⟨rfl, rfl⟩)
              | (have hk : sp_nkind tx s e v = 3 := if_neg (by
                  rintro (q | ⟨q1, q2⟩)
                  · exact hv q
                  · first | exact hc q1 | exact he q2)
                 rw [hk]
                 exact ⟨rfl, rfl⟩)
      · skip
        have he : 1 < e - s := by
          have := h2
          rw [es] at this
          exact Nat.lt_of_not_le (fun z => this ((am_le (j := 1) (by omega) (by omega)).mpr z))
        refine am_Rn.go (t := am_t14) rfl 8 rfl ⟨trivial, trivial, trivial, trivial, trivial, trivial, trivial, trivial, trivial⟩ ?_
        refine am_Rn.br (fun h5 => ?_) (fun h5 => ?_)
        · skip
          have hv : 99 < v := h5
          refine am_Rn.go (t := am_t14) rfl 3 rfl ⟨trivial, trivial, trivial, trivial⟩ ?_
          refine am_Rn.ret (t := am_t14) rfl rfl trivial ?_
          first
            | exact absurd (by assumption : (1 : Int32) = 0) (by decide)
            | exact absurd rfl (by assumption : ¬ (0 : Int32) = 0)
            | (have hk : sp_nkind tx s e v = 0 := if_pos (by first | exact Or.inl hv | exact Or.inr ⟨hc, he⟩)
               rw [hk]
               exact ⟨rfl, rfl⟩)
            | (have hk : sp_nkind tx s e v = 3 := if_neg (by
                rintro (q | ⟨q1, q2⟩)
                · exact hv q
                · first | exact hc q1 | exact he q2)
               rw [hk]
               exact ⟨rfl, rfl⟩)
        · skip
          have hv : ¬ 99 < v := h5
          refine am_Rn.go (t := am_t14) rfl 2 rfl ⟨trivial, trivial, trivial⟩ ?_
          refine am_Rn.br (fun h6 => ?_) (fun h6 => ?_)
          · skip
            refine am_Rn.go (t := am_t14) rfl 2 rfl ⟨trivial, trivial, trivial⟩ ?_
            refine am_Rn.ret (t := am_t14) rfl rfl trivial ?_
            first
              | exact absurd (by assumption : (1 : Int32) = 0) (by decide)
              | exact absurd rfl (by assumption : ¬ (0 : Int32) = 0)
              | (have hk : sp_nkind tx s e v = 0 := if_pos (by first | exact Or.inl hv | exact Or.inr ⟨hc, he⟩)
                 rw [hk]
                 exact ⟨rfl, rfl⟩)
              | (have hk : sp_nkind tx s e v = 3 := if_neg (by
                  rintro (q | ⟨q1, q2⟩)
                  · exact hv q
                  · first | exact hc q1 | exact he q2)
                 rw [hk]
                 exact ⟨rfl, rfl⟩)
          · skip
            refine am_Rn.go (t := am_t14) rfl 3 rfl ⟨trivial, trivial, trivial, trivial⟩ ?_
            refine am_Rn.ret (t := am_t14) rfl rfl trivial ?_
            first
              | exact absurd (by assumption : (1 : Int32) = 0) (by decide)
              | exact absurd rfl (by assumption : ¬ (0 : Int32) = 0)
              | (have hk : sp_nkind tx s e v = 0 := if_pos (by first | exact Or.inl hv | exact Or.inr ⟨hc, he⟩)
                 rw [hk]
                 exact ⟨rfl, rfl⟩)
              | (have hk : sp_nkind tx s e v = 3 := if_neg (by
                  rintro (q | ⟨q1, q2⟩)
                  · exact hv q
                  · first | exact hc q1 | exact he q2)
                 rw [hk]
                 exact ⟨rfl, rfl⟩)
    · skip
      have hc : ¬ tx s = 48 := h1
      refine am_Rn.go (t := am_t14) rfl 7 rfl ⟨trivial, trivial, trivial, trivial, trivial, trivial, trivial, trivial⟩ ?_
      refine am_Rn.br (fun h7 => ?_) (fun h7 => ?_)
      · skip
        have hv : 99 < v := h7
        refine am_Rn.go (t := am_t14) rfl 3 rfl ⟨trivial, trivial, trivial, trivial⟩ ?_
        refine am_Rn.ret (t := am_t14) rfl rfl trivial ?_
        first
          | exact absurd (by assumption : (1 : Int32) = 0) (by decide)
          | exact absurd rfl (by assumption : ¬ (0 : Int32) = 0)
          | (have hk : sp_nkind tx s e v = 0 := if_pos (by first | exact Or.inl hv | exact Or.inr ⟨hc, he⟩)
             rw [hk]
             exact ⟨rfl, rfl⟩)
          | (have hk : sp_nkind tx s e v = 3 := if_neg (by
              rintro (q | ⟨q1, q2⟩)
              · exact hv q
              · first | exact hc q1 | exact he q2)
             rw [hk]
             exact ⟨rfl, rfl⟩)
      · skip
        have hv : ¬ 99 < v := h7
        refine am_Rn.go (t := am_t14) rfl 2 rfl ⟨trivial, trivial, trivial⟩ ?_
        refine am_Rn.br (fun h8 => ?_) (fun h8 => ?_)
        · skip
          refine am_Rn.go (t := am_t14) rfl 2 rfl ⟨trivial, trivial, trivial⟩ ?_
          refine am_Rn.ret (t := am_t14) rfl rfl trivial ?_
          first
            | exact absurd (by assumption : (1 : Int32) = 0) (by decide)
            | exact absurd rfl (by assumption : ¬ (0 : Int32) = 0)
            | (have hk : sp_nkind tx s e v = 0 := if_pos (by first | exact Or.inl hv | exact Or.inr ⟨hc, he⟩)
               rw [hk]
               exact ⟨rfl, rfl⟩)
            | (have hk : sp_nkind tx s e v = 3 := if_neg (by
                rintro (q | ⟨q1, q2⟩)
                · exact hv q
                · first | exact hc q1 | exact he q2)
               rw [hk]
               exact ⟨rfl, rfl⟩)
        · skip
          refine am_Rn.go (t := am_t14) rfl 3 rfl ⟨trivial, trivial, trivial, trivial⟩ ?_
          refine am_Rn.ret (t := am_t14) rfl rfl trivial ?_
          first
            | exact absurd (by assumption : (1 : Int32) = 0) (by decide)
            | exact absurd rfl (by assumption : ¬ (0 : Int32) = 0)
            | (have hk : sp_nkind tx s e v = 0 := if_pos (by first | exact Or.inl hv | exact Or.inr ⟨hc, he⟩)
               rw [hk]
               exact ⟨rfl, rfl⟩)
            | (have hk : sp_nkind tx s e v = 3 := if_neg (by
                rintro (q | ⟨q1, q2⟩)
                · exact hv q
                · first | exact hc q1 | exact he q2)
               rw [hk]
               exact ⟨rfl, rfl⟩)
  have L : ∀ (d i : Nat) (v : Int32) (x1 : Option Value), i + d = n → s ≤ i → am_Rn sc 14 (3, [some (.ref 64), x1], [], B0 :: B1 :: bkReader tx (Int32.ofNat n) it fa (Int32.ofNat i) (Int32.ofNat s) ki v tw :: Bs) (fun r M' => r = none ∧ M' = B0 :: B1 :: bkReader tx (Int32.ofNat n) it fa (Int32.ofNat (sp_run sp_dig tx d i)) (Int32.ofNat s) (sp_nkind tx s (sp_run sp_dig tx d i) (sp_num tx d i v)) (sp_num tx d i v) tw :: Bs) := by
    intro d
    induction d with
    | zero =>
      intro i v x1 hi hs
      obtain rfl : i = n := by omega
      refine am_Rn.go (t := am_t14) rfl 5 rfl ⟨trivial, trivial, trivial, trivial, trivial, trivial⟩ ?_
      refine am_Rn.brT ((am_le (by omega) (by omega)).mpr (Nat.le_refl _)) ?_
      exact L36 i v x1 hs (Nat.le_refl _)
    | succ d ih =>
      intro i v x1 hi hs
      have hin : i < n := by omega
      refine am_Rn.go (t := am_t14) rfl 5 rfl ⟨trivial, trivial, trivial, trivial, trivial, trivial⟩ ?_
      refine am_Rn.brF (fun q => absurd ((am_le (by omega) (by omega)).mp q) (by omega)) ?_
      refine am_Rn.go (t := am_t14) rfl 3 rfl ⟨trivial, trivial, trivial, trivial⟩ ?_
      refine am_Rn.call (t := am_t14) rfl rfl (sx_byteAt sc i (by omega) tx n hn ..) ?_
      rintro _ _ ⟨rfl, rfl⟩
      rw [if_pos hin]
      refine am_Rn.call (t := am_t14) rfl rfl (sx_isDigit ..) ?_
      rintro _ _ ⟨rfl, rfl⟩
      refine am_Rn.go (t := am_t14) rfl 1 rfl ⟨trivial, trivial⟩ ?_
      refine am_Rn.brB (fun h2 => ?_) (fun h2 => ?_)
      · skip
        have hd : ¬ sp_dig (tx i) = true := fun z => h2 (of_decide_eq_true z)
        rw [sp_run_F hd, sp_num_F hd]
        exact L36 i v x1 hs (by omega)
      · skip
        have hd : sp_dig (tx i) = true := decide_eq_true h2
        rw [sp_run_T hd, sp_num_T hd]
        refine am_Rn.go (t := am_t14) rfl 8 rfl ⟨trivial, trivial, trivial, trivial, trivial, trivial, trivial, trivial, trivial⟩ ?_
        refine am_Rn.call (t := am_t14) rfl rfl (sx_byteAt sc i (by omega) tx n hn ..) ?_
        rintro _ _ ⟨rfl, rfl⟩
        rw [if_pos hin]
        refine am_Rn.go (t := am_t14) rfl 6 rfl ⟨trivial, trivial, trivial, trivial, trivial, trivial, trivial⟩ ?_
        show am_Rn sc 14 (29, _, _, B0 :: B1 :: bkReader tx (Int32.ofNat n) it fa (Int32.ofNat i) (Int32.ofNat s) ki (if 100 < v * 10 + tx i - 48 then 100 else v * 10 + tx i - 48) tw :: Bs) _
        refine am_Rn.go (t := am_t14) rfl 7 rfl ⟨trivial, trivial, trivial, trivial, trivial, trivial, trivial, trivial⟩ ?_
        have g := ih (i + 1) (if 100 < v * 10 + tx i - 48 then 100 else v * 10 + tx i - 48) x1 (by omega) (by omega)
        rw [← am_inc] at g
        exact g
  refine am_Rn.go (t := am_t14) rfl 3 rfl ⟨trivial, trivial, trivial, trivial⟩ ?_
  exact L (n - s) s 0 _ (by omega) (Nat.le_refl _)
theorem sx_takeWord (sc : am_Sc) (s : Nat) (tx : Nat → Int32) (n : Nat) (hn : n ≤ 400) (it fa ki va tw : Int32) (hsn : s < n) (B0 B1 : List am_E) (Bs : am_M) : am_Rn sc 15 (0, am_entry 15 [.ref 64], [], B0 :: B1 :: bkReader tx (Int32.ofNat n) it fa (Int32.ofNat s) (Int32.ofNat s) ki va tw :: Bs) (fun r M' => r = none ∧ M' = B0 :: B1 :: bkReader tx (Int32.ofNat n) it fa (Int32.ofNat (sp_run sp_let tx (n - s) s)) (Int32.ofNat s) ((sp_wFold tx s ((sp_run sp_let tx (n - s) s) - s) n va 89)).1 ((sp_wFold tx s ((sp_run sp_let tx (n - s) s) - s) n va 89)).2.1 tw :: Bs) := by
  show am_Rn sc 15 (0, [some (.ref 64), none, none, none, none], [], _) _
  have L29 : ∀ (e : Nat), s ≤ e → e ≤ n → ∀ (d i : Nat), i + d = 89 → am_Rn sc 15 (29, [some (.ref 64), some (.int (Int32.ofNat (sp_wFold tx s (e - s) n va i).2.2.1)), some (.int (Int32.ofNat (sp_wFold tx s (e - s) n va i).2.2.2.1)), some (.int (am_b ((sp_wFold tx s (e - s) n va i).2.2.2.2 = true))), some (.int (Int32.ofNat i))], [], B0 :: B1 :: bkReader tx (Int32.ofNat n) it fa (Int32.ofNat e) (Int32.ofNat s) (sp_wFold tx s (e - s) n va i).1 (sp_wFold tx s (e - s) n va i).2.1 tw :: Bs) (fun r M' => r = none ∧ M' = B0 :: B1 :: bkReader tx (Int32.ofNat n) it fa (Int32.ofNat e) (Int32.ofNat s) ((sp_wFold tx s (e - s) n va 89)).1 ((sp_wFold tx s (e - s) n va 89)).2.1 tw :: Bs) := by
    intro e hse hen d
    induction d with
    | zero =>
      intro i hi
      obtain rfl : i = 89 := by omega
      refine am_Rn.go (t := am_t15) rfl 2 rfl ⟨trivial, trivial, trivial⟩ ?_
      refine am_Rn.call (t := am_t15) rfl rfl (sx_strlen ..) ?_
      rintro _ _ ⟨rfl, rfl⟩
      refine am_Rn.go (t := am_t15) rfl 1 rfl ⟨trivial, trivial⟩ ?_
      refine am_Rn.brT (by decide) ?_
      refine am_Rn.ret (t := am_t15) rfl rfl trivial ?_
      exact ⟨rfl, rfl⟩
    | succ d ih =>
      intro i hi
      have g := ih (i + 1) (by omega)
      have hle := sp_wFold_le tx s (e - s) n va i
      have hst : sp_wFold tx s (e - s) n va (i + 1) = sp_wOne tx s (e - s) n i (sp_wFold tx s (e - s) n va i) := rfl
      rw [hst] at g
      generalize sp_wFold tx s (e - s) n va i = X at g hle ⊢
      obtain ⟨k0, v0, w0, f0, b0⟩ := X
      dsimp only at hle
      have e7 : Int32.ofNat s + Int32.ofNat i - Int32.ofNat f0 = Int32.ofNat (s + i - f0) := by rw [am_addN, am_sub_ofN (by omega) (by omega)]
      have e8 : Int32.ofNat i - Int32.ofNat f0 = Int32.ofNat (i - f0) := am_sub_ofN (by omega) (by omega)
      have e9 : Int32.ofNat e - Int32.ofNat s = Int32.ofNat (e - s) := am_sub_ofN (by omega) (by omega)
      have e10 := am_eqi (i := i - f0) (j := e - s) (by omega) (by omega)
      have hlt : ¬ (89 : Int32) ≤ Int32.ofNat i := fun q => absurd ((am_le (i := 89) (by omega) (by omega)).mp q) (by omega)
      cases b0 with
      | false =>
        dsimp only
        refine am_Rn.go (t := am_t15) rfl 2 rfl ⟨trivial, trivial, trivial⟩ ?_
        refine am_Rn.call (t := am_t15) rfl rfl (sx_strlen ..) ?_
        rintro _ _ ⟨rfl, rfl⟩
        refine am_Rn.go (t := am_t15) rfl 1 rfl ⟨trivial, trivial⟩ ?_
        refine am_Rn.brF hlt ?_
        refine am_Rn.go (t := am_t15) rfl 2 rfl ⟨trivial, trivial, trivial⟩ ?_
        refine am_Rn.call (t := am_t15) rfl rfl (sx_charAt sc i (by omega) ..) ?_
        rintro _ _ ⟨rfl, rfl⟩
        refine am_Rn.go (t := am_t15) rfl 2 rfl ⟨trivial, trivial, trivial⟩ ?_
        refine am_Rn.br (fun h2 => ?_) (fun h2 => ?_)
        · skip
          refine am_Rn.go (t := am_t15) rfl 2 rfl ⟨trivial, trivial, trivial⟩ ?_
          refine am_Rn.brT (am_b0.mpr (by decide)) ?_
          refine am_Rn.go (t := am_t15) rfl 9 rfl ⟨trivial, trivial, trivial, trivial, trivial, trivial, trivial, trivial, trivial, trivial⟩ ?_
          simp only [e8, e9, e10] at *
          first
            | (rw [show sp_wOne tx s (e - s) n i (k0, v0, w0, f0, false) = (k0, v0, w0, f0, true) by unfold sp_wOne; rw [if_neg (by assumption)]; exact congrArg (fun z => (k0, v0, w0, f0, z)) (decide_eq_true (by assumption)), ← am_inc] at g; exact g)
            | (rw [show sp_wOne tx s (e - s) n i (k0, v0, w0, f0, false) = (k0, v0, w0, f0, false) by unfold sp_wOne; rw [if_neg (by assumption)]; first | rfl | exact congrArg (fun z => (k0, v0, w0, f0, z)) (decide_eq_false (by assumption)), ← am_inc] at g; exact g)
            | (rw [show sp_wOne tx s (e - s) n i (k0, v0, w0, f0, false) = (4, Int32.ofNat w0, w0 + 1, i + 1, true) by unfold sp_wOne; rw [if_pos (by assumption), if_pos ⟨rfl, by assumption⟩, if_pos ⟨rfl, by assumption⟩]] at g; simp only [← am_inc] at g; exact g)
            | (rw [show sp_wOne tx s (e - s) n i (k0, v0, w0, f0, false) = (k0, v0, w0 + 1, i + 1, true) by unfold sp_wOne; rw [if_pos (by assumption), if_neg (fun z => by first | exact Bool.noConfusion (show false = true from z.1) | exact absurd (show i - f0 = e - s from z.2) (by assumption)), if_neg (fun z => by first | exact Bool.noConfusion (show false = true from z.1) | exact absurd (show i - f0 = e - s from z.2) (by assumption))]] at g; simp only [← am_inc] at g; exact g)
        · skip
          refine am_Rn.go (t := am_t15) rfl 2 rfl ⟨trivial, trivial, trivial⟩ ?_
          refine am_Rn.brT (am_b0.mpr (by decide)) ?_
          refine am_Rn.go (t := am_t15) rfl 5 rfl ⟨trivial, trivial, trivial, trivial, trivial, trivial⟩ ?_
          simp only [e8, e9, e10] at *
          first
            | (rw [show sp_wOne tx s (e - s) n i (k0, v0, w0, f0, false) = (k0, v0, w0, f0, true) by unfold sp_wOne; rw [if_neg (by assumption)]; exact congrArg (fun z => (k0, v0, w0, f0, z)) (decide_eq_true (by assumption)), ← am_inc] at g; exact g)
            | (rw [show sp_wOne tx s (e - s) n i (k0, v0, w0, f0, false) = (k0, v0, w0, f0, false) by unfold sp_wOne; rw [if_neg (by assumption)]; first | rfl | exact congrArg (fun z => (k0, v0, w0, f0, z)) (decide_eq_false (by assumption)), ← am_inc] at g; exact g)
            | (rw [show sp_wOne tx s (e - s) n i (k0, v0, w0, f0, false) = (4, Int32.ofNat w0, w0 + 1, i + 1, true) by unfold sp_wOne; rw [if_pos (by assumption), if_pos ⟨rfl, by assumption⟩, if_pos ⟨rfl, by assumption⟩]] at g; simp only [← am_inc] at g; exact g)
            | (rw [show sp_wOne tx s (e - s) n i (k0, v0, w0, f0, false) = (k0, v0, w0 + 1, i + 1, true) by unfold sp_wOne; rw [if_pos (by assumption), if_neg (fun z => by first | exact Bool.noConfusion (show false = true from z.1) | exact absurd (show i - f0 = e - s from z.2) (by assumption)), if_neg (fun z => by first | exact Bool.noConfusion (show false = true from z.1) | exact absurd (show i - f0 = e - s from z.2) (by assumption))]] at g; simp only [← am_inc] at g; exact g)
      | true =>
        dsimp only
        refine am_Rn.go (t := am_t15) rfl 2 rfl ⟨trivial, trivial, trivial⟩ ?_
        refine am_Rn.call (t := am_t15) rfl rfl (sx_strlen ..) ?_
        rintro _ _ ⟨rfl, rfl⟩
        refine am_Rn.go (t := am_t15) rfl 1 rfl ⟨trivial, trivial⟩ ?_
        refine am_Rn.brF hlt ?_
        refine am_Rn.go (t := am_t15) rfl 2 rfl ⟨trivial, trivial, trivial⟩ ?_
        refine am_Rn.call (t := am_t15) rfl rfl (sx_charAt sc i (by omega) ..) ?_
        rintro _ _ ⟨rfl, rfl⟩
        refine am_Rn.go (t := am_t15) rfl 2 rfl ⟨trivial, trivial, trivial⟩ ?_
        refine am_Rn.br (fun h2 => ?_) (fun h2 => ?_)
        · skip
          refine am_Rn.go (t := am_t15) rfl 2 rfl ⟨trivial, trivial, trivial⟩ ?_
          refine am_Rn.brF (fun q => absurd (am_b0.mp q) (by decide)) ?_
          refine am_Rn.go (t := am_t15) rfl 9 rfl ⟨trivial, trivial, trivial, trivial, trivial, trivial, trivial, trivial, trivial, trivial⟩ ?_
          refine am_Rn.br (fun h4 => ?_) (fun h4 => ?_)
          · skip
            refine am_Rn.go (t := am_t15) rfl 15 rfl ⟨trivial, trivial, trivial, trivial, trivial, trivial, trivial, trivial, trivial, trivial, trivial, trivial, trivial, trivial, trivial, trivial⟩ ?_
            simp only [e8, e9, e10] at *
            first
              | (rw [show sp_wOne tx s (e - s) n i (k0, v0, w0, f0, true) = (k0, v0, w0, f0, true) by unfold sp_wOne; rw [if_neg (by assumption)]; exact congrArg (fun z => (k0, v0, w0, f0, z)) (decide_eq_true (by assumption)), ← am_inc] at g; exact g)
              | (rw [show sp_wOne tx s (e - s) n i (k0, v0, w0, f0, true) = (k0, v0, w0, f0, false) by unfold sp_wOne; rw [if_neg (by assumption)]; first | rfl | exact congrArg (fun z => (k0, v0, w0, f0, z)) (decide_eq_false (by assumption)), ← am_inc] at g; exact g)
              | (rw [show sp_wOne tx s (e - s) n i (k0, v0, w0, f0, true) = (4, Int32.ofNat w0, w0 + 1, i + 1, true) by unfold sp_wOne; rw [if_pos (by assumption), if_pos ⟨rfl, by assumption⟩, if_pos ⟨rfl, by assumption⟩]] at g; simp only [← am_inc] at g; exact g)
              | (rw [show sp_wOne tx s (e - s) n i (k0, v0, w0, f0, true) = (k0, v0, w0 + 1, i + 1, true) by unfold sp_wOne; rw [if_pos (by assumption), if_neg (fun z => by first | exact Bool.noConfusion (show false = true from z.1) | exact absurd (show i - f0 = e - s from z.2) (by assumption)), if_neg (fun z => by first | exact Bool.noConfusion (show false = true from z.1) | exact absurd (show i - f0 = e - s from z.2) (by assumption))]] at g; simp only [← am_inc] at g; exact g)
          · skip
            refine am_Rn.go (t := am_t15) rfl 9 rfl ⟨trivial, trivial, trivial, trivial, trivial, trivial, trivial, trivial, trivial, trivial⟩ ?_
            simp only [e8, e9, e10] at *
            first
              | (rw [show sp_wOne tx s (e - s) n i (k0, v0, w0, f0, true) = (k0, v0, w0, f0, true) by unfold sp_wOne; rw [if_neg (by assumption)]; exact congrArg (fun z => (k0, v0, w0, f0, z)) (decide_eq_true (by assumption)), ← am_inc] at g; exact g)
              | (rw [show sp_wOne tx s (e - s) n i (k0, v0, w0, f0, true) = (k0, v0, w0, f0, false) by unfold sp_wOne; rw [if_neg (by assumption)]; first | rfl | exact congrArg (fun z => (k0, v0, w0, f0, z)) (decide_eq_false (by assumption)), ← am_inc] at g; exact g)
              | (rw [show sp_wOne tx s (e - s) n i (k0, v0, w0, f0, true) = (4, Int32.ofNat w0, w0 + 1, i + 1, true) by unfold sp_wOne; rw [if_pos (by assumption), if_pos ⟨rfl, by assumption⟩, if_pos ⟨rfl, by assumption⟩]] at g; simp only [← am_inc] at g; exact g)
              | (rw [show sp_wOne tx s (e - s) n i (k0, v0, w0, f0, true) = (k0, v0, w0 + 1, i + 1, true) by unfold sp_wOne; rw [if_pos (by assumption), if_neg (fun z => by first | exact Bool.noConfusion (show false = true from z.1) | exact absurd (show i - f0 = e - s from z.2) (by assumption)), if_neg (fun z => by first | exact Bool.noConfusion (show false = true from z.1) | exact absurd (show i - f0 = e - s from z.2) (by assumption))]] at g; simp only [← am_inc] at g; exact g)
        · skip
          refine am_Rn.go (t := am_t15) rfl 2 rfl ⟨trivial, trivial, trivial⟩ ?_
          refine am_Rn.brF (fun q => absurd (am_b0.mp q) (by decide)) ?_
          refine am_Rn.go (t := am_t15) rfl 2 rfl ⟨trivial, trivial, trivial⟩ ?_
          refine am_Rn.call (t := am_t15) rfl rfl (sx_charAt sc i (by omega) ..) ?_
          rintro _ _ ⟨rfl, rfl⟩
          refine am_Rn.go (t := am_t15) rfl 7 rfl ⟨trivial, trivial, trivial, trivial, trivial, trivial, trivial, trivial⟩ ?_
          simp only [e7]
          refine am_Rn.call (t := am_t15) rfl rfl (sx_byteAt sc (s + i - f0) (by omega) tx n hn ..) ?_
          rintro _ _ ⟨rfl, rfl⟩
          refine am_Rn.go (t := am_t15) rfl 1 rfl ⟨trivial, trivial⟩ ?_
          refine am_Rn.br (fun h6 => ?_) (fun h6 => ?_)
          · skip
            refine am_Rn.go (t := am_t15) rfl 6 rfl ⟨trivial, trivial, trivial, trivial, trivial, trivial, trivial⟩ ?_
            simp only [e8, e9, e10] at *
            first
              | (rw [show sp_wOne tx s (e - s) n i (k0, v0, w0, f0, true) = (k0, v0, w0, f0, true) by unfold sp_wOne; rw [if_neg (by assumption)]; exact congrArg (fun z => (k0, v0, w0, f0, z)) (decide_eq_true (by assumption)), ← am_inc] at g; exact g)
              | (rw [show sp_wOne tx s (e - s) n i (k0, v0, w0, f0, true) = (k0, v0, w0, f0, false) by unfold sp_wOne; rw [if_neg (by assumption)]; first | rfl | exact congrArg (fun z => (k0, v0, w0, f0, z)) (decide_eq_false (by assumption)), ← am_inc] at g; exact g)
              | (rw [show sp_wOne tx s (e - s) n i (k0, v0, w0, f0, true) = (4, Int32.ofNat w0, w0 + 1, i + 1, true) by unfold sp_wOne; rw [if_pos (by assumption), if_pos ⟨rfl, by assumption⟩, if_pos ⟨rfl, by assumption⟩]] at g; simp only [← am_inc] at g; exact g)
              | (rw [show sp_wOne tx s (e - s) n i (k0, v0, w0, f0, true) = (k0, v0, w0 + 1, i + 1, true) by unfold sp_wOne; rw [if_pos (by assumption), if_neg (fun z => by first | exact Bool.noConfusion (show false = true from z.1) | exact absurd (show i - f0 = e - s from z.2) (by assumption)), if_neg (fun z => by first | exact Bool.noConfusion (show false = true from z.1) | exact absurd (show i - f0 = e - s from z.2) (by assumption))]] at g; simp only [← am_inc] at g; exact g)
          · skip
            refine am_Rn.go (t := am_t15) rfl 5 rfl ⟨trivial, trivial, trivial, trivial, trivial, trivial⟩ ?_
            simp only [e8, e9, e10] at *
            first
              | (rw [show sp_wOne tx s (e - s) n i (k0, v0, w0, f0, true) = (k0, v0, w0, f0, true) by unfold sp_wOne; rw [if_neg (by assumption)]; exact congrArg (fun z => (k0, v0, w0, f0, z)) (decide_eq_true (by assumption)), ← am_inc] at g; exact g)
              | (rw [show sp_wOne tx s (e - s) n i (k0, v0, w0, f0, true) = (k0, v0, w0, f0, false) by unfold sp_wOne; rw [if_neg (by assumption)]; first | rfl | exact congrArg (fun z => (k0, v0, w0, f0, z)) (decide_eq_false (by assumption)), ← am_inc] at g; exact g)
              | (rw [show sp_wOne tx s (e - s) n i (k0, v0, w0, f0, true) = (4, Int32.ofNat w0, w0 + 1, i + 1, true) by unfold sp_wOne; rw [if_pos (by assumption), if_pos ⟨rfl, by assumption⟩, if_pos ⟨rfl, by assumption⟩]] at g; simp only [← am_inc] at g; exact g)
              | (rw [show sp_wOne tx s (e - s) n i (k0, v0, w0, f0, true) = (k0, v0, w0 + 1, i + 1, true) by unfold sp_wOne; rw [if_pos (by assumption), if_neg (fun z => by first | exact Bool.noConfusion (show false = true from z.1) | exact absurd (show i - f0 = e - s from z.2) (by assumption)), if_neg (fun z => by first | exact Bool.noConfusion (show false = true from z.1) | exact absurd (show i - f0 = e - s from z.2) (by assumption))]] at g; simp only [← am_inc] at g; exact g)
  have L : ∀ (d i : Nat) (x1 x2 x3 x4 : Option Value), i + d = n → s ≤ i → am_Rn sc 15 (0, [some (.ref 64), x1, x2, x3, x4], [], B0 :: B1 :: bkReader tx (Int32.ofNat n) it fa (Int32.ofNat i) (Int32.ofNat s) ki va tw :: Bs) (fun r M' => r = none ∧ M' = B0 :: B1 :: bkReader tx (Int32.ofNat n) it fa (Int32.ofNat (sp_run sp_let tx d i)) (Int32.ofNat s) ((sp_wFold tx s ((sp_run sp_let tx d i) - s) n va 89)).1 ((sp_wFold tx s ((sp_run sp_let tx d i) - s) n va 89)).2.1 tw :: Bs) := by
    intro d
    induction d with
    | zero =>
      intro i x1 x2 x3 x4 hi hs
      obtain rfl : i = n := by omega
      refine am_Rn.go (t := am_t15) rfl 5 rfl ⟨trivial, trivial, trivial, trivial, trivial, trivial⟩ ?_
      refine am_Rn.brT ((am_le (by omega) (by omega)).mpr (Nat.le_refl _)) ?_
      refine am_Rn.go (t := am_t15) rfl 11 rfl ⟨trivial, trivial, trivial, trivial, trivial, trivial, trivial, trivial, trivial, trivial, trivial, trivial⟩ ?_
      exact L29 i hs (Nat.le_refl _) 89 0 rfl
    | succ d ih =>
      intro i x1 x2 x3 x4 hi hs
      have hin : i < n := by omega
      refine am_Rn.go (t := am_t15) rfl 5 rfl ⟨trivial, trivial, trivial, trivial, trivial, trivial⟩ ?_
      refine am_Rn.brF (fun q => absurd ((am_le (by omega) (by omega)).mp q) (by omega)) ?_
      refine am_Rn.go (t := am_t15) rfl 3 rfl ⟨trivial, trivial, trivial, trivial⟩ ?_
      refine am_Rn.call (t := am_t15) rfl rfl (sx_byteAt sc i (by omega) tx n hn ..) ?_
      rintro _ _ ⟨rfl, rfl⟩
      rw [if_pos hin]
      refine am_Rn.call (t := am_t15) rfl rfl (sx_isLetter ..) ?_
      rintro _ _ ⟨rfl, rfl⟩
      refine am_Rn.go (t := am_t15) rfl 1 rfl ⟨trivial, trivial⟩ ?_
      refine am_Rn.brB (fun h2 => ?_) (fun h2 => ?_)
      · skip
        have hd : ¬ sp_let (tx i) = true := fun z => h2 (of_decide_eq_true z)
        rw [sp_run_F hd]
        refine am_Rn.go (t := am_t15) rfl 11 rfl ⟨trivial, trivial, trivial, trivial, trivial, trivial, trivial, trivial, trivial, trivial, trivial, trivial⟩ ?_
        exact L29 i hs (by omega) 89 0 rfl
      · skip
        have hd : sp_let (tx i) = true := decide_eq_true h2
        rw [sp_run_T hd]
        refine am_Rn.go (t := am_t15) rfl 7 rfl ⟨trivial, trivial, trivial, trivial, trivial, trivial, trivial, trivial⟩ ?_
        have g := ih (i + 1) x1 x2 x3 x4 (by omega) (by omega)
        rw [← am_inc] at g
        exact g
  exact L (n - s) s _ _ _ _ (by omega) (Nat.le_refl _)
