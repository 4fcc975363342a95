theorem mp_pu (a b : Nat → Int32) {i : Nat} (h : i < 36) (v : Int32) : upd (mp_ps a b) i v = mp_ps (upd a i v) b := by
  funext j
  by_cases e : j = i
  · subst e
    rw [mp_upd_eq]
    unfold mp_ps
    rw [if_pos h, mp_upd_eq]
  · rw [mp_upd_ne _ _ e]
    unfold mp_ps
    split
    · rw [mp_upd_ne _ _ e]
    · rfl
theorem mp_pcov (a b : Nat → Int32) : mp_ps (sp_cov 36 b a) b = mp_ps b b := by
  funext j
  unfold mp_ps
  split
  · next h => exact if_pos h
  · rfl
def sp_settleM (nu : Nat → Int32) : Nat → Int32 := if nu 4 = -9 then upd nu 4 (sp_worth nu 0) else nu
theorem am_36N (i : Nat) : 36 + Int32.ofNat i = Int32.ofNat (36 + i) := am_addN 36 i
theorem sp_pers_ge {c : Nat → Int32} {n i : Nat} {X : Int32 × Int32 × Int32 × Int32 × Nat} (h : sp_pers c n i = .inr X) : i ≤ X.2.2.2.2 := by
  have g1 := sp_t_ge c n i
  have g2 := sp_t_ge c n (sp_t c n i).2.2.2
  have hT : ∀ (i : Nat) (law me : Int32) (X : Int32 × Int32 × Int32 × Int32 × Nat), sp_pTail c n i law me = .inr X → i ≤ X.2.2.2.2 := by
    intro i law me X h
    have g1 := sp_t_ge c n i
    have g2 := sp_t_ge c n (sp_t c n i).2.2.2
    unfold sp_pTail at h
    split at h
    · split at h
      · cases h
        dsimp only
        omega
      · cases h
    · cases h
  unfold sp_pers at h
  split at h
  · split at h
    · have := hT _ _ _ _ h
      omega
    · generalize (if (sp_t c n i).2.2.1 - 10 = 3 then (99 : Int32) else 9) = u at h
      split at h
      · have := hT _ _ _ _ h
        have := sp_t_ge c n (sp_t c n i).2.2.2
        omega
      · cases h
  · cases h
theorem sp_nums_ge {c : Nat → Int32} {n : Nat} : ∀ (k q i : Nat) (nu : Nat → Int32) (X : (Nat → Int32) × Nat), sp_nums c n k q i nu = .inr X → i ≤ X.2 := by
  intro k
  induction k with
  | zero => intro q i nu X h; cases h; exact Nat.le_refl _
  | succ k ih =>
    intro q i nu X h
    unfold sp_nums at h
    split at h
    · have := ih _ _ _ _ h
      have := sp_t_ge c n i
      omega
    · cases h
theorem sp_pl_all {c : Nat → Int32} {n i : Nat} {p : Nat} (hi : i ≤ n) (h : sp_pers c n i = .inl p) : p ≤ n := by
  have g1 := sp_t_pl c n i hi
  have l1 := sp_t_le c n i hi
  have g2 := sp_t_pl c n _ l1
  have l2 := sp_t_le c n _ l1
  have g3 := sp_t_pl c n _ l2
  have l3 := sp_t_le c n _ l2
  have g4 := sp_t_pl c n _ l3
  unfold sp_pers sp_pTail at h
  generalize (if (sp_t c n i).2.2.1 - 10 = 3 then (99 : Int32) else 9) = u at h
  repeat' split at h
  all_goals first
    | cases h
    | skip
  all_goals omega
theorem sp_nl_all {c : Nat → Int32} {n : Nat} : ∀ (k q i : Nat) (nu : Nat → Int32) (p : Nat), i ≤ n → sp_nums c n k q i nu = .inl p → p ≤ n := by
  intro k
  induction k with
  | zero => intro q i nu p hi h; cases h
  | succ k ih =>
    intro q i nu p hi h
    unfold sp_nums at h
    split at h
    · exact ih _ _ _ _ (sp_t_le c n i hi) h
    · cases h
      exact sp_t_pl c n i hi
set_option maxHeartbeats 1000000 in
theorem mm_adopts (sc : am_Sc) (P3 : Nat) (hP3 : P3 ≤ 9) (la3 me3 tc3 ts3 : Nat → Int32) (tr : Int64) (ty nx tk pl va fa cm : Int32) (tx nu dn la me tc ts : Nat → Int32) (P : Nat) (rd pr pv sa pd lo : Int32) (bo co sh se si er of_ sp ke ik bi bt so nr ou ho cl : Nat → Int32) (B0 B1 B2 B3 B4 B5 B6 B7 B8 B9 B10 B11 B12 : List am_E) (Bs : am_M) : am_Rn sc 112 (0, am_entry 112 [.ref 416], [], B0 :: B1 :: B2 :: B3 :: B4 :: B5 :: B6 :: B7 :: B8 :: B9 :: B10 :: B11 :: B12 :: bkModel tr ty nx tk pl va fa (Int32.ofNat P) (Int32.ofNat P3) cm tx (mp_ru nu dn) (mp_ps (mp_q la me tc ts) (mp_q la3 me3 tc3 ts3)) (mp_s rd pr pv sa pd lo bo co sh se si er of_) sp ke ik bi bt so nr ou ho cl :: Bs) (fun r M' => r = none ∧ M' = B0 :: B1 :: B2 :: B3 :: B4 :: B5 :: B6 :: B7 :: B8 :: B9 :: B10 :: B11 :: B12 :: bkModel tr ty nx tk pl va fa (Int32.ofNat P3) (Int32.ofNat P3) cm tx (mp_ru (sp_settleM (sp_cov 10 dn nu)) dn) (mp_ps (mp_q la3 me3 tc3 ts3) (mp_q la3 me3 tc3 ts3)) (mp_s 0 ((sp_settleM (sp_cov 10 dn nu)) 4) ((sp_settleM (sp_cov 10 dn nu)) 4) 0 0 lo bo (am_fold 9 (sp_begOne (sp_cut P3 tc3) (sp_cut P3 ts3)) (co, sh, si)).1 (am_fold 9 (sp_begOne (sp_cut P3 tc3) (sp_cut P3 ts3)) (co, sh, si)).2.1 (am_fold 9 sp_forOne (se, er, of_)).1 (am_fold 9 (sp_begOne (sp_cut P3 tc3) (sp_cut P3 ts3)) (co, sh, si)).2.2 (am_fold 9 sp_forOne (se, er, of_)).2.1 (am_fold 9 sp_forOne (se, er, of_)).2.2) sp ke (upd (upd ik 0 0) 1 0) bi bt so nr ou ho cl :: Bs) := by
  show am_Rn sc 112 (0, [some (.ref 416), none], [], _) _
  have L3 : ∀ (nu2 : Nat → Int32) (d i : Nat), i + d = 9 → am_Rn sc 112 (53, [some (.ref 416), some (.int (Int32.ofNat i))], [], B0 :: B1 :: B2 :: B3 :: B4 :: B5 :: B6 :: B7 :: B8 :: B9 :: B10 :: B11 :: B12 :: bkModel tr ty nx tk pl va fa (Int32.ofNat P3) (Int32.ofNat P3) cm tx (mp_ru nu2 dn) (mp_ps (mp_q la3 me3 tc3 ts3) (mp_q la3 me3 tc3 ts3)) (mp_s rd pr pv sa pd lo bo co sh (am_fold i sp_forOne (se, er, of_)).1 si (am_fold i sp_forOne (se, er, of_)).2.1 (am_fold i sp_forOne (se, er, of_)).2.2) sp ke ik bi bt so nr ou ho cl :: Bs) (fun r M' => r = none ∧ M' = B0 :: B1 :: B2 :: B3 :: B4 :: B5 :: B6 :: B7 :: B8 :: B9 :: B10 :: B11 :: B12 :: bkModel tr ty nx tk pl va fa (Int32.ofNat P3) (Int32.ofNat P3) cm tx (mp_ru nu2 dn) (mp_ps (mp_q la3 me3 tc3 ts3) (mp_q la3 me3 tc3 ts3)) (mp_s 0 (nu2 4) (nu2 4) 0 0 lo bo (am_fold 9 (sp_begOne (sp_cut P3 tc3) (sp_cut P3 ts3)) (co, sh, si)).1 (am_fold 9 (sp_begOne (sp_cut P3 tc3) (sp_cut P3 ts3)) (co, sh, si)).2.1 (am_fold 9 sp_forOne (se, er, of_)).1 (am_fold 9 (sp_begOne (sp_cut P3 tc3) (sp_cut P3 ts3)) (co, sh, si)).2.2 (am_fold 9 sp_forOne (se, er, of_)).2.1 (am_fold 9 sp_forOne (se, er, of_)).2.2) sp ke (upd (upd ik 0 0) 1 0) bi bt so nr ou ho cl :: Bs) := by
    intro nu2 d
    induction d with
    | zero =>
      intro i hi
      have hiP : i = 9 := by omega
      subst i
      refine am_Rn.go (t := am_t112) rfl 3 rfl ⟨trivial, trivial, trivial, trivial⟩ ?_
      refine am_Rn.brT (by decide) ?_
      refine am_Rn.go (t := am_t112) rfl 1 rfl ⟨trivial, trivial⟩ ?_
      refine am_Rn.call (t := am_t112) rfl rfl (mm_anew sc P3 hP3 ..) ?_
      rintro _ _ ⟨rfl, rfl⟩
      refine am_Rn.go (t := am_t112) rfl 10 rfl ⟨trivial, trivial, trivial, trivial, (by exact am_inb_lit rfl), trivial, trivial, trivial, trivial, (by exact am_inb_lit rfl), trivial⟩ ?_
      refine am_Rn.ret (t := am_t112) rfl rfl trivial ?_
      exact ⟨rfl, rfl⟩
    | succ d ih =>
      intro i hi
      have hiP : i < 9 := by omega
      have e1 : (Int32.ofNat i).toNatClampNeg = i := am_tn i (by omega)
      have g := ih (i + 1) (by omega)
      rw [am_fold_succ i sp_forOne, ← am_inc] at g
      generalize hX : (am_fold i sp_forOne (se, er, of_)) = X at g ⊢
      refine am_Rn.go (t := am_t112) rfl 3 rfl ⟨trivial, trivial, trivial, trivial⟩ ?_
      refine am_Rn.brF (by first | exact fun q => absurd ((am_le (by omega) (by omega)).mp q) (by omega) | exact fun q => absurd ((am_le (i := 9) (by omega) (by omega)).mp q) (by omega) | exact fun q => absurd ((am_le (i := 10) (by omega) (by omega)).mp q) (by omega) | exact fun q => absurd ((am_le (i := 80) (by omega) (by omega)).mp q) (by omega) | exact (am_lt (by omega) (by omega)).mpr hiP | exact fun q => absurd ((am_lt (by omega) (by omega)).mp q) (by omega)) ?_
      refine am_Rn.go (t := am_t112) rfl 4 rfl ⟨trivial, trivial, trivial, trivial, trivial⟩ ?_
      refine am_Rn.call (t := am_t112) rfl rfl (mm_puts2 sc i (by omega) ..) ?_
      rintro _ _ ⟨rfl, rfl⟩
      refine am_Rn.go (t := am_t112) rfl 4 rfl ⟨trivial, trivial, trivial, trivial, trivial⟩ ?_
      refine am_Rn.call (t := am_t112) rfl rfl (mm_puts4 sc i (by omega) ..) ?_
      rintro _ _ ⟨rfl, rfl⟩
      refine am_Rn.go (t := am_t112) rfl 4 rfl ⟨trivial, trivial, trivial, trivial, trivial⟩ ?_
      refine am_Rn.call (t := am_t112) rfl rfl (mm_puts5 sc i (by omega) ..) ?_
      rintro _ _ ⟨rfl, rfl⟩
      refine am_Rn.go (t := am_t112) rfl 2 rfl ⟨trivial, trivial, trivial⟩ ?_
      exact g
  have L2 : ∀ (nu2 : Nat → Int32) (d i : Nat), i + d = 36 → am_Rn sc 112 (32, [some (.ref 416), some (.int (Int32.ofNat i))], [], B0 :: B1 :: B2 :: B3 :: B4 :: B5 :: B6 :: B7 :: B8 :: B9 :: B10 :: B11 :: B12 :: bkModel tr ty nx tk pl va fa (Int32.ofNat P) (Int32.ofNat P3) cm tx (mp_ru nu2 dn) (mp_ps (am_fold i (fun k h => upd h k ((mp_q la3 me3 tc3 ts3) k)) (mp_q la me tc ts)) (mp_q la3 me3 tc3 ts3)) (mp_s rd pr pv sa pd lo bo co sh se si er of_) sp ke ik bi bt so nr ou ho cl :: Bs) (fun r M' => r = none ∧ M' = B0 :: B1 :: B2 :: B3 :: B4 :: B5 :: B6 :: B7 :: B8 :: B9 :: B10 :: B11 :: B12 :: bkModel tr ty nx tk pl va fa (Int32.ofNat P3) (Int32.ofNat P3) cm tx (mp_ru nu2 dn) (mp_ps (mp_q la3 me3 tc3 ts3) (mp_q la3 me3 tc3 ts3)) (mp_s 0 (nu2 4) (nu2 4) 0 0 lo bo (am_fold 9 (sp_begOne (sp_cut P3 tc3) (sp_cut P3 ts3)) (co, sh, si)).1 (am_fold 9 (sp_begOne (sp_cut P3 tc3) (sp_cut P3 ts3)) (co, sh, si)).2.1 (am_fold 9 sp_forOne (se, er, of_)).1 (am_fold 9 (sp_begOne (sp_cut P3 tc3) (sp_cut P3 ts3)) (co, sh, si)).2.2 (am_fold 9 sp_forOne (se, er, of_)).2.1 (am_fold 9 sp_forOne (se, er, of_)).2.2) sp ke (upd (upd ik 0 0) 1 0) bi bt so nr ou ho cl :: Bs) := by
    intro nu2 d
    induction d with
    | zero =>
      intro i hi
      have hiP : i = 36 := by omega
      subst i
      rw [sp_covfold (mp_q la3 me3 tc3 ts3), mp_pcov]
      refine am_Rn.go (t := am_t112) rfl 3 rfl ⟨trivial, trivial, trivial, trivial⟩ ?_
      refine am_Rn.brT (by decide) ?_
      refine am_Rn.go (t := am_t112) rfl 6 rfl ⟨trivial, trivial, trivial, trivial, trivial, trivial, trivial⟩ ?_
      exact L3 nu2 9 0 (by omega)
    | succ d ih =>
      intro i hi
      have hiP : i < 36 := by omega
      have e1 : (Int32.ofNat i).toNatClampNeg = i := am_tn i (by omega)
      have e2 : (36 + Int32.ofNat i).toNatClampNeg = 36 + i := by rw [am_36N]; exact am_tn _ (by omega)
      have i2 : am_inb (36 + Int32.ofNat i) 72 := by rw [am_36N]; exact am_inb_of (by omega) (by omega)
      have g := ih (i + 1) (by omega)
      rw [am_fold_succ i, ← am_inc] at g
      generalize hX : (am_fold i (fun k h => upd h k ((mp_q la3 me3 tc3 ts3) k)) (mp_q la me tc ts)) = X at g ⊢
      have e3 : mp_ps X (mp_q la3 me3 tc3 ts3) (36 + i) = (mp_q la3 me3 tc3 ts3) i := by
        unfold mp_ps
        rw [if_neg (by omega), if_pos (by omega), show 36 + i - 36 = i by omega]
      refine am_Rn.go (t := am_t112) rfl 3 rfl ⟨trivial, trivial, trivial, trivial⟩ ?_
      refine am_Rn.brF (fun q => absurd ((am_le (i := 36) (by omega) (by omega)).mp q) (by omega)) ?_
      refine am_Rn.go (t := am_t112) rfl 12 rfl ⟨trivial, trivial, trivial, trivial, trivial, trivial, trivial, trivial, (by exact i2), (by exact am_inb_of (by omega) (by omega)), trivial, trivial, trivial⟩ ?_
      rw [e1, e2, e3, mp_pu _ _ (by omega)]
      exact g
  have L1 : ∀ (d i : Nat), i + d = 10 → am_Rn sc 112 (2, [some (.ref 416), some (.int (Int32.ofNat i))], [], B0 :: B1 :: B2 :: B3 :: B4 :: B5 :: B6 :: B7 :: B8 :: B9 :: B10 :: B11 :: B12 :: bkModel tr ty nx tk pl va fa (Int32.ofNat P) (Int32.ofNat P3) cm tx (mp_ru (am_fold i (fun k h => upd h k (dn k)) nu) dn) (mp_ps (mp_q la me tc ts) (mp_q la3 me3 tc3 ts3)) (mp_s rd pr pv sa pd lo bo co sh se si er of_) sp ke ik bi bt so nr ou ho cl :: Bs) (fun r M' => r = none ∧ M' = B0 :: B1 :: B2 :: B3 :: B4 :: B5 :: B6 :: B7 :: B8 :: B9 :: B10 :: B11 :: B12 :: bkModel tr ty nx tk pl va fa (Int32.ofNat P3) (Int32.ofNat P3) cm tx (mp_ru (sp_settleM (sp_cov 10 dn nu)) dn) (mp_ps (mp_q la3 me3 tc3 ts3) (mp_q la3 me3 tc3 ts3)) (mp_s 0 ((sp_settleM (sp_cov 10 dn nu)) 4) ((sp_settleM (sp_cov 10 dn nu)) 4) 0 0 lo bo (am_fold 9 (sp_begOne (sp_cut P3 tc3) (sp_cut P3 ts3)) (co, sh, si)).1 (am_fold 9 (sp_begOne (sp_cut P3 tc3) (sp_cut P3 ts3)) (co, sh, si)).2.1 (am_fold 9 sp_forOne (se, er, of_)).1 (am_fold 9 (sp_begOne (sp_cut P3 tc3) (sp_cut P3 ts3)) (co, sh, si)).2.2 (am_fold 9 sp_forOne (se, er, of_)).2.1 (am_fold 9 sp_forOne (se, er, of_)).2.2) sp ke (upd (upd ik 0 0) 1 0) bi bt so nr ou ho cl :: Bs) := by
    intro d
    induction d with
    | zero =>
      intro i hi
      have hiP : i = 10 := by omega
      subst i
      rw [sp_covfold dn]
      rcases Classical.em ((sp_cov 10 dn nu) 4 = -9) with h4 | h4
      · skip
        rw [show (sp_settleM (sp_cov 10 dn nu)) = upd (sp_cov 10 dn nu) 4 (sp_worth (sp_cov 10 dn nu) 0) from if_pos h4]
        refine am_Rn.go (t := am_t112) rfl 3 rfl ⟨trivial, trivial, trivial, trivial⟩ ?_
        refine am_Rn.brT (by decide) ?_
        refine am_Rn.go (t := am_t112) rfl 6 rfl ⟨trivial, trivial, trivial, (by first | exact am_inb_lit rfl | exact am_inb_of (by omega) (by omega)), trivial, trivial, trivial⟩ ?_
        refine am_Rn.brT h4 ?_
        refine am_Rn.go (t := am_t112) rfl 5 rfl ⟨trivial, trivial, trivial, trivial, trivial, trivial⟩ ?_
        refine am_Rn.call (t := am_t112) rfl rfl (mm_worthIn ..) ?_
        rintro _ _ ⟨rfl, rfl⟩
        refine am_Rn.go (t := am_t112) rfl 1 rfl ⟨(by exact am_inb_lit rfl), trivial⟩ ?_
        show am_Rn sc 112 (30, _, _, B0 :: B1 :: B2 :: B3 :: B4 :: B5 :: B6 :: B7 :: B8 :: B9 :: B10 :: B11 :: B12 :: bkModel tr ty nx tk pl va fa (Int32.ofNat P) (Int32.ofNat P3) cm tx (upd (mp_ru (sp_cov 10 dn nu) dn) 4 (sp_worth (sp_cov 10 dn nu) 0)) (mp_ps (mp_q la me tc ts) (mp_q la3 me3 tc3 ts3)) (mp_s rd pr pv sa pd lo bo co sh se si er of_) sp ke ik bi bt so nr ou ho cl :: Bs) _
        rw [mp_nu _ _ (by omega)]
        refine am_Rn.go (t := am_t112) rfl 2 rfl ⟨trivial, trivial, trivial⟩ ?_
        exact L2 _ 36 0 (by omega)
      · skip
        rw [show (sp_settleM (sp_cov 10 dn nu)) = (sp_cov 10 dn nu) from if_neg h4]
        refine am_Rn.go (t := am_t112) rfl 3 rfl ⟨trivial, trivial, trivial, trivial⟩ ?_
        refine am_Rn.brT (by decide) ?_
        refine am_Rn.go (t := am_t112) rfl 6 rfl ⟨trivial, trivial, trivial, (by first | exact am_inb_lit rfl | exact am_inb_of (by omega) (by omega)), trivial, trivial, trivial⟩ ?_
        refine am_Rn.brF h4 ?_
        refine am_Rn.go (t := am_t112) rfl 2 rfl ⟨trivial, trivial, trivial⟩ ?_
        exact L2 _ 36 0 (by omega)
    | succ d ih =>
      intro i hi
      have hiP : i < 10 := by omega
      have e1 : (Int32.ofNat i).toNatClampNeg = i := am_tn i (by omega)
      have g := ih (i + 1) (by omega)
      rw [am_fold_succ i, ← am_inc] at g
      generalize hX : (am_fold i (fun k h => upd h k (dn k)) nu) = X at g ⊢
      have e2 : (10 + Int32.ofNat i).toNatClampNeg = 10 + i := by rw [am_10N]; exact am_tn _ (by omega)
      have i2 : am_inb (10 + Int32.ofNat i) 20 := by rw [am_10N]; exact am_inb_of (by omega) (by omega)
      have e3 : mp_ru X dn (10 + i) = dn i := by
        unfold mp_ru
        rw [if_neg (by omega), if_pos (by omega), show 10 + i - 10 = i by omega]
      refine am_Rn.go (t := am_t112) rfl 3 rfl ⟨trivial, trivial, trivial, trivial⟩ ?_
      refine am_Rn.brF (by first | exact fun q => absurd ((am_le (by omega) (by omega)).mp q) (by omega) | exact fun q => absurd ((am_le (i := 9) (by omega) (by omega)).mp q) (by omega) | exact fun q => absurd ((am_le (i := 10) (by omega) (by omega)).mp q) (by omega) | exact fun q => absurd ((am_le (i := 80) (by omega) (by omega)).mp q) (by omega) | exact (am_lt (by omega) (by omega)).mpr hiP | exact fun q => absurd ((am_lt (by omega) (by omega)).mp q) (by omega)) ?_
      refine am_Rn.go (t := am_t112) rfl 12 rfl ⟨trivial, trivial, trivial, trivial, trivial, trivial, trivial, trivial, (by exact i2), (by exact am_inb_of (by omega) (by omega)), trivial, trivial, trivial⟩ ?_
      rw [e1, e2, e3, mp_nu _ _ (by omega)]
      exact g
  refine am_Rn.go (t := am_t112) rfl 2 rfl ⟨trivial, trivial, trivial⟩ ?_
  exact L1 10 0 (by omega)
set_option maxHeartbeats 2000000 in
theorem mm_rules (sc : am_Sc) (n : Nat) (hn : n ≤ 400) (tx : Nat → Int32) (hf : ∀ q, q < n → 0 ≤ tx q) (la3 me3 tc3 ts3 : Nat → Int32) (tr : Int64) (nx tk pl va fa dp cm : Int32) (nu dn la me tc ts : Nat → Int32) (P : Nat) (rd pr pv sa pd lo : Int32) (bo co sh se si er of_ sp ke ik bi bt so nr ou ho cl : Nat → Int32) (B0 B1 B2 B3 B4 B5 B6 B7 B8 B9 B10 B11 B12 : List am_E) (Bs : am_M) : am_Rn sc 111 (0, am_entry 111 [.ref 416], [], B0 :: B1 :: B2 :: B3 :: B4 :: B5 :: B6 :: B7 :: B8 :: B9 :: B10 :: B11 :: B12 :: bkModel tr (Int32.ofNat n) nx tk pl va fa (Int32.ofNat P) dp cm tx (mp_ru nu dn) (mp_ps (mp_q la me tc ts) (mp_q la3 me3 tc3 ts3)) (mp_s rd pr pv sa pd lo bo co sh se si er of_) sp ke ik bi bt so nr ou ho cl :: Bs) (fun r M' => match sp_items tx n 401 0 0 (sp_cov 10 sp_usualM dn, la3, me3, tc3, ts3, 0) 0 with | .inr X => ∃ nx2 tk2 pl2 va2, r = some (.int (Int32.ofNat X.2)) ∧ M' = B0 :: B1 :: B2 :: B3 :: B4 :: B5 :: B6 :: B7 :: B8 :: B9 :: B10 :: B11 :: B12 :: bkModel tr 0 nx2 tk2 pl2 va2 (-1) (Int32.ofNat X.1.2.2.2.2.2) (Int32.ofNat X.1.2.2.2.2.2) cm tx (mp_ru (sp_settleM (sp_cov 10 X.1.1 nu)) X.1.1) (mp_ps (mp_q X.1.2.1 X.1.2.2.1 X.1.2.2.2.1 X.1.2.2.2.2.1) (mp_q X.1.2.1 X.1.2.2.1 X.1.2.2.2.1 X.1.2.2.2.2.1)) (mp_s 0 ((sp_settleM (sp_cov 10 X.1.1 nu)) 4) ((sp_settleM (sp_cov 10 X.1.1 nu)) 4) 0 0 lo bo (am_fold 9 (sp_begOne (sp_cut X.1.2.2.2.2.2 X.1.2.2.2.1) (sp_cut X.1.2.2.2.2.2 X.1.2.2.2.2.1)) (co, sh, si)).1 (am_fold 9 (sp_begOne (sp_cut X.1.2.2.2.2.2 X.1.2.2.2.1) (sp_cut X.1.2.2.2.2.2 X.1.2.2.2.2.1)) (co, sh, si)).2.1 (am_fold 9 sp_forOne (se, er, of_)).1 (am_fold 9 (sp_begOne (sp_cut X.1.2.2.2.2.2 X.1.2.2.2.1) (sp_cut X.1.2.2.2.2.2 X.1.2.2.2.2.1)) (co, sh, si)).2.2 (am_fold 9 sp_forOne (se, er, of_)).2.1 (am_fold 9 sp_forOne (se, er, of_)).2.2) sp ke (upd (upd ik 0 0) 1 0) bi bt so nr ou ho cl :: Bs | .inl p => ∃ nx2 tk2 pl2 va2 dn2 la4 me4 tc4 ts4 dp2, r = some (.int (-10 - Int32.ofNat p)) ∧ M' = B0 :: B1 :: B2 :: B3 :: B4 :: B5 :: B6 :: B7 :: B8 :: B9 :: B10 :: B11 :: B12 :: bkModel tr (Int32.ofNat n) nx2 tk2 pl2 va2 (Int32.ofNat p) (Int32.ofNat P) dp2 cm tx (mp_ru nu dn2) (mp_ps (mp_q la me tc ts) (mp_q la4 me4 tc4 ts4)) (mp_s rd pr pv sa pd lo bo co sh se si er of_) sp ke ik bi bt so nr ou ho cl :: Bs) := by
  show am_Rn sc 111 (0, [some (.ref 416), none, none, none], [], _) _
  have LX : ∀ (q : Nat) (ji tw : Int32) (x3 : Option Value) (nx tk pl va : Int32) (dn la3 me3 tc3 ts3 : Nat → Int32) (dp2 : Int32), q ≤ n → am_Rn sc 111 (17, [some (.ref 416), some (.int ji), some (.int tw), x3], [], B0 :: B1 :: B2 :: B3 :: B4 :: B5 :: B6 :: B7 :: B8 :: B9 :: B10 :: B11 :: B12 :: bkModel tr (Int32.ofNat n) nx tk pl va (Int32.ofNat q) (Int32.ofNat P) dp2 cm tx (mp_ru nu dn) (mp_ps (mp_q la me tc ts) (mp_q la3 me3 tc3 ts3)) (mp_s rd pr pv sa pd lo bo co sh se si er of_) sp ke ik bi bt so nr ou ho cl :: Bs) (fun r M' => ∃ nx2 tk2 pl2 va2 dn2 la4 me4 tc4 ts4 dp2, r = some (.int (-10 - Int32.ofNat q)) ∧ M' = B0 :: B1 :: B2 :: B3 :: B4 :: B5 :: B6 :: B7 :: B8 :: B9 :: B10 :: B11 :: B12 :: bkModel tr (Int32.ofNat n) nx2 tk2 pl2 va2 (Int32.ofNat q) (Int32.ofNat P) dp2 cm tx (mp_ru nu dn2) (mp_ps (mp_q la me tc ts) (mp_q la4 me4 tc4 ts4)) (mp_s rd pr pv sa pd lo bo co sh se si er of_) sp ke ik bi bt so nr ou ho cl :: Bs) := by
    intro q ji tw x3 nx tk pl va dn la3 me3 tc3 ts3 dp2 hq
    have hp0 : (0 : Int32) ≤ Int32.ofNat q := (am_le (i := 0) (by omega) (by omega)).mpr (by omega)
    refine am_Rn.go (t := am_t111) rfl 1 rfl ⟨trivial, trivial⟩ ?_
    refine am_Rn.call (t := am_t111) rfl rfl (mm_isWell ..) ?_
    rintro _ _ ⟨rfl, rfl⟩
    refine am_Rn.go (t := am_t111) rfl 1 rfl ⟨trivial, trivial⟩ ?_
    refine am_Rn.brT (am_b0.mpr (fun z => Int32.not_lt.mpr hp0 z)) ?_
    refine am_Rn.go (t := am_t111) rfl 1 rfl ⟨trivial, trivial⟩ ?_
    refine am_Rn.call (t := am_t111) rfl rfl (mm_isWell ..) ?_
    rintro _ _ ⟨rfl, rfl⟩
    refine am_Rn.go (t := am_t111) rfl 1 rfl ⟨trivial, trivial⟩ ?_
    refine am_Rn.brT (am_b0.mpr (fun z => Int32.not_lt.mpr hp0 z)) ?_
    refine am_Rn.go (t := am_t111) rfl 4 rfl ⟨trivial, trivial, trivial, trivial, trivial⟩ ?_
    refine am_Rn.ret (t := am_t111) rfl rfl trivial ?_
    exact ⟨_, _, _, _, _, _, _, _, _, _, rfl, rfl⟩
  have LX74 : ∀ (q : Nat) (ji tw w3 : Int32) (nx tk pl va : Int32) (dn la3 me3 tc3 ts3 : Nat → Int32) (dp2 : Int32), q ≤ n → am_Rn sc 111 (74, [some (.ref 416), some (.int ji), some (.int tw), some (.int w3)], [], B0 :: B1 :: B2 :: B3 :: B4 :: B5 :: B6 :: B7 :: B8 :: B9 :: B10 :: B11 :: B12 :: bkModel tr (Int32.ofNat n) nx tk pl va (Int32.ofNat q) (Int32.ofNat P) dp2 cm tx (mp_ru nu dn) (mp_ps (mp_q la me tc ts) (mp_q la3 me3 tc3 ts3)) (mp_s rd pr pv sa pd lo bo co sh se si er of_) sp ke ik bi bt so nr ou ho cl :: Bs) (fun r M' => ∃ nx2 tk2 pl2 va2 dn2 la4 me4 tc4 ts4 dp2, r = some (.int (-10 - Int32.ofNat q)) ∧ M' = B0 :: B1 :: B2 :: B3 :: B4 :: B5 :: B6 :: B7 :: B8 :: B9 :: B10 :: B11 :: B12 :: bkModel tr (Int32.ofNat n) nx2 tk2 pl2 va2 (Int32.ofNat q) (Int32.ofNat P) dp2 cm tx (mp_ru nu dn2) (mp_ps (mp_q la me tc ts) (mp_q la4 me4 tc4 ts4)) (mp_s rd pr pv sa pd lo bo co sh se si er of_) sp ke ik bi bt so nr ou ho cl :: Bs) := by
    intro q ji tw w3 nx tk pl va dn la3 me3 tc3 ts3 dp2 hq
    have hp0 : (0 : Int32) ≤ Int32.ofNat q := (am_le (i := 0) (by omega) (by omega)).mpr (by omega)
    refine am_Rn.go (t := am_t111) rfl 5 rfl ⟨trivial, trivial, trivial, trivial, trivial, trivial⟩ ?_
    refine am_Rn.br (fun h1 => ?_) (fun h1 => ?_)
    · skip
      refine am_Rn.go (t := am_t111) rfl 2 rfl ⟨trivial, trivial, trivial⟩ ?_
      refine am_Rn.call (t := am_t111) rfl rfl (mm_takes_N (hfa := hp0) ..) ?_
      rintro _ _ ⟨rfl, rfl⟩
      refine am_Rn.go (t := am_t111) rfl 3 rfl ⟨trivial, trivial, trivial, trivial⟩ ?_
      exact LX q _ _ _ _ _ _ _ _ _ _ _ _ _ hq
    · skip
      refine am_Rn.go (t := am_t111) rfl 1 rfl ⟨trivial, trivial⟩ ?_
      refine am_Rn.call (t := am_t111) rfl rfl (mm_takes_N (hfa := hp0) ..) ?_
      rintro _ _ ⟨rfl, rfl⟩
      refine am_Rn.go (t := am_t111) rfl 3 rfl ⟨trivial, trivial, trivial, trivial⟩ ?_
      exact LX q _ _ _ _ _ _ _ _ _ _ _ _ _ hq
  have L : ∀ (k i : Nat) (tw : Int32) (dn la3 me3 tc3 ts3 : Nat → Int32) (P3 j : Nat) (nx tk pl va : Int32) (x3 : Option Value), n - i < k → i ≤ n → P3 ≤ 9 → sp_at tx n i nx tk pl va → am_Rn sc 111 (17, [some (.ref 416), some (.int (Int32.ofNat j)), some (.int tw), x3], [], B0 :: B1 :: B2 :: B3 :: B4 :: B5 :: B6 :: B7 :: B8 :: B9 :: B10 :: B11 :: B12 :: bkModel tr (Int32.ofNat n) nx tk pl va (-1) (Int32.ofNat P) (Int32.ofNat P3) cm tx (mp_ru nu dn) (mp_ps (mp_q la me tc ts) (mp_q la3 me3 tc3 ts3)) (mp_s rd pr pv sa pd lo bo co sh se si er of_) sp ke ik bi bt so nr ou ho cl :: Bs) (fun r M' => match sp_items tx n k i tw (dn, la3, me3, tc3, ts3, P3) j with | .inr X => ∃ nx2 tk2 pl2 va2, r = some (.int (Int32.ofNat X.2)) ∧ M' = B0 :: B1 :: B2 :: B3 :: B4 :: B5 :: B6 :: B7 :: B8 :: B9 :: B10 :: B11 :: B12 :: bkModel tr 0 nx2 tk2 pl2 va2 (-1) (Int32.ofNat X.1.2.2.2.2.2) (Int32.ofNat X.1.2.2.2.2.2) cm tx (mp_ru (sp_settleM (sp_cov 10 X.1.1 nu)) X.1.1) (mp_ps (mp_q X.1.2.1 X.1.2.2.1 X.1.2.2.2.1 X.1.2.2.2.2.1) (mp_q X.1.2.1 X.1.2.2.1 X.1.2.2.2.1 X.1.2.2.2.2.1)) (mp_s 0 ((sp_settleM (sp_cov 10 X.1.1 nu)) 4) ((sp_settleM (sp_cov 10 X.1.1 nu)) 4) 0 0 lo bo (am_fold 9 (sp_begOne (sp_cut X.1.2.2.2.2.2 X.1.2.2.2.1) (sp_cut X.1.2.2.2.2.2 X.1.2.2.2.2.1)) (co, sh, si)).1 (am_fold 9 (sp_begOne (sp_cut X.1.2.2.2.2.2 X.1.2.2.2.1) (sp_cut X.1.2.2.2.2.2 X.1.2.2.2.2.1)) (co, sh, si)).2.1 (am_fold 9 sp_forOne (se, er, of_)).1 (am_fold 9 (sp_begOne (sp_cut X.1.2.2.2.2.2 X.1.2.2.2.1) (sp_cut X.1.2.2.2.2.2 X.1.2.2.2.2.1)) (co, sh, si)).2.2 (am_fold 9 sp_forOne (se, er, of_)).2.1 (am_fold 9 sp_forOne (se, er, of_)).2.2) sp ke (upd (upd ik 0 0) 1 0) bi bt so nr ou ho cl :: Bs | .inl p => ∃ nx2 tk2 pl2 va2 dn2 la4 me4 tc4 ts4 dp2, r = some (.int (-10 - Int32.ofNat p)) ∧ M' = B0 :: B1 :: B2 :: B3 :: B4 :: B5 :: B6 :: B7 :: B8 :: B9 :: B10 :: B11 :: B12 :: bkModel tr (Int32.ofNat n) nx2 tk2 pl2 va2 (Int32.ofNat p) (Int32.ofNat P) dp2 cm tx (mp_ru nu dn2) (mp_ps (mp_q la me tc ts) (mp_q la4 me4 tc4 ts4)) (mp_s rd pr pv sa pd lo bo co sh se si er of_) sp ke ik bi bt so nr ou ho cl :: Bs) := by
    intro k
    induction k with
    | zero => intro i tw dn la3 me3 tc3 ts3 P3 j nx tk pl va x3 hk; omega
    | succ k ih =>
      intro i tw dn la3 me3 tc3 ts3 P3 j nx tk pl va x3 hk hi hP3 hat
      have hle := sp_t_le tx n i hi
      have hge := sp_t_ge tx n i
      have hpl := sp_t_pl tx n i hi
      have hU : sp_items tx n (k + 1) i tw (dn, la3, me3, tc3, ts3, P3) j = (if (sp_t tx n i).2.1 = 1 then .inr ((dn, la3, me3, tc3, ts3, P3), j) else match sp_item tx n i tw (dn, la3, me3, tc3, ts3, P3) with | .inl p => .inl p | .inr X => sp_items tx n k X.2.2 X.2.1 X.1 (j + 1)) := rfl
      rcases Classical.em ((sp_t tx n i).2.1 = 1) with k1 | k1
      · skip
        have hR : sp_items tx n (k + 1) i tw (dn, la3, me3, tc3, ts3, P3) j = .inr ((dn, la3, me3, tc3, ts3, P3), j) := by rw [hU, if_pos k1]
        rw [hR]
        have k0 : tk = 0 := hat.1.trans ((sp_mk_iff tx n i).1.mpr k1)
        refine am_Rn.go (t := am_t111) rfl 1 rfl ⟨trivial, trivial⟩ ?_
        refine am_Rn.call (t := am_t111) rfl rfl (mm_isWell ..) ?_
        rintro _ _ ⟨rfl, rfl⟩
        refine am_Rn.go (t := am_t111) rfl 1 rfl ⟨trivial, trivial⟩ ?_
        refine am_Rn.brF (fun z => am_b0.mp z (by decide)) ?_
        refine am_Rn.go (t := am_t111) rfl 3 rfl ⟨trivial, trivial, trivial, trivial⟩ ?_
        refine am_Rn.brT k0 ?_
        refine am_Rn.go (t := am_t111) rfl 1 rfl ⟨trivial, trivial⟩ ?_
        refine am_Rn.call (t := am_t111) rfl rfl (mm_isWell ..) ?_
        rintro _ _ ⟨rfl, rfl⟩
        refine am_Rn.go (t := am_t111) rfl 1 rfl ⟨trivial, trivial⟩ ?_
        refine am_Rn.brF (fun z => am_b0.mp z (by decide)) ?_
        refine am_Rn.go (t := am_t111) rfl 1 rfl ⟨trivial, trivial⟩ ?_
        refine am_Rn.call (t := am_t111) rfl rfl (mm_adopts (P3 := P3) (hP3 := hP3) ..) ?_
        rintro _ _ ⟨rfl, rfl⟩
        refine am_Rn.go (t := am_t111) rfl 4 rfl ⟨trivial, trivial, trivial, trivial, trivial⟩ ?_
        refine am_Rn.ret (t := am_t111) rfl rfl trivial ?_
        exact ⟨_, _, _, _, rfl, rfl⟩
      · skip
        have k0 : ¬ tk = 0 := fun z => k1 ((sp_mk_iff tx n i).1.mp (hat.1.symm.trans z))
        have L74 : ∀ (i2 : Nat) (dn2 la4 me4 tc4 ts4 : Nat → Int32) (P4 : Nat) (tw2 w3 : Int32) (nx tk pl va : Int32), i ≤ i2 → i2 ≤ n → P4 ≤ 9 → sp_at tx n i2 nx tk pl va → sp_item tx n i tw (dn, la3, me3, tc3, ts3, P3) = sp_stop tx n i2 (dn2, la4, me4, tc4, ts4, P4) tw2 → am_Rn sc 111 (74, [some (.ref 416), some (.int (Int32.ofNat j)), some (.int tw2), some (.int w3)], [], B0 :: B1 :: B2 :: B3 :: B4 :: B5 :: B6 :: B7 :: B8 :: B9 :: B10 :: B11 :: B12 :: bkModel tr (Int32.ofNat n) nx tk pl va (-1) (Int32.ofNat P) (Int32.ofNat P4) cm tx (mp_ru nu dn2) (mp_ps (mp_q la me tc ts) (mp_q la4 me4 tc4 ts4)) (mp_s rd pr pv sa pd lo bo co sh se si er of_) sp ke ik bi bt so nr ou ho cl :: Bs) (fun r M' => match sp_items tx n (k + 1) i tw (dn, la3, me3, tc3, ts3, P3) j with | .inr X => ∃ nx2 tk2 pl2 va2, r = some (.int (Int32.ofNat X.2)) ∧ M' = B0 :: B1 :: B2 :: B3 :: B4 :: B5 :: B6 :: B7 :: B8 :: B9 :: B10 :: B11 :: B12 :: bkModel tr 0 nx2 tk2 pl2 va2 (-1) (Int32.ofNat X.1.2.2.2.2.2) (Int32.ofNat X.1.2.2.2.2.2) cm tx (mp_ru (sp_settleM (sp_cov 10 X.1.1 nu)) X.1.1) (mp_ps (mp_q X.1.2.1 X.1.2.2.1 X.1.2.2.2.1 X.1.2.2.2.2.1) (mp_q X.1.2.1 X.1.2.2.1 X.1.2.2.2.1 X.1.2.2.2.2.1)) (mp_s 0 ((sp_settleM (sp_cov 10 X.1.1 nu)) 4) ((sp_settleM (sp_cov 10 X.1.1 nu)) 4) 0 0 lo bo (am_fold 9 (sp_begOne (sp_cut X.1.2.2.2.2.2 X.1.2.2.2.1) (sp_cut X.1.2.2.2.2.2 X.1.2.2.2.2.1)) (co, sh, si)).1 (am_fold 9 (sp_begOne (sp_cut X.1.2.2.2.2.2 X.1.2.2.2.1) (sp_cut X.1.2.2.2.2.2 X.1.2.2.2.2.1)) (co, sh, si)).2.1 (am_fold 9 sp_forOne (se, er, of_)).1 (am_fold 9 (sp_begOne (sp_cut X.1.2.2.2.2.2 X.1.2.2.2.1) (sp_cut X.1.2.2.2.2.2 X.1.2.2.2.2.1)) (co, sh, si)).2.2 (am_fold 9 sp_forOne (se, er, of_)).2.1 (am_fold 9 sp_forOne (se, er, of_)).2.2) sp ke (upd (upd ik 0 0) 1 0) bi bt so nr ou ho cl :: Bs | .inl p => ∃ nx2 tk2 pl2 va2 dn2 la4 me4 tc4 ts4 dp2, r = some (.int (-10 - Int32.ofNat p)) ∧ M' = B0 :: B1 :: B2 :: B3 :: B4 :: B5 :: B6 :: B7 :: B8 :: B9 :: B10 :: B11 :: B12 :: bkModel tr (Int32.ofNat n) nx2 tk2 pl2 va2 (Int32.ofNat p) (Int32.ofNat P) dp2 cm tx (mp_ru nu dn2) (mp_ps (mp_q la me tc ts) (mp_q la4 me4 tc4 ts4)) (mp_s rd pr pv sa pd lo bo co sh se si er of_) sp ke ik bi bt so nr ou ho cl :: Bs) := by
          intro i2 dn2 la4 me4 tc4 ts4 P4 tw2 w3 nx tk pl va hi12 hi2 hP4 hat hI
          have hpl2 := sp_t_pl tx n i2 hi2
          have hle2 := sp_t_le tx n i2 hi2
          rcases Classical.em ((sp_t tx n i2).2.1 = 2) with hs | hs
          · skip
            have hR : sp_items tx n (k + 1) i tw (dn, la3, me3, tc3, ts3, P3) j = sp_items tx n k (sp_t tx n i2).2.2.2 tw2 (dn2, la4, me4, tc4, ts4, P4) (j + 1) := by
              rw [hU, if_neg k1, hI, show sp_stop tx n i2 (dn2, la4, me4, tc4, ts4, P4) tw2 = .inr ((dn2, la4, me4, tc4, ts4, P4), tw2, (sp_t tx n i2).2.2.2) from if_pos hs]
            rw [hR]
            have hlt := sp_t_stop tx n i2 hi2 hs
            have hk3 : tk = 3 := hat.1.trans ((sp_mk_iff tx n i2).2.2.2.mpr hs)
            refine am_Rn.go (t := am_t111) rfl 5 rfl ⟨trivial, trivial, trivial, trivial, trivial, trivial⟩ ?_
            refine am_Rn.brT hk3 ?_
            refine am_Rn.go (t := am_t111) rfl 2 rfl ⟨trivial, trivial, trivial⟩ ?_
            refine am_Rn.call (t := am_t111) rfl rfl (mm_takes_T (hn := hn) (hf := hf) (hi := hi2) (hat := hat) (hk := by rw [hs]; decide) ..) ?_
            rintro _ _ ⟨nx3, tk3, pl3, va3, rfl, rfl, b3⟩
            refine am_Rn.go (t := am_t111) rfl 3 rfl ⟨trivial, trivial, trivial, trivial⟩ ?_
            have g := ih (sp_t tx n i2).2.2.2 tw2 dn2 la4 me4 tc4 ts4 P4 (j + 1) nx3 tk3 pl3 va3 (some (.int w3)) (by omega) (sp_t_le tx n i2 hi2) hP4 b3
            rw [← am_inc j] at g
            exact g
          · skip
            have hR : sp_items tx n (k + 1) i tw (dn, la3, me3, tc3, ts3, P3) j = .inl (sp_t tx n i2).1 := by
              rw [hU, if_neg k1, hI, show sp_stop tx n i2 (dn2, la4, me4, tc4, ts4, P4) tw2 = .inl (sp_t tx n i2).1 from if_neg hs]
            rw [hR]
            have hk3 : ¬ tk = 3 := fun z => hs ((sp_mk_iff tx n i2).2.2.2.mp (hat.1.symm.trans z))
            obtain ⟨a1, a2, a3, a4⟩ := hat
            subst a2
            refine am_Rn.go (t := am_t111) rfl 5 rfl ⟨trivial, trivial, trivial, trivial, trivial, trivial⟩ ?_
            refine am_Rn.brF hk3 ?_
            refine am_Rn.go (t := am_t111) rfl 1 rfl ⟨trivial, trivial⟩ ?_
            refine am_Rn.call (t := am_t111) rfl rfl (mm_takes_F (n := n) ..) ?_
            rintro _ _ ⟨rfl, rfl⟩
            refine am_Rn.go (t := am_t111) rfl 3 rfl ⟨trivial, trivial, trivial, trivial⟩ ?_
            exact LX (sp_t tx n i2).1 _ _ _ _ _ _ _ _ _ _ _ _ _ hpl2
        rcases Classical.em ((sp_t tx n i).2.1 = 4) with k4 | k4
        · skip
          have k41 : tk = 1 := hat.1.trans ((sp_mk_iff tx n i).2.1.mpr k4)
          have kv : va = (sp_t tx n i).2.2.1 := hat.2.2.2 (Or.inr k4)
          rcases Classical.em ((sp_t tx n i).2.2.1 = 9) with k9 | k9
          · skip
            have kv9 : va = 9 := kv.trans k9
            rcases Classical.em (P3 < 9) with hP9 | hP9
            · skip
              refine am_Rn.go (t := am_t111) rfl 1 rfl ⟨trivial, trivial⟩ ?_
              refine am_Rn.call (t := am_t111) rfl rfl (mm_isWell ..) ?_
              rintro _ _ ⟨rfl, rfl⟩
              refine am_Rn.go (t := am_t111) rfl 1 rfl ⟨trivial, trivial⟩ ?_
              refine am_Rn.brF (fun z => am_b0.mp z (by decide)) ?_
              refine am_Rn.go (t := am_t111) rfl 3 rfl ⟨trivial, trivial, trivial, trivial⟩ ?_
              refine am_Rn.brF k0 ?_
              refine am_Rn.go (t := am_t111) rfl 5 rfl ⟨trivial, trivial, trivial, trivial, trivial, trivial⟩ ?_
              refine am_Rn.brT k41 ?_
              refine am_Rn.go (t := am_t111) rfl 4 rfl ⟨trivial, trivial, trivial, trivial, trivial⟩ ?_
              refine am_Rn.brT kv9 ?_
              refine am_Rn.go (t := am_t111) rfl 4 rfl ⟨trivial, trivial, trivial, trivial, trivial⟩ ?_
              refine am_Rn.brF (fun q => absurd ((am_le (i := 9) (by omega) (by omega)).mp q) (by omega)) ?_
              refine am_Rn.go (t := am_t111) rfl 3 rfl ⟨trivial, trivial, trivial, trivial⟩ ?_
              refine am_Rn.call (t := am_t111) rfl rfl (mm_takes_T (hn := hn) (hf := hf) (hi := hi) (hat := hat) (hk := by rw [k4]; decide) ..) ?_
              rintro _ _ ⟨nx3, tk3, pl3, va3, rfl, rfl, b3⟩
              rw [kv]
              refine am_Rn.go (t := am_t111) rfl 2 rfl ⟨trivial, trivial, trivial⟩ ?_
              refine am_Rn.call (t := am_t111) rfl rfl (mm_isWell ..) ?_
              rintro _ _ ⟨rfl, rfl⟩
              refine am_Rn.go (t := am_t111) rfl 1 rfl ⟨trivial, trivial⟩ ?_
              refine am_Rn.brF (fun z => am_b0.mp z (by decide)) ?_
              refine am_Rn.go (t := am_t111) rfl 3 rfl ⟨trivial, trivial, trivial, trivial⟩ ?_
              refine am_Rn.brT k9 ?_
              refine am_Rn.go (t := am_t111) rfl 1 rfl ⟨trivial, trivial⟩ ?_
              refine am_Rn.call (t := am_t111) rfl rfl (mm_readsPerson (hn := hn) (hf := hf) (i := (sp_t tx n i).2.2.2) (hi := hle) (P3 := P3) (hP3 := hP9) (hat := b3) ..) ?_
              rintro _ M' ⟨rfl, h⟩
              refine am_Rn.go (t := am_t111) rfl 1 rfl ⟨trivial, trivial⟩ ?_
              rcases hS : sp_pers tx n (sp_t tx n i).2.2.2 with p | X
              · skip
                rw [hS] at h
                obtain ⟨nx4, tk4, pl4, va4, la4, me4, tc4, ts4, dp4, rfl⟩ := h
                have hR : sp_items tx n (k + 1) i tw (dn, la3, me3, tc3, ts3, P3) j = .inl p := by rw [hU, if_neg k1, show sp_item tx n i tw (dn, la3, me3, tc3, ts3, P3) = .inl p from (show (if (sp_t tx n i).2.1 = 4 then _ else _) = _ by rw [if_pos k4, if_pos k9, if_neg (show ¬ 9 ≤ P3 by omega), hS]; rfl)]
                rw [hR]
                exact LX74 p _ _ _ _ _ _ _ _ _ _ _ _ _ (sp_pl_all hle hS)
              · skip
                rw [hS] at h
                obtain ⟨nx4, tk4, pl4, va4, rfl, b4⟩ := h
                exact L74 X.2.2.2.2 dn (upd la3 P3 X.1) (upd me3 P3 X.2.1) (upd tc3 P3 X.2.2.1) (upd ts3 P3 X.2.2.2.1) (P3 + 1) tw _ _ _ _ _ (by have := sp_pers_ge hS; omega) (sp_pers_le hle hS) (by omega) b4 (show (if (sp_t tx n i).2.1 = 4 then _ else _) = _ by rw [if_pos k4, if_pos k9, if_neg (show ¬ 9 ≤ P3 by omega), hS]; rfl)
            · skip
              have hR : sp_items tx n (k + 1) i tw (dn, la3, me3, tc3, ts3, P3) j = .inl (sp_t tx n i).1 := by rw [hU, if_neg k1, show sp_item tx n i tw (dn, la3, me3, tc3, ts3, P3) = .inl (sp_t tx n i).1 from (show (if (sp_t tx n i).2.1 = 4 then _ else _) = _ by rw [if_pos k4, if_pos k9, if_pos (show 9 ≤ P3 by omega)]; rfl)]
              rw [hR]
              obtain ⟨a1, a2, a3, a4⟩ := hat
              subst a2
              have hp0 : (0 : Int32) ≤ Int32.ofNat (sp_t tx n i).1 := (am_le (i := 0) (by omega) (by omega)).mpr (by omega)
              refine am_Rn.go (t := am_t111) rfl 1 rfl ⟨trivial, trivial⟩ ?_
              refine am_Rn.call (t := am_t111) rfl rfl (mm_isWell ..) ?_
              rintro _ _ ⟨rfl, rfl⟩
              refine am_Rn.go (t := am_t111) rfl 1 rfl ⟨trivial, trivial⟩ ?_
              refine am_Rn.brF (fun z => am_b0.mp z (by decide)) ?_
              refine am_Rn.go (t := am_t111) rfl 3 rfl ⟨trivial, trivial, trivial, trivial⟩ ?_
              refine am_Rn.brF k0 ?_
              refine am_Rn.go (t := am_t111) rfl 5 rfl ⟨trivial, trivial, trivial, trivial, trivial, trivial⟩ ?_
              refine am_Rn.brT k41 ?_
              refine am_Rn.go (t := am_t111) rfl 4 rfl ⟨trivial, trivial, trivial, trivial, trivial⟩ ?_
              refine am_Rn.brT kv9 ?_
              refine am_Rn.go (t := am_t111) rfl 4 rfl ⟨trivial, trivial, trivial, trivial, trivial⟩ ?_
              refine am_Rn.brT ((am_le (i := 9) (by omega) (by omega)).mpr (by omega)) ?_
              refine am_Rn.go (t := am_t111) rfl 1 rfl ⟨trivial, trivial⟩ ?_
              refine am_Rn.call (t := am_t111) rfl rfl (mm_takes_F (n := n) ..) ?_
              rintro _ _ ⟨rfl, rfl⟩
              refine am_Rn.go (t := am_t111) rfl 2 rfl ⟨trivial, trivial, trivial⟩ ?_
              refine am_Rn.call (t := am_t111) rfl rfl (mm_isWell ..) ?_
              rintro _ _ ⟨rfl, rfl⟩
              refine am_Rn.go (t := am_t111) rfl 1 rfl ⟨trivial, trivial⟩ ?_
              refine am_Rn.brT (am_b0.mpr (fun z => Int32.not_lt.mpr hp0 z)) ?_
              refine am_Rn.go (t := am_t111) rfl 1 rfl ⟨trivial, trivial⟩ ?_
              refine am_Rn.call (t := am_t111) rfl rfl (mm_isWell ..) ?_
              rintro _ _ ⟨rfl, rfl⟩
              refine am_Rn.go (t := am_t111) rfl 1 rfl ⟨trivial, trivial⟩ ?_
              refine am_Rn.brT (am_b0.mpr (fun z => Int32.not_lt.mpr hp0 z)) ?_
              exact LX74 (sp_t tx n i).1 _ _ _ _ _ _ _ _ _ _ _ _ _ hpl
          · skip
            obtain ⟨w, hw, hwv⟩ := sp_t_word tx n i k4
            have kv9 : ¬ va = 9 := fun z => k9 (kv.symm.trans z)
            have hwn : ¬ w = 9 := fun z => k9 (by rw [hwv, z]; rfl)
            have kw : va = Int32.ofNat w := kv.trans hwv
            have hI : sp_item tx n i tw (dn, la3, me3, tc3, ts3, P3) = sp_itRule tx n (sp_tell tw w) (dn, la3, me3, tc3, ts3, P3) (sp_rule tx n w (sp_t tx n i).2.2.2 (sp_t tx n i).1 tw dn) := by
              show (if (sp_t tx n i).2.1 = 4 then _ else _) = _
              rw [if_pos k4, if_neg k9, hwv, am_tn w (by omega)]
            rcases Classical.em (w < 9) with hw9 | hw9
            · skip
              rcases Classical.em ((tw >>> (Int32.ofNat w &&& 31)) &&& 1 = 0) with hb | hb
              · skip
                have hI : sp_item tx n i tw (dn, la3, me3, tc3, ts3, P3) = sp_itRule tx n (sp_tell tw w) (dn, la3, me3, tc3, ts3, P3) (sp_nums tx n (sp_rMany w) (sp_rFirst w) (sp_t tx n i).2.2.2 dn) := by
                  rw [hI]
                  congr 1
                  exact if_neg (fun z => z.elim (fun z => absurd z (by omega)) (fun z => z hb))
                refine am_Rn.go (t := am_t111) rfl 1 rfl ⟨trivial, trivial⟩ ?_
                refine am_Rn.call (t := am_t111) rfl rfl (mm_isWell ..) ?_
                rintro _ _ ⟨rfl, rfl⟩
                refine am_Rn.go (t := am_t111) rfl 1 rfl ⟨trivial, trivial⟩ ?_
                refine am_Rn.brF (fun z => am_b0.mp z (by decide)) ?_
                refine am_Rn.go (t := am_t111) rfl 3 rfl ⟨trivial, trivial, trivial, trivial⟩ ?_
                refine am_Rn.brF k0 ?_
                refine am_Rn.go (t := am_t111) rfl 5 rfl ⟨trivial, trivial, trivial, trivial, trivial, trivial⟩ ?_
                refine am_Rn.brT k41 ?_
                refine am_Rn.go (t := am_t111) rfl 4 rfl ⟨trivial, trivial, trivial, trivial, trivial⟩ ?_
                refine am_Rn.brF kv9 ?_
                refine am_Rn.go (t := am_t111) rfl 4 rfl ⟨trivial, trivial, trivial, trivial, trivial⟩ ?_
                refine am_Rn.brF (by rw [kw]; exact fun q => absurd ((am_le (i := 9) (by omega) (by omega)).mp q) (by omega)) ?_
                refine am_Rn.go (t := am_t111) rfl 7 rfl ⟨trivial, trivial, trivial, trivial, trivial, trivial, trivial, trivial⟩ ?_
                refine am_Rn.brT (by rw [kw]; exact hb) ?_
                refine am_Rn.go (t := am_t111) rfl 2 rfl ⟨trivial, trivial, trivial⟩ ?_
                refine am_Rn.call (t := am_t111) rfl rfl (mm_takes_T (hn := hn) (hf := hf) (hi := hi) (hat := hat) (hk := by rw [k4]; decide) ..) ?_
                rintro _ _ ⟨nx3, tk3, pl3, va3, rfl, rfl, b3⟩
                rw [kw]
                refine am_Rn.go (t := am_t111) rfl 2 rfl ⟨trivial, trivial, trivial⟩ ?_
                refine am_Rn.call (t := am_t111) rfl rfl (mm_isWell ..) ?_
                rintro _ _ ⟨rfl, rfl⟩
                refine am_Rn.go (t := am_t111) rfl 1 rfl ⟨trivial, trivial⟩ ?_
                refine am_Rn.brF (fun z => am_b0.mp z (by decide)) ?_
                refine am_Rn.go (t := am_t111) rfl 3 rfl ⟨trivial, trivial, trivial, trivial⟩ ?_
                refine am_Rn.brF (fun q => hwn ((am_eqi (j := 9) (by omega) (by omega)).mp q)) ?_
                refine am_Rn.go (t := am_t111) rfl 1 rfl ⟨trivial, trivial⟩ ?_
                refine am_Rn.call (t := am_t111) rfl rfl (mm_isWell ..) ?_
                rintro _ _ ⟨rfl, rfl⟩
                refine am_Rn.go (t := am_t111) rfl 1 rfl ⟨trivial, trivial⟩ ?_
                refine am_Rn.brF (fun z => am_b0.mp z (by decide)) ?_
                refine am_Rn.go (t := am_t111) rfl 8 rfl ⟨trivial, trivial, trivial, trivial, trivial, trivial, trivial, trivial, trivial⟩ ?_
                refine am_Rn.call (t := am_t111) rfl rfl (mm_readsRule (hn := hn) (hf := hf) (i := (sp_t tx n i).2.2.2) (hi := hle) (w := w) (hw := hw9) (hat := b3) ..) ?_
                rintro _ M' ⟨rfl, h⟩
                rcases hS : sp_nums tx n (sp_rMany w) (sp_rFirst w) (sp_t tx n i).2.2.2 dn with p | X
                · skip
                  rw [hS] at h
                  obtain ⟨nx4, tk4, pl4, va4, dn4, rfl⟩ := h
                  have hR : sp_items tx n (k + 1) i tw (dn, la3, me3, tc3, ts3, P3) j = .inl p := by rw [hU, if_neg k1, hI, hS]; rfl
                  rw [hR]
                  exact LX74 p _ _ _ _ _ _ _ _ _ _ _ _ _ (sp_nl_all _ _ _ _ _ hle hS)
                · skip
                  rw [hS] at h
                  obtain ⟨nx4, tk4, pl4, va4, rfl, b4⟩ := h
                  exact L74 X.2 X.1 la3 me3 tc3 ts3 P3 (sp_tell tw w) _ _ _ _ _ (by have := sp_nums_ge _ _ _ _ _ hS; omega) (sp_nums_le tx n _ _ _ _ _ hle hS) hP3 b4 (by rw [hI, hS]; rfl)
              · skip
                have hR : sp_items tx n (k + 1) i tw (dn, la3, me3, tc3, ts3, P3) j = .inl (sp_t tx n i).1 := by rw [hU, if_neg k1, show sp_item tx n i tw (dn, la3, me3, tc3, ts3, P3) = .inl (sp_t tx n i).1 from (by rw [hI, show sp_rule tx n w (sp_t tx n i).2.2.2 (sp_t tx n i).1 tw dn = .inl (sp_t tx n i).1 from if_pos (Or.inr hb)]; rfl)]
                rw [hR]
                obtain ⟨a1, a2, a3, a4⟩ := hat
                subst a2
                have hp0 : (0 : Int32) ≤ Int32.ofNat (sp_t tx n i).1 := (am_le (i := 0) (by omega) (by omega)).mpr (by omega)
                refine am_Rn.go (t := am_t111) rfl 1 rfl ⟨trivial, trivial⟩ ?_
                refine am_Rn.call (t := am_t111) rfl rfl (mm_isWell ..) ?_
                rintro _ _ ⟨rfl, rfl⟩
                refine am_Rn.go (t := am_t111) rfl 1 rfl ⟨trivial, trivial⟩ ?_
                refine am_Rn.brF (fun z => am_b0.mp z (by decide)) ?_
                refine am_Rn.go (t := am_t111) rfl 3 rfl ⟨trivial, trivial, trivial, trivial⟩ ?_
                refine am_Rn.brF k0 ?_
                refine am_Rn.go (t := am_t111) rfl 5 rfl ⟨trivial, trivial, trivial, trivial, trivial, trivial⟩ ?_
                refine am_Rn.brT k41 ?_
                refine am_Rn.go (t := am_t111) rfl 4 rfl ⟨trivial, trivial, trivial, trivial, trivial⟩ ?_
                refine am_Rn.brF kv9 ?_
                refine am_Rn.go (t := am_t111) rfl 4 rfl ⟨trivial, trivial, trivial, trivial, trivial⟩ ?_
                refine am_Rn.brF (by rw [kw]; exact fun q => absurd ((am_le (i := 9) (by omega) (by omega)).mp q) (by omega)) ?_
                refine am_Rn.go (t := am_t111) rfl 7 rfl ⟨trivial, trivial, trivial, trivial, trivial, trivial, trivial, trivial⟩ ?_
                refine am_Rn.brF (by rw [kw]; exact hb) ?_
                refine am_Rn.go (t := am_t111) rfl 1 rfl ⟨trivial, trivial⟩ ?_
                refine am_Rn.call (t := am_t111) rfl rfl (mm_takes_F (n := n) ..) ?_
                rintro _ _ ⟨rfl, rfl⟩
                refine am_Rn.go (t := am_t111) rfl 2 rfl ⟨trivial, trivial, trivial⟩ ?_
                refine am_Rn.call (t := am_t111) rfl rfl (mm_isWell ..) ?_
                rintro _ _ ⟨rfl, rfl⟩
                refine am_Rn.go (t := am_t111) rfl 1 rfl ⟨trivial, trivial⟩ ?_
                refine am_Rn.brT (am_b0.mpr (fun z => Int32.not_lt.mpr hp0 z)) ?_
                refine am_Rn.go (t := am_t111) rfl 1 rfl ⟨trivial, trivial⟩ ?_
                refine am_Rn.call (t := am_t111) rfl rfl (mm_isWell ..) ?_
                rintro _ _ ⟨rfl, rfl⟩
                refine am_Rn.go (t := am_t111) rfl 1 rfl ⟨trivial, trivial⟩ ?_
                refine am_Rn.brT (am_b0.mpr (fun z => Int32.not_lt.mpr hp0 z)) ?_
                exact LX74 (sp_t tx n i).1 _ _ _ _ _ _ _ _ _ _ _ _ _ hpl
            · skip
              have hR : sp_items tx n (k + 1) i tw (dn, la3, me3, tc3, ts3, P3) j = .inl (sp_t tx n i).1 := by rw [hU, if_neg k1, show sp_item tx n i tw (dn, la3, me3, tc3, ts3, P3) = .inl (sp_t tx n i).1 from (by rw [hI, show sp_rule tx n w (sp_t tx n i).2.2.2 (sp_t tx n i).1 tw dn = .inl (sp_t tx n i).1 from if_pos (Or.inl (by omega))]; rfl)]
              rw [hR]
              obtain ⟨a1, a2, a3, a4⟩ := hat
              subst a2
              have hp0 : (0 : Int32) ≤ Int32.ofNat (sp_t tx n i).1 := (am_le (i := 0) (by omega) (by omega)).mpr (by omega)
              refine am_Rn.go (t := am_t111) rfl 1 rfl ⟨trivial, trivial⟩ ?_
              refine am_Rn.call (t := am_t111) rfl rfl (mm_isWell ..) ?_
              rintro _ _ ⟨rfl, rfl⟩
              refine am_Rn.go (t := am_t111) rfl 1 rfl ⟨trivial, trivial⟩ ?_
              refine am_Rn.brF (fun z => am_b0.mp z (by decide)) ?_
              refine am_Rn.go (t := am_t111) rfl 3 rfl ⟨trivial, trivial, trivial, trivial⟩ ?_
              refine am_Rn.brF k0 ?_
              refine am_Rn.go (t := am_t111) rfl 5 rfl ⟨trivial, trivial, trivial, trivial, trivial, trivial⟩ ?_
              refine am_Rn.brT k41 ?_
              refine am_Rn.go (t := am_t111) rfl 4 rfl ⟨trivial, trivial, trivial, trivial, trivial⟩ ?_
              refine am_Rn.brF kv9 ?_
              refine am_Rn.go (t := am_t111) rfl 4 rfl ⟨trivial, trivial, trivial, trivial, trivial⟩ ?_
              refine am_Rn.brT (by rw [kw]; exact (am_le (i := 9) (by omega) (by omega)).mpr (by omega)) ?_
              refine am_Rn.go (t := am_t111) rfl 1 rfl ⟨trivial, trivial⟩ ?_
              refine am_Rn.call (t := am_t111) rfl rfl (mm_takes_F (n := n) ..) ?_
              rintro _ _ ⟨rfl, rfl⟩
              refine am_Rn.go (t := am_t111) rfl 2 rfl ⟨trivial, trivial, trivial⟩ ?_
              refine am_Rn.call (t := am_t111) rfl rfl (mm_isWell ..) ?_
              rintro _ _ ⟨rfl, rfl⟩
              refine am_Rn.go (t := am_t111) rfl 1 rfl ⟨trivial, trivial⟩ ?_
              refine am_Rn.brT (am_b0.mpr (fun z => Int32.not_lt.mpr hp0 z)) ?_
              refine am_Rn.go (t := am_t111) rfl 1 rfl ⟨trivial, trivial⟩ ?_
              refine am_Rn.call (t := am_t111) rfl rfl (mm_isWell ..) ?_
              rintro _ _ ⟨rfl, rfl⟩
              refine am_Rn.go (t := am_t111) rfl 1 rfl ⟨trivial, trivial⟩ ?_
              refine am_Rn.brT (am_b0.mpr (fun z => Int32.not_lt.mpr hp0 z)) ?_
              exact LX74 (sp_t tx n i).1 _ _ _ _ _ _ _ _ _ _ _ _ _ hpl
        · skip
          have hR : sp_items tx n (k + 1) i tw (dn, la3, me3, tc3, ts3, P3) j = .inl (sp_t tx n i).1 := by rw [hU, if_neg k1, show sp_item tx n i tw (dn, la3, me3, tc3, ts3, P3) = .inl (sp_t tx n i).1 from if_neg k4]
          rw [hR]
          obtain ⟨a1, a2, a3, a4⟩ := hat
          subst a2
          have hp0 : (0 : Int32) ≤ Int32.ofNat (sp_t tx n i).1 := (am_le (i := 0) (by omega) (by omega)).mpr (by omega)
          refine am_Rn.go (t := am_t111) rfl 1 rfl ⟨trivial, trivial⟩ ?_
          refine am_Rn.call (t := am_t111) rfl rfl (mm_isWell ..) ?_
          rintro _ _ ⟨rfl, rfl⟩
          refine am_Rn.go (t := am_t111) rfl 1 rfl ⟨trivial, trivial⟩ ?_
          refine am_Rn.brF (fun z => am_b0.mp z (by decide)) ?_
          refine am_Rn.go (t := am_t111) rfl 3 rfl ⟨trivial, trivial, trivial, trivial⟩ ?_
          refine am_Rn.brF k0 ?_
          refine am_Rn.go (t := am_t111) rfl 5 rfl ⟨trivial, trivial, trivial, trivial, trivial, trivial⟩ ?_
          refine am_Rn.brF (fun z => k4 ((sp_mk_iff tx n i).2.1.mp (a1.symm.trans z))) ?_
          refine am_Rn.go (t := am_t111) rfl 1 rfl ⟨trivial, trivial⟩ ?_
          refine am_Rn.call (t := am_t111) rfl rfl (mm_takes_F (n := n) ..) ?_
          rintro _ _ ⟨rfl, rfl⟩
          refine am_Rn.go (t := am_t111) rfl 2 rfl ⟨trivial, trivial, trivial⟩ ?_
          refine am_Rn.call (t := am_t111) rfl rfl (mm_isWell ..) ?_
          rintro _ _ ⟨rfl, rfl⟩
          refine am_Rn.go (t := am_t111) rfl 1 rfl ⟨trivial, trivial⟩ ?_
          refine am_Rn.brT (am_b0.mpr (fun z => Int32.not_lt.mpr hp0 z)) ?_
          refine am_Rn.go (t := am_t111) rfl 1 rfl ⟨trivial, trivial⟩ ?_
          refine am_Rn.call (t := am_t111) rfl rfl (mm_isWell ..) ?_
          rintro _ _ ⟨rfl, rfl⟩
          refine am_Rn.go (t := am_t111) rfl 1 rfl ⟨trivial, trivial⟩ ?_
          refine am_Rn.brT (am_b0.mpr (fun z => Int32.not_lt.mpr hp0 z)) ?_
          exact LX74 (sp_t tx n i).1 _ _ _ _ _ _ _ _ _ _ _ _ _ hpl
  refine am_Rn.go (t := am_t111) rfl 14 rfl ⟨trivial, trivial, trivial, trivial, trivial, trivial, trivial, trivial, trivial, trivial, trivial, trivial, trivial, trivial, trivial⟩ ?_
  refine am_Rn.call (t := am_t111) rfl rfl (mm_drafts ..) ?_
  rintro _ _ ⟨rfl, rfl⟩
  refine am_Rn.go (t := am_t111) rfl 1 rfl ⟨trivial, trivial⟩ ?_
  refine am_Rn.call (t := am_t111) rfl rfl (mm_advances (hn := hn) (hf := hf) (i := 0) (hi := by omega) ..) ?_
  rintro _ _ ⟨nx2, va2, rfl, rfl, b1, b2⟩
  exact L 401 0 0 _ la3 me3 tc3 ts3 0 0 _ _ _ _ none (by omega) (by omega) (by omega) ⟨rfl, rfl, b1, b2⟩
