def sp_mk (k : Int32) : Int32 := if k = 1 then 0 else if k = 4 then 1 else if k = 3 then 2 else if k = 2 then 3 else 4
def sp_dr (V x : Int32) : Prop := (V = x ∧ 0 ≤ x ∧ x ≤ 99) ∨ (99 < V ∧ 99 < x ∧ x ≤ 100)
theorem am_dig {x c : Int32} (h0 : 0 ≤ x) (h1 : x ≤ 100) (h2 : 48 ≤ c) (h3 : c ≤ 57) : (x * 10 + c - 48).toInt = x.toInt * 10 + c.toInt - 48 ∧ 0 ≤ x.toInt ∧ x.toInt ≤ 100 ∧ 48 ≤ c.toInt ∧ c.toInt ≤ 57 := by
  rw [Int32.le_iff_toInt_le] at h0 h1 h2 h3
  have e0 : (0 : Int32).toInt = 0 := rfl
  have e1 : (100 : Int32).toInt = 100 := rfl
  have e2 : (48 : Int32).toInt = 48 := rfl
  have e3 : (57 : Int32).toInt = 57 := rfl
  have e4 : (10 : Int32).toInt = 10 := rfl
  refine ⟨?_, by omega, by omega, by omega, by omega⟩
  rw [Int32.toInt_sub, Int32.toInt_add, Int32.toInt_mul, e2, e4]
  rw [Int.bmod_eq_of_le (n := x.toInt * 10) (by omega) (by omega), Int.bmod_eq_of_le (n := x.toInt * 10 + c.toInt) (by omega) (by omega), Int.bmod_eq_of_le (by omega) (by omega)]
theorem sp_drT {V x c : Int32} (h : sp_dr V x) (hV : V ≤ 99) (h2 : 48 ≤ c) (h3 : c ≤ 57) : sp_dr (10 * V + c - 48) (if 100 < x * 10 + c - 48 then 100 else x * 10 + c - 48) := by
  rcases h with ⟨rfl, h0, h1⟩ | ⟨h, _, _⟩
  · rw [Int32.mul_comm 10 V]
    obtain ⟨e, a0, a1, a2, a3⟩ := am_dig h0 (Int32.le_trans h1 (by decide)) h2 h3
    generalize V * 10 + c - 48 = y at e
    have z0 : (0 : Int32).toInt = 0 := rfl
    have z1 : (99 : Int32).toInt = 99 := rfl
    have z2 : (100 : Int32).toInt = 100 := rfl
    rw [Int32.le_iff_toInt_le] at h1
    unfold sp_dr
    simp only [Int32.lt_iff_toInt_lt, Int32.le_iff_toInt_le]
    by_cases hy : (100 : Int32).toInt < y.toInt
    · rw [if_pos hy]
      exact Or.inr ⟨by omega, by omega, by omega⟩
    · rw [if_neg hy]
      by_cases hz : y.toInt ≤ 99
      · exact Or.inl ⟨rfl, by omega, by omega⟩
      · exact Or.inr ⟨by omega, by omega, by omega⟩
  · exact absurd h (Int32.not_lt.mpr hV)
theorem sp_drF {V x c : Int32} (h : sp_dr V x) (hV : ¬ V ≤ 99) (h2 : 48 ≤ c) (h3 : c ≤ 57) : sp_dr V (if 100 < x * 10 + c - 48 then 100 else x * 10 + c - 48) := by
  rcases h with ⟨rfl, h0, h1⟩ | ⟨h, h4, h5⟩
  · exact absurd h1 hV
  · obtain ⟨e, a0, a1, a2, a3⟩ := am_dig (Int32.le_trans (by decide) (Int32.le_of_lt h4)) h5 h2 h3
    have z2 : (100 : Int32).toInt = 100 := rfl
    have z1 : (99 : Int32).toInt = 99 := rfl
    rw [Int32.lt_iff_toInt_lt] at h4
    rw [if_pos (by rw [Int32.lt_iff_toInt_lt]; omega)]
    exact Or.inr ⟨h, by decide, by decide⟩
theorem sp_letT {v : Int32} : sp_let v = true ↔ (97 ≤ v ∧ v ≤ 122) := by unfold sp_let; exact decide_eq_true_iff
theorem sp_digT {v : Int32} : sp_dig v = true ↔ (48 ≤ v ∧ v ≤ 57) := by unfold sp_dig; exact decide_eq_true_iff
theorem sp_run_all (p : Int32 → Bool) (c : Nat → Int32) : ∀ (d i t : Nat), i ≤ t → t < sp_run p c d i → p (c t) = true := by
  intro d
  induction d with
  | zero => intro i t h1 h2; exact absurd h2 (by show ¬ t < i; omega)
  | succ d ih =>
    intro i t h1 h2
    unfold sp_run at h2
    by_cases h : p (c i) = true
    · rw [if_pos h] at h2
      by_cases e : t = i
      · rw [e]; exact h
      · exact ih (i + 1) t (by omega) h2
    · rw [if_neg h] at h2
      omega
set_option maxHeartbeats 1000000 in
theorem mm_advances (sc : am_Sc) (n : Nat) (hn : n ≤ 400) (tx : Nat → Int32) (hf : ∀ q, q < n → 0 ≤ tx q) (i : Nat) (hi : i ≤ n) (tr : Int64) (tk pl va fa dp cm : Int32) (nu dn la me tc ts ps : Nat → Int32) (P : Nat) (rd pr pv sa pd lo : Int32) (bo co sh se si er of_ sp ke ik bi bt so nr ou ho cl : Nat → Int32) (B0 B1 B2 B3 B4 B5 B6 B7 B8 B9 B10 B11 B12 : List am_E) (Bs : am_M) : am_Rn sc 102 (0, am_entry 102 [.ref 416], [], B0 :: B1 :: B2 :: B3 :: B4 :: B5 :: B6 :: B7 :: B8 :: B9 :: B10 :: B11 :: B12 :: bkModel tr (Int32.ofNat n) (Int32.ofNat i) tk pl va fa (Int32.ofNat P) dp cm tx (mp_ru nu dn) (mp_ps (mp_q la me tc ts) ps) (mp_s rd pr pv sa pd lo bo co sh se si er of_) sp ke ik bi bt so nr ou ho cl :: Bs) (fun r M' => ∃ nx2 va2, r = none ∧ M' = B0 :: B1 :: B2 :: B3 :: B4 :: B5 :: B6 :: B7 :: B8 :: B9 :: B10 :: B11 :: B12 :: bkModel tr (Int32.ofNat n) nx2 (sp_mk (sp_t tx n i).2.1) (Int32.ofNat (sp_t tx n i).1) va2 fa (Int32.ofNat P) dp cm tx (mp_ru nu dn) (mp_ps (mp_q la me tc ts) ps) (mp_s rd pr pv sa pd lo bo co sh se si er of_) sp ke ik bi bt so nr ou ho cl :: Bs ∧ (¬ (sp_t tx n i).2.1 = 0 → nx2 = Int32.ofNat (sp_t tx n i).2.2.2) ∧ ((sp_t tx n i).2.1 = 3 ∨ (sp_t tx n i).2.1 = 4 → va2 = (sp_t tx n i).2.2.1)) := by
  show am_Rn sc 102 (0, [some (.ref 416), none, none, none], [], _) _
  have LL : ∀ (s e : Nat) (c : Int32), s ≤ e → e ≤ n → (∀ t, s ≤ t → t < e → sp_let (tx t) = true) → ∀ (d j : Nat) (tk va : Int32), j + d = n → s ≤ j → j ≤ e → sp_run sp_let tx d j = e → am_Rn sc 102 (35, [some (.ref 416), some (.int c), some (.long (sp_pak tx s (if j - s < 8 then j - s else 8))), none], [], B0 :: B1 :: B2 :: B3 :: B4 :: B5 :: B6 :: B7 :: B8 :: B9 :: B10 :: B11 :: B12 :: bkModel tr (Int32.ofNat n) (Int32.ofNat j) tk (Int32.ofNat s) va fa (Int32.ofNat P) dp cm tx (mp_ru nu dn) (mp_ps (mp_q la me tc ts) ps) (mp_s rd pr pv sa pd lo bo co sh se si er of_) sp ke ik bi bt so nr ou ho cl :: Bs) (fun r M' => ∃ nx2 va2, r = none ∧ M' = B0 :: B1 :: B2 :: B3 :: B4 :: B5 :: B6 :: B7 :: B8 :: B9 :: B10 :: B11 :: B12 :: bkModel tr (Int32.ofNat n) nx2 (sp_mk (s, (sp_wFold tx s (e - s) n 0 89).1, (sp_wFold tx s (e - s) n 0 89).2.1, e).2.1) (Int32.ofNat (s, (sp_wFold tx s (e - s) n 0 89).1, (sp_wFold tx s (e - s) n 0 89).2.1, e).1) va2 fa (Int32.ofNat P) dp cm tx (mp_ru nu dn) (mp_ps (mp_q la me tc ts) ps) (mp_s rd pr pv sa pd lo bo co sh se si er of_) sp ke ik bi bt so nr ou ho cl :: Bs ∧ (¬ (s, (sp_wFold tx s (e - s) n 0 89).1, (sp_wFold tx s (e - s) n 0 89).2.1, e).2.1 = 0 → nx2 = Int32.ofNat (s, (sp_wFold tx s (e - s) n 0 89).1, (sp_wFold tx s (e - s) n 0 89).2.1, e).2.2.2) ∧ ((s, (sp_wFold tx s (e - s) n 0 89).1, (sp_wFold tx s (e - s) n 0 89).2.1, e).2.1 = 3 ∨ (s, (sp_wFold tx s (e - s) n 0 89).1, (sp_wFold tx s (e - s) n 0 89).2.1, e).2.1 = 4 → va2 = (s, (sp_wFold tx s (e - s) n 0 89).1, (sp_wFold tx s (e - s) n 0 89).2.1, e).2.2.1)) := by
    intro s e c hse hen hall d
    have ex : ∀ (j : Nat) (tk va : Int32), j = e → am_Rn sc 102 (66, [some (.ref 416), some (.int c), some (.long (sp_pak tx s (if j - s < 8 then j - s else 8))), none], [], B0 :: B1 :: B2 :: B3 :: B4 :: B5 :: B6 :: B7 :: B8 :: B9 :: B10 :: B11 :: B12 :: bkModel tr (Int32.ofNat n) (Int32.ofNat j) tk (Int32.ofNat s) va fa (Int32.ofNat P) dp cm tx (mp_ru nu dn) (mp_ps (mp_q la me tc ts) ps) (mp_s rd pr pv sa pd lo bo co sh se si er of_) sp ke ik bi bt so nr ou ho cl :: Bs) (fun r M' => ∃ nx2 va2, r = none ∧ M' = B0 :: B1 :: B2 :: B3 :: B4 :: B5 :: B6 :: B7 :: B8 :: B9 :: B10 :: B11 :: B12 :: bkModel tr (Int32.ofNat n) nx2 (sp_mk (s, (sp_wFold tx s (e - s) n 0 89).1, (sp_wFold tx s (e - s) n 0 89).2.1, e).2.1) (Int32.ofNat (s, (sp_wFold tx s (e - s) n 0 89).1, (sp_wFold tx s (e - s) n 0 89).2.1, e).1) va2 fa (Int32.ofNat P) dp cm tx (mp_ru nu dn) (mp_ps (mp_q la me tc ts) ps) (mp_s rd pr pv sa pd lo bo co sh se si er of_) sp ke ik bi bt so nr ou ho cl :: Bs ∧ (¬ (s, (sp_wFold tx s (e - s) n 0 89).1, (sp_wFold tx s (e - s) n 0 89).2.1, e).2.1 = 0 → nx2 = Int32.ofNat (s, (sp_wFold tx s (e - s) n 0 89).1, (sp_wFold tx s (e - s) n 0 89).2.1, e).2.2.2) ∧ ((s, (sp_wFold tx s (e - s) n 0 89).1, (sp_wFold tx s (e - s) n 0 89).2.1, e).2.1 = 3 ∨ (s, (sp_wFold tx s (e - s) n 0 89).1, (sp_wFold tx s (e - s) n 0 89).2.1, e).2.1 = 4 → va2 = (s, (sp_wFold tx s (e - s) n 0 89).1, (sp_wFold tx s (e - s) n 0 89).2.1, e).2.2.1)) := by
      intro j tk va hje
      subst j
      have eS : Int32.ofNat e - Int32.ofNat s = Int32.ofNat (e - s) := am_sub_ofN hse (by omega)
      have hvp : e - s ≤ 8 → (sp_pak tx s (if e - s < 8 then e - s else 8)) = sp_pak tx s (e - s) := by
        intro h8
        by_cases q : e - s < 8
        · rw [if_pos q]
        · rw [if_neg q]
          congr 1
          omega
      have hW := sp_wordOf_L (f := tx) (s := s) (l := e - s) (v := (sp_pak tx s (if e - s < 8 then e - s else 8))) (fun j hj => sp_letT.mp (hall (s + j) (by omega) (by omega))) hvp (by omega)
      have hF := sp_wFold_L (f := tx) (s := s) (l := e - s) (n := n) (by omega)
      have hX := sp_xm (sp_L tx s (e - s))
      generalize sp_mw (sp_L tx s (e - s)) = w at hW hX
      rw [hF.1, hF.2, hX.1]
      have hX2 := hX.2
      generalize sp_xv (sp_L tx s (e - s)) = xv at hX2
      refine am_Rn.go (t := am_t102) rfl 7 rfl ⟨trivial, trivial, trivial, trivial, trivial, trivial, trivial, trivial⟩ ?_
      refine am_Rn.call (t := am_t102) rfl rfl (mm_wordOf ..) ?_
      rintro _ _ ⟨rfl, rfl⟩
      rw [eS, hW]
      refine am_Rn.go (t := am_t102) rfl 6 rfl ⟨trivial, trivial, trivial, trivial, trivial, trivial, trivial⟩ ?_
      refine am_Rn.br (fun h1 => ?_) (fun h1 => ?_)
      · skip
        have k9 : w = -9 := h1
        refine am_Rn.go (t := am_t102) rfl 4 rfl ⟨trivial, trivial, trivial, trivial, trivial⟩ ?_
        refine am_Rn.ret (t := am_t102) rfl rfl trivial ?_
        first
          | (rw [if_neg k9]; exact ⟨_, _, rfl, rfl, fun _ => rfl, fun _ => (hX2 k9).symm⟩)
          | (rw [if_pos k9]; exact ⟨_, _, rfl, rfl, fun z => absurd rfl z, fun z => by (exfalso; (try dsimp only at z); revert z; decide)⟩)
      · skip
        have k9 : ¬ w = -9 := h1
        refine am_Rn.go (t := am_t102) rfl 3 rfl ⟨trivial, trivial, trivial, trivial⟩ ?_
        refine am_Rn.ret (t := am_t102) rfl rfl trivial ?_
        first
          | (rw [if_neg k9]; exact ⟨_, _, rfl, rfl, fun _ => rfl, fun _ => (hX2 k9).symm⟩)
          | (rw [if_pos k9]; exact ⟨_, _, rfl, rfl, fun z => absurd rfl z, fun z => by (exfalso; (try dsimp only at z); revert z; decide)⟩)
    induction d with
    | zero =>
      intro j tk va hj h1 h2 hr
      have hje : j = e := hr
      refine am_Rn.go (t := am_t102) rfl 3 rfl ⟨trivial, trivial, trivial, trivial⟩ ?_
      refine am_Rn.call (t := am_t102) rfl rfl (mm_byteAt (n := n) (hn := hn) (i := j) (hi := by omega) ..) ?_
      rintro _ _ ⟨rfl, rfl⟩
      refine am_Rn.go (t := am_t102) rfl 2 rfl ⟨trivial, trivial, trivial⟩ ?_
      refine am_Rn.call (t := am_t102) rfl rfl (sx_in ..) ?_
      rintro _ _ ⟨rfl, rfl⟩
      refine am_Rn.go (t := am_t102) rfl 1 rfl ⟨trivial, trivial⟩ ?_
      refine am_Rn.brT (am_b0.mpr (by rw [if_neg (by omega)]; decide)) ?_
      exact ex j tk va hje
    | succ d ih =>
      intro j tk va hj h1 h2 hr
      have ebj : (if j < n then tx j else -1) = tx j := if_pos (by omega)
      rcases Classical.em (sp_let (tx j) = true) with hl | hl
      · skip
        rw [sp_run_T hl] at hr
        have hj2 : j + 1 ≤ e := by
          have := (sp_run_le sp_let tx d (j + 1)).1
          omega
        have g := ih (j + 1) tk va (by omega) (by omega) hj2 hr
        rw [← am_inc] at g
        have eS : Int32.ofNat j - Int32.ofNat s = Int32.ofNat (j - s) := am_sub_ofN h1 (by omega)
        rcases Classical.em (j - s < 8) with h8 | h8
        · skip
          have e9 : (sp_pak tx s (if (j + 1) - s < 8 then (j + 1) - s else 8)) = sp_add (sp_pak tx s (if j - s < 8 then j - s else 8)) (tx j) := by
            rw [if_pos h8]
            have q : sp_pak tx s (j + 1 - s) = sp_add (sp_pak tx s (j - s)) (tx j) := by
              rw [show j + 1 - s = (j - s) + 1 by omega]
              show sp_add (sp_pak tx s (j - s)) (tx (s + (j - s))) = _
              rw [show s + (j - s) = j by omega]
            by_cases q8 : j + 1 - s < 8
            · rw [if_pos q8]; exact q
            · rw [if_neg q8, ← q]
              congr 1
              omega
          rw [e9] at g
          refine am_Rn.go (t := am_t102) rfl 3 rfl ⟨trivial, trivial, trivial, trivial⟩ ?_
          refine am_Rn.call (t := am_t102) rfl rfl (mm_byteAt (n := n) (hn := hn) (i := j) (hi := by omega) ..) ?_
          rintro _ _ ⟨rfl, rfl⟩
          rw [ebj]
          refine am_Rn.go (t := am_t102) rfl 2 rfl ⟨trivial, trivial, trivial⟩ ?_
          refine am_Rn.call (t := am_t102) rfl rfl (sx_in ..) ?_
          rintro _ _ ⟨rfl, rfl⟩
          refine am_Rn.go (t := am_t102) rfl 1 rfl ⟨trivial, trivial⟩ ?_
          refine am_Rn.brF (fun z => am_b0.mp z (sp_letT.mp hl)) ?_
          refine am_Rn.go (t := am_t102) rfl 7 rfl ⟨trivial, trivial, trivial, trivial, trivial, trivial, trivial, trivial⟩ ?_
          refine am_Rn.brF (by rw [eS]; exact fun q => absurd ((am_le (i := 8) (by omega) (by omega)).mp q) (by omega)) ?_
          refine am_Rn.go (t := am_t102) rfl 4 rfl ⟨trivial, trivial, trivial, trivial, trivial⟩ ?_
          refine am_Rn.call (t := am_t102) rfl rfl (mm_byteAt (n := n) (hn := hn) (i := j) (hi := by omega) ..) ?_
          rintro _ _ ⟨rfl, rfl⟩
          rw [ebj]
          refine am_Rn.call (t := am_t102) rfl rfl (mm_add ..) ?_
          rintro _ _ ⟨rfl, rfl⟩
          refine am_Rn.go (t := am_t102) rfl 9 rfl ⟨trivial, trivial, trivial, trivial, trivial, trivial, trivial, trivial, trivial, trivial⟩ ?_
          exact g
        · skip
          have e9 : (sp_pak tx s (if (j + 1) - s < 8 then (j + 1) - s else 8)) = (sp_pak tx s (if j - s < 8 then j - s else 8)) := by rw [if_neg h8, if_neg (by omega)]
          rw [e9] at g
          refine am_Rn.go (t := am_t102) rfl 3 rfl ⟨trivial, trivial, trivial, trivial⟩ ?_
          refine am_Rn.call (t := am_t102) rfl rfl (mm_byteAt (n := n) (hn := hn) (i := j) (hi := by omega) ..) ?_
          rintro _ _ ⟨rfl, rfl⟩
          rw [ebj]
          refine am_Rn.go (t := am_t102) rfl 2 rfl ⟨trivial, trivial, trivial⟩ ?_
          refine am_Rn.call (t := am_t102) rfl rfl (sx_in ..) ?_
          rintro _ _ ⟨rfl, rfl⟩
          refine am_Rn.go (t := am_t102) rfl 1 rfl ⟨trivial, trivial⟩ ?_
          refine am_Rn.brF (fun z => am_b0.mp z (sp_letT.mp hl)) ?_
          refine am_Rn.go (t := am_t102) rfl 7 rfl ⟨trivial, trivial, trivial, trivial, trivial, trivial, trivial, trivial⟩ ?_
          refine am_Rn.brT (by rw [eS]; exact (am_le (i := 8) (by omega) (by omega)).mpr (by omega)) ?_
          refine am_Rn.go (t := am_t102) rfl 9 rfl ⟨trivial, trivial, trivial, trivial, trivial, trivial, trivial, trivial, trivial, trivial⟩ ?_
          exact g
      · skip
        rw [sp_run_F hl] at hr
        refine am_Rn.go (t := am_t102) rfl 3 rfl ⟨trivial, trivial, trivial, trivial⟩ ?_
        refine am_Rn.call (t := am_t102) rfl rfl (mm_byteAt (n := n) (hn := hn) (i := j) (hi := by omega) ..) ?_
        rintro _ _ ⟨rfl, rfl⟩
        rw [ebj]
        refine am_Rn.go (t := am_t102) rfl 2 rfl ⟨trivial, trivial, trivial⟩ ?_
        refine am_Rn.call (t := am_t102) rfl rfl (sx_in ..) ?_
        rintro _ _ ⟨rfl, rfl⟩
        refine am_Rn.go (t := am_t102) rfl 1 rfl ⟨trivial, trivial⟩ ?_
        refine am_Rn.brT (am_b0.mpr (fun z => hl (sp_letT.mpr z))) ?_
        exact ex j tk va hr
  have LD : ∀ (s e : Nat) (nv : Int32), s ≤ e → e ≤ n → ∀ (d j : Nat) (tk V x : Int32), j + d = n → s ≤ j → j ≤ e → sp_run sp_dig tx d j = e → sp_num tx d j x = nv → sp_dr V x → am_Rn sc 102 (93, [some (.ref 416), some (.int (tx s)), none, none], [], B0 :: B1 :: B2 :: B3 :: B4 :: B5 :: B6 :: B7 :: B8 :: B9 :: B10 :: B11 :: B12 :: bkModel tr (Int32.ofNat n) (Int32.ofNat j) tk (Int32.ofNat s) V fa (Int32.ofNat P) dp cm tx (mp_ru nu dn) (mp_ps (mp_q la me tc ts) ps) (mp_s rd pr pv sa pd lo bo co sh se si er of_) sp ke ik bi bt so nr ou ho cl :: Bs) (fun r M' => ∃ nx2 va2, r = none ∧ M' = B0 :: B1 :: B2 :: B3 :: B4 :: B5 :: B6 :: B7 :: B8 :: B9 :: B10 :: B11 :: B12 :: bkModel tr (Int32.ofNat n) nx2 (sp_mk (s, sp_nkind tx s e nv, nv, e).2.1) (Int32.ofNat (s, sp_nkind tx s e nv, nv, e).1) va2 fa (Int32.ofNat P) dp cm tx (mp_ru nu dn) (mp_ps (mp_q la me tc ts) ps) (mp_s rd pr pv sa pd lo bo co sh se si er of_) sp ke ik bi bt so nr ou ho cl :: Bs ∧ (¬ (s, sp_nkind tx s e nv, nv, e).2.1 = 0 → nx2 = Int32.ofNat (s, sp_nkind tx s e nv, nv, e).2.2.2) ∧ ((s, sp_nkind tx s e nv, nv, e).2.1 = 3 ∨ (s, sp_nkind tx s e nv, nv, e).2.1 = 4 → va2 = (s, sp_nkind tx s e nv, nv, e).2.2.1)) := by
    intro s e nv hse hen d
    have ex : ∀ (j : Nat) (tk V : Int32), j = e → sp_dr V nv → am_Rn sc 102 (128, [some (.ref 416), some (.int (tx s)), none, none], [], B0 :: B1 :: B2 :: B3 :: B4 :: B5 :: B6 :: B7 :: B8 :: B9 :: B10 :: B11 :: B12 :: bkModel tr (Int32.ofNat n) (Int32.ofNat j) tk (Int32.ofNat s) V fa (Int32.ofNat P) dp cm tx (mp_ru nu dn) (mp_ps (mp_q la me tc ts) ps) (mp_s rd pr pv sa pd lo bo co sh se si er of_) sp ke ik bi bt so nr ou ho cl :: Bs) (fun r M' => ∃ nx2 va2, r = none ∧ M' = B0 :: B1 :: B2 :: B3 :: B4 :: B5 :: B6 :: B7 :: B8 :: B9 :: B10 :: B11 :: B12 :: bkModel tr (Int32.ofNat n) nx2 (sp_mk (s, sp_nkind tx s e nv, nv, e).2.1) (Int32.ofNat (s, sp_nkind tx s e nv, nv, e).1) va2 fa (Int32.ofNat P) dp cm tx (mp_ru nu dn) (mp_ps (mp_q la me tc ts) ps) (mp_s rd pr pv sa pd lo bo co sh se si er of_) sp ke ik bi bt so nr ou ho cl :: Bs ∧ (¬ (s, sp_nkind tx s e nv, nv, e).2.1 = 0 → nx2 = Int32.ofNat (s, sp_nkind tx s e nv, nv, e).2.2.2) ∧ ((s, sp_nkind tx s e nv, nv, e).2.1 = 3 ∨ (s, sp_nkind tx s e nv, nv, e).2.1 = 4 → va2 = (s, sp_nkind tx s e nv, nv, e).2.2.1)) := by
      intro j tk V hje hd
      subst j
      have eS : Int32.ofNat e - Int32.ofNat s = Int32.ofNat (e - s) := am_sub_ofN hse (by omega)
      rcases Classical.em (99 < V) with hV | hV
      · skip
        rw [show sp_nkind tx s e nv = 0 from if_pos (Or.inl (hd.elim (fun z => by rw [← z.1]; exact hV) (fun z => z.2.1)))]
        refine am_Rn.go (t := am_t102) rfl 5 rfl ⟨trivial, trivial, trivial, trivial, trivial, trivial⟩ ?_
        refine am_Rn.brT hV ?_
        refine am_Rn.go (t := am_t102) rfl 4 rfl ⟨trivial, trivial, trivial, trivial, trivial⟩ ?_
        refine am_Rn.ret (t := am_t102) rfl rfl trivial ?_
        exact ⟨_, _, rfl, rfl, fun z => absurd rfl z, fun z => by (exfalso; (try dsimp only at z); revert z; decide)⟩
      · skip
        have hVn : V ≤ 99 := Int32.not_lt.mp hV
        have hn9 : V = nv ∧ 0 ≤ nv ∧ nv ≤ 99 := hd.elim id (fun z => absurd z.1 hV)
        rcases Classical.em (tx s = 48) with hc | hc
        · skip
          rcases Classical.em (1 < e - s) with hl | hl
          · skip
            rw [show sp_nkind tx s e nv = 0 from if_pos (Or.inr ⟨hc, hl⟩)]
            refine am_Rn.go (t := am_t102) rfl 5 rfl ⟨trivial, trivial, trivial, trivial, trivial, trivial⟩ ?_
            refine am_Rn.brF hV ?_
            refine am_Rn.go (t := am_t102) rfl 3 rfl ⟨trivial, trivial, trivial, trivial⟩ ?_
            refine am_Rn.brT hc ?_
            refine am_Rn.go (t := am_t102) rfl 7 rfl ⟨trivial, trivial, trivial, trivial, trivial, trivial, trivial, trivial⟩ ?_
            refine am_Rn.brF (by rw [eS]; exact fun q => absurd ((am_le (j := 1) (by omega) (by omega)).mp q) (by omega)) ?_
            refine am_Rn.go (t := am_t102) rfl 4 rfl ⟨trivial, trivial, trivial, trivial, trivial⟩ ?_
            refine am_Rn.ret (t := am_t102) rfl rfl trivial ?_
            exact ⟨_, _, rfl, rfl, fun z => absurd rfl z, fun z => by (exfalso; (try dsimp only at z); revert z; decide)⟩
          · skip
            rw [show sp_nkind tx s e nv = 3 from if_neg (fun z => z.elim (fun z => absurd z (Int32.not_lt.mpr hn9.2.2)) (fun z => hl z.2))]
            refine am_Rn.go (t := am_t102) rfl 5 rfl ⟨trivial, trivial, trivial, trivial, trivial, trivial⟩ ?_
            refine am_Rn.brF hV ?_
            refine am_Rn.go (t := am_t102) rfl 3 rfl ⟨trivial, trivial, trivial, trivial⟩ ?_
            refine am_Rn.brT hc ?_
            refine am_Rn.go (t := am_t102) rfl 7 rfl ⟨trivial, trivial, trivial, trivial, trivial, trivial, trivial, trivial⟩ ?_
            refine am_Rn.brT (by rw [eS]; exact (am_le (j := 1) (by omega) (by omega)).mpr (by omega)) ?_
            refine am_Rn.go (t := am_t102) rfl 3 rfl ⟨trivial, trivial, trivial, trivial⟩ ?_
            refine am_Rn.ret (t := am_t102) rfl rfl trivial ?_
            exact ⟨_, _, rfl, rfl, fun _ => rfl, fun _ => hn9.1⟩
        · skip
          rw [show sp_nkind tx s e nv = 3 from if_neg (fun z => z.elim (fun z => absurd z (Int32.not_lt.mpr hn9.2.2)) (fun z => hc z.1))]
          refine am_Rn.go (t := am_t102) rfl 5 rfl ⟨trivial, trivial, trivial, trivial, trivial, trivial⟩ ?_
          refine am_Rn.brF hV ?_
          refine am_Rn.go (t := am_t102) rfl 3 rfl ⟨trivial, trivial, trivial, trivial⟩ ?_
          refine am_Rn.brF hc ?_
          refine am_Rn.go (t := am_t102) rfl 3 rfl ⟨trivial, trivial, trivial, trivial⟩ ?_
          refine am_Rn.ret (t := am_t102) rfl rfl trivial ?_
          exact ⟨_, _, rfl, rfl, fun _ => rfl, fun _ => hn9.1⟩
    induction d with
    | zero =>
      intro j tk V x hj h1 h2 hr hm hd
      have hje : j = e := hr
      have hnx : x = nv := hm
      rw [hnx] at hd
      refine am_Rn.go (t := am_t102) rfl 3 rfl ⟨trivial, trivial, trivial, trivial⟩ ?_
      refine am_Rn.call (t := am_t102) rfl rfl (mm_byteAt (n := n) (hn := hn) (i := j) (hi := by omega) ..) ?_
      rintro _ _ ⟨rfl, rfl⟩
      refine am_Rn.go (t := am_t102) rfl 2 rfl ⟨trivial, trivial, trivial⟩ ?_
      refine am_Rn.call (t := am_t102) rfl rfl (sx_in ..) ?_
      rintro _ _ ⟨rfl, rfl⟩
      refine am_Rn.go (t := am_t102) rfl 1 rfl ⟨trivial, trivial⟩ ?_
      refine am_Rn.brT (am_b0.mpr (by rw [if_neg (by omega)]; decide)) ?_
      exact ex j tk V hje hd
    | succ d ih =>
      intro j tk V x hj h1 h2 hr hm hd
      have ebj : (if j < n then tx j else -1) = tx j := if_pos (by omega)
      rcases Classical.em (sp_dig (tx j) = true) with hl | hl
      · skip
        rw [sp_run_T hl] at hr
        rw [sp_num_T hl] at hm
        have hcc := sp_digT.mp hl
        have hj2 : j + 1 ≤ e := by
          have := (sp_run_le sp_dig tx d (j + 1)).1
          omega
        rcases Classical.em (V ≤ 99) with h8 | h8
        · skip
          have g := ih (j + 1) tk (10 * V + tx j - 48) _ (by omega) (by omega) hj2 hr hm (sp_drT hd h8 hcc.1 hcc.2)
          rw [← am_inc] at g
          refine am_Rn.go (t := am_t102) rfl 3 rfl ⟨trivial, trivial, trivial, trivial⟩ ?_
          refine am_Rn.call (t := am_t102) rfl rfl (mm_byteAt (n := n) (hn := hn) (i := j) (hi := by omega) ..) ?_
          rintro _ _ ⟨rfl, rfl⟩
          rw [ebj]
          refine am_Rn.go (t := am_t102) rfl 2 rfl ⟨trivial, trivial, trivial⟩ ?_
          refine am_Rn.call (t := am_t102) rfl rfl (sx_in ..) ?_
          rintro _ _ ⟨rfl, rfl⟩
          refine am_Rn.go (t := am_t102) rfl 1 rfl ⟨trivial, trivial⟩ ?_
          refine am_Rn.brF (fun z => am_b0.mp z hcc) ?_
          refine am_Rn.go (t := am_t102) rfl 5 rfl ⟨trivial, trivial, trivial, trivial, trivial, trivial⟩ ?_
          refine am_Rn.brT h8 ?_
          refine am_Rn.go (t := am_t102) rfl 7 rfl ⟨trivial, trivial, trivial, trivial, trivial, trivial, trivial, trivial⟩ ?_
          refine am_Rn.call (t := am_t102) rfl rfl (mm_byteAt (n := n) (hn := hn) (i := j) (hi := by omega) ..) ?_
          rintro _ _ ⟨rfl, rfl⟩
          rw [ebj]
          refine am_Rn.go (t := am_t102) rfl 11 rfl ⟨trivial, trivial, trivial, trivial, trivial, trivial, trivial, trivial, trivial, trivial, trivial, trivial⟩ ?_
          exact g
        · skip
          have g := ih (j + 1) tk V _ (by omega) (by omega) hj2 hr hm (sp_drF hd h8 hcc.1 hcc.2)
          rw [← am_inc] at g
          refine am_Rn.go (t := am_t102) rfl 3 rfl ⟨trivial, trivial, trivial, trivial⟩ ?_
          refine am_Rn.call (t := am_t102) rfl rfl (mm_byteAt (n := n) (hn := hn) (i := j) (hi := by omega) ..) ?_
          rintro _ _ ⟨rfl, rfl⟩
          rw [ebj]
          refine am_Rn.go (t := am_t102) rfl 2 rfl ⟨trivial, trivial, trivial⟩ ?_
          refine am_Rn.call (t := am_t102) rfl rfl (sx_in ..) ?_
          rintro _ _ ⟨rfl, rfl⟩
          refine am_Rn.go (t := am_t102) rfl 1 rfl ⟨trivial, trivial⟩ ?_
          refine am_Rn.brF (fun z => am_b0.mp z hcc) ?_
          refine am_Rn.go (t := am_t102) rfl 5 rfl ⟨trivial, trivial, trivial, trivial, trivial, trivial⟩ ?_
          refine am_Rn.brF h8 ?_
          refine am_Rn.go (t := am_t102) rfl 11 rfl ⟨trivial, trivial, trivial, trivial, trivial, trivial, trivial, trivial, trivial, trivial, trivial, trivial⟩ ?_
          exact g
      · skip
        rw [sp_run_F hl] at hr
        rw [sp_num_F hl] at hm
        rw [hm] at hd
        refine am_Rn.go (t := am_t102) rfl 3 rfl ⟨trivial, trivial, trivial, trivial⟩ ?_
        refine am_Rn.call (t := am_t102) rfl rfl (mm_byteAt (n := n) (hn := hn) (i := j) (hi := by omega) ..) ?_
        rintro _ _ ⟨rfl, rfl⟩
        rw [ebj]
        refine am_Rn.go (t := am_t102) rfl 2 rfl ⟨trivial, trivial, trivial⟩ ?_
        refine am_Rn.call (t := am_t102) rfl rfl (sx_in ..) ?_
        rintro _ _ ⟨rfl, rfl⟩
        refine am_Rn.go (t := am_t102) rfl 1 rfl ⟨trivial, trivial⟩ ?_
        refine am_Rn.brT (am_b0.mpr (fun z => hl (sp_digT.mpr z))) ?_
        exact ex j tk V hr hd
  have L13 : ∀ (s : Nat) (tk pl va : Int32), s ≤ n → am_Rn sc 102 (13, [some (.ref 416), none, none, none], [], B0 :: B1 :: B2 :: B3 :: B4 :: B5 :: B6 :: B7 :: B8 :: B9 :: B10 :: B11 :: B12 :: bkModel tr (Int32.ofNat n) (Int32.ofNat s) tk pl va fa (Int32.ofNat P) dp cm tx (mp_ru nu dn) (mp_ps (mp_q la me tc ts) ps) (mp_s rd pr pv sa pd lo bo co sh se si er of_) sp ke ik bi bt so nr ou ho cl :: Bs) (fun r M' => ∃ nx2 va2, r = none ∧ M' = B0 :: B1 :: B2 :: B3 :: B4 :: B5 :: B6 :: B7 :: B8 :: B9 :: B10 :: B11 :: B12 :: bkModel tr (Int32.ofNat n) nx2 (sp_mk (sp_tokAt tx n s 0).2.1) (Int32.ofNat (sp_tokAt tx n s 0).1) va2 fa (Int32.ofNat P) dp cm tx (mp_ru nu dn) (mp_ps (mp_q la me tc ts) ps) (mp_s rd pr pv sa pd lo bo co sh se si er of_) sp ke ik bi bt so nr ou ho cl :: Bs ∧ (¬ (sp_tokAt tx n s 0).2.1 = 0 → nx2 = Int32.ofNat (sp_tokAt tx n s 0).2.2.2) ∧ ((sp_tokAt tx n s 0).2.1 = 3 ∨ (sp_tokAt tx n s 0).2.1 = 4 → va2 = (sp_tokAt tx n s 0).2.2.1)) := by
    intro s tk pl va hs
    unfold sp_tokAt
    rcases Classical.em (n ≤ s) with hn2 | hn2
    · skip
      rw [if_pos hn2]
      have ebs : (if s < n then tx s else -1) = -1 := if_neg (by omega)
      refine am_Rn.go (t := am_t102) rfl 7 rfl ⟨trivial, trivial, trivial, trivial, trivial, trivial, trivial, trivial⟩ ?_
      refine am_Rn.call (t := am_t102) rfl rfl (mm_byteAt (n := n) (hn := hn) (i := s) (hi := by omega) ..) ?_
      rintro _ _ ⟨rfl, rfl⟩
      rw [ebs]
      refine am_Rn.go (t := am_t102) rfl 3 rfl ⟨trivial, trivial, trivial, trivial⟩ ?_
      refine am_Rn.brF (by decide) ?_
      refine am_Rn.go (t := am_t102) rfl 4 rfl ⟨trivial, trivial, trivial, trivial, trivial⟩ ?_
      refine am_Rn.ret (t := am_t102) rfl rfl trivial ?_
      exact ⟨_, _, rfl, rfl, fun _ => rfl, fun z => by (exfalso; (try dsimp only at z); revert z; decide)⟩
    · skip
      have ebs : (if s < n then tx s else -1) = tx s := if_pos (by omega)
      have hp0 : 0 ≤ tx s := hf s (by omega)
      rw [if_neg hn2]
      rcases Classical.em (97 ≤ tx s ∧ tx s ≤ 122) with hl | hl
      · skip
        have hnd : ¬ sp_dig (tx s) = true := fun z => absurd (Int32.le_trans hl.1 (sp_digT.mp z).2) (by decide)
        have hn59 : ¬ tx s = 59 := fun z => by rw [z] at hl; exact absurd hl.1 (by decide)
        rw [if_neg hn59, if_neg hnd, if_pos (sp_letT.mpr hl)]
        have hle := sp_run_le sp_let tx (n - s) s
        refine am_Rn.go (t := am_t102) rfl 7 rfl ⟨trivial, trivial, trivial, trivial, trivial, trivial, trivial, trivial⟩ ?_
        refine am_Rn.call (t := am_t102) rfl rfl (mm_byteAt (n := n) (hn := hn) (i := s) (hi := by omega) ..) ?_
        rintro _ _ ⟨rfl, rfl⟩
        rw [ebs]
        refine am_Rn.go (t := am_t102) rfl 3 rfl ⟨trivial, trivial, trivial, trivial⟩ ?_
        refine am_Rn.brT hp0 ?_
        refine am_Rn.go (t := am_t102) rfl 3 rfl ⟨trivial, trivial, trivial, trivial⟩ ?_
        refine am_Rn.call (t := am_t102) rfl rfl (sx_in ..) ?_
        rintro _ _ ⟨rfl, rfl⟩
        refine am_Rn.go (t := am_t102) rfl 1 rfl ⟨trivial, trivial⟩ ?_
        refine am_Rn.brF (fun z => am_b0.mp z hl) ?_
        refine am_Rn.go (t := am_t102) rfl 2 rfl ⟨trivial, trivial, trivial⟩ ?_
        have g := LL s (sp_run sp_let tx (n - s) s) (tx s) hle.1 (by omega) (fun t h1 h2 => sp_run_all sp_let tx _ _ t h1 h2) (n - s) s tk va (by omega) (Nat.le_refl s) hle.1 rfl
        rw [if_pos (show s - s < 8 by omega), Nat.sub_self] at g
        exact g
      · skip
        rcases Classical.em (48 ≤ tx s ∧ tx s ≤ 57) with hdg | hdg
        · skip
          have hn59 : ¬ tx s = 59 := fun z => by rw [z] at hdg; exact absurd hdg.2 (by decide)
          rw [if_neg hn59, if_pos (sp_digT.mpr hdg)]
          have hle := sp_run_le sp_dig tx (n - s) s
          refine am_Rn.go (t := am_t102) rfl 7 rfl ⟨trivial, trivial, trivial, trivial, trivial, trivial, trivial, trivial⟩ ?_
          refine am_Rn.call (t := am_t102) rfl rfl (mm_byteAt (n := n) (hn := hn) (i := s) (hi := by omega) ..) ?_
          rintro _ _ ⟨rfl, rfl⟩
          rw [ebs]
          refine am_Rn.go (t := am_t102) rfl 3 rfl ⟨trivial, trivial, trivial, trivial⟩ ?_
          refine am_Rn.brT hp0 ?_
          refine am_Rn.go (t := am_t102) rfl 3 rfl ⟨trivial, trivial, trivial, trivial⟩ ?_
          refine am_Rn.call (t := am_t102) rfl rfl (sx_in ..) ?_
          rintro _ _ ⟨rfl, rfl⟩
          refine am_Rn.go (t := am_t102) rfl 1 rfl ⟨trivial, trivial⟩ ?_
          refine am_Rn.brT (am_b0.mpr hl) ?_
          refine am_Rn.go (t := am_t102) rfl 3 rfl ⟨trivial, trivial, trivial, trivial⟩ ?_
          refine am_Rn.call (t := am_t102) rfl rfl (sx_in ..) ?_
          rintro _ _ ⟨rfl, rfl⟩
          refine am_Rn.go (t := am_t102) rfl 1 rfl ⟨trivial, trivial⟩ ?_
          refine am_Rn.brF (fun z => am_b0.mp z hdg) ?_
          refine am_Rn.go (t := am_t102) rfl 3 rfl ⟨trivial, trivial, trivial, trivial⟩ ?_
          exact LD s (sp_run sp_dig tx (n - s) s) (sp_num tx (n - s) s 0) hle.1 (by omega) (n - s) s tk 0 0 (by omega) (Nat.le_refl s) hle.1 rfl rfl (Or.inl ⟨rfl, by decide, by decide⟩)
        · skip
          rcases Classical.em (tx s = 59) with h59 | h59
          · skip
            rw [if_pos h59]
            refine am_Rn.go (t := am_t102) rfl 7 rfl ⟨trivial, trivial, trivial, trivial, trivial, trivial, trivial, trivial⟩ ?_
            refine am_Rn.call (t := am_t102) rfl rfl (mm_byteAt (n := n) (hn := hn) (i := s) (hi := by omega) ..) ?_
            rintro _ _ ⟨rfl, rfl⟩
            rw [ebs]
            refine am_Rn.go (t := am_t102) rfl 3 rfl ⟨trivial, trivial, trivial, trivial⟩ ?_
            refine am_Rn.brT hp0 ?_
            refine am_Rn.go (t := am_t102) rfl 3 rfl ⟨trivial, trivial, trivial, trivial⟩ ?_
            refine am_Rn.call (t := am_t102) rfl rfl (sx_in ..) ?_
            rintro _ _ ⟨rfl, rfl⟩
            refine am_Rn.go (t := am_t102) rfl 1 rfl ⟨trivial, trivial⟩ ?_
            refine am_Rn.brT (am_b0.mpr hl) ?_
            refine am_Rn.go (t := am_t102) rfl 3 rfl ⟨trivial, trivial, trivial, trivial⟩ ?_
            refine am_Rn.call (t := am_t102) rfl rfl (sx_in ..) ?_
            rintro _ _ ⟨rfl, rfl⟩
            refine am_Rn.go (t := am_t102) rfl 1 rfl ⟨trivial, trivial⟩ ?_
            refine am_Rn.brT (am_b0.mpr hdg) ?_
            refine am_Rn.go (t := am_t102) rfl 10 rfl ⟨trivial, trivial, trivial, trivial, trivial, trivial, trivial, trivial, trivial, trivial, trivial⟩ ?_
            refine am_Rn.brT h59 ?_
            refine am_Rn.go (t := am_t102) rfl 3 rfl ⟨trivial, trivial, trivial, trivial⟩ ?_
            refine am_Rn.ret (t := am_t102) rfl rfl trivial ?_
            exact ⟨_, _, rfl, rfl, fun _ => am_inc s, fun z => by (exfalso; (try dsimp only at z); revert z; decide)⟩
          · skip
            rw [if_neg h59, if_neg (fun z => hdg (sp_digT.mp z)), if_neg (fun z => hl (sp_letT.mp z))]
            refine am_Rn.go (t := am_t102) rfl 7 rfl ⟨trivial, trivial, trivial, trivial, trivial, trivial, trivial, trivial⟩ ?_
            refine am_Rn.call (t := am_t102) rfl rfl (mm_byteAt (n := n) (hn := hn) (i := s) (hi := by omega) ..) ?_
            rintro _ _ ⟨rfl, rfl⟩
            rw [ebs]
            refine am_Rn.go (t := am_t102) rfl 3 rfl ⟨trivial, trivial, trivial, trivial⟩ ?_
            refine am_Rn.brT hp0 ?_
            refine am_Rn.go (t := am_t102) rfl 3 rfl ⟨trivial, trivial, trivial, trivial⟩ ?_
            refine am_Rn.call (t := am_t102) rfl rfl (sx_in ..) ?_
            rintro _ _ ⟨rfl, rfl⟩
            refine am_Rn.go (t := am_t102) rfl 1 rfl ⟨trivial, trivial⟩ ?_
            refine am_Rn.brT (am_b0.mpr hl) ?_
            refine am_Rn.go (t := am_t102) rfl 3 rfl ⟨trivial, trivial, trivial, trivial⟩ ?_
            refine am_Rn.call (t := am_t102) rfl rfl (sx_in ..) ?_
            rintro _ _ ⟨rfl, rfl⟩
            refine am_Rn.go (t := am_t102) rfl 1 rfl ⟨trivial, trivial⟩ ?_
            refine am_Rn.brT (am_b0.mpr hdg) ?_
            refine am_Rn.go (t := am_t102) rfl 10 rfl ⟨trivial, trivial, trivial, trivial, trivial, trivial, trivial, trivial, trivial, trivial, trivial⟩ ?_
            refine am_Rn.brF h59 ?_
            refine am_Rn.go (t := am_t102) rfl 2 rfl ⟨trivial, trivial, trivial⟩ ?_
            refine am_Rn.ret (t := am_t102) rfl rfl trivial ?_
            exact ⟨_, _, rfl, rfl, fun z => absurd rfl z, fun z => by (exfalso; (try dsimp only at z); revert z; decide)⟩
  have L0 : ∀ (d i s : Nat) (tk pl va : Int32), i + d = n → sp_run sp_sp tx d i = s → am_Rn sc 102 (0, [some (.ref 416), none, none, none], [], B0 :: B1 :: B2 :: B3 :: B4 :: B5 :: B6 :: B7 :: B8 :: B9 :: B10 :: B11 :: B12 :: bkModel tr (Int32.ofNat n) (Int32.ofNat i) tk pl va fa (Int32.ofNat P) dp cm tx (mp_ru nu dn) (mp_ps (mp_q la me tc ts) ps) (mp_s rd pr pv sa pd lo bo co sh se si er of_) sp ke ik bi bt so nr ou ho cl :: Bs) (fun r M' => ∃ nx2 va2, r = none ∧ M' = B0 :: B1 :: B2 :: B3 :: B4 :: B5 :: B6 :: B7 :: B8 :: B9 :: B10 :: B11 :: B12 :: bkModel tr (Int32.ofNat n) nx2 (sp_mk (sp_tokAt tx n s 0).2.1) (Int32.ofNat (sp_tokAt tx n s 0).1) va2 fa (Int32.ofNat P) dp cm tx (mp_ru nu dn) (mp_ps (mp_q la me tc ts) ps) (mp_s rd pr pv sa pd lo bo co sh se si er of_) sp ke ik bi bt so nr ou ho cl :: Bs ∧ (¬ (sp_tokAt tx n s 0).2.1 = 0 → nx2 = Int32.ofNat (sp_tokAt tx n s 0).2.2.2) ∧ ((sp_tokAt tx n s 0).2.1 = 3 ∨ (sp_tokAt tx n s 0).2.1 = 4 → va2 = (sp_tokAt tx n s 0).2.2.1)) := by
    intro d
    induction d with
    | zero =>
      intro i s tk pl va hi hr
      have his : i = s := hr
      subst i
      refine am_Rn.go (t := am_t102) rfl 3 rfl ⟨trivial, trivial, trivial, trivial⟩ ?_
      refine am_Rn.call (t := am_t102) rfl rfl (mm_byteAt (n := n) (hn := hn) (i := s) (hi := by omega) ..) ?_
      rintro _ _ ⟨rfl, rfl⟩
      refine am_Rn.go (t := am_t102) rfl 2 rfl ⟨trivial, trivial, trivial⟩ ?_
      refine am_Rn.brF (by rw [if_neg (by omega)]; decide) ?_
      exact L13 s tk pl va (by omega)
    | succ d ih =>
      intro i s tk pl va hi hr
      have ebj : (if i < n then tx i else -1) = tx i := if_pos (by omega)
      rcases Classical.em (sp_sp (tx i) = true) with hl | hl
      · skip
        rw [sp_run_T hl] at hr
        have g := ih (i + 1) s tk pl va (by omega) hr
        rw [← am_inc] at g
        refine am_Rn.go (t := am_t102) rfl 3 rfl ⟨trivial, trivial, trivial, trivial⟩ ?_
        refine am_Rn.call (t := am_t102) rfl rfl (mm_byteAt (n := n) (hn := hn) (i := i) (hi := by omega) ..) ?_
        rintro _ _ ⟨rfl, rfl⟩
        rw [ebj]
        refine am_Rn.go (t := am_t102) rfl 2 rfl ⟨trivial, trivial, trivial⟩ ?_
        refine am_Rn.brT (of_decide_eq_true hl) ?_
        refine am_Rn.go (t := am_t102) rfl 7 rfl ⟨trivial, trivial, trivial, trivial, trivial, trivial, trivial, trivial⟩ ?_
        exact g
      · skip
        rw [sp_run_F hl] at hr
        subst hr
        refine am_Rn.go (t := am_t102) rfl 3 rfl ⟨trivial, trivial, trivial, trivial⟩ ?_
        refine am_Rn.call (t := am_t102) rfl rfl (mm_byteAt (n := n) (hn := hn) (i := i) (hi := by omega) ..) ?_
        rintro _ _ ⟨rfl, rfl⟩
        rw [ebj]
        refine am_Rn.go (t := am_t102) rfl 2 rfl ⟨trivial, trivial, trivial⟩ ?_
        refine am_Rn.brF (fun z => hl (decide_eq_true z)) ?_
        exact L13 i tk pl va (by omega)
  exact L0 (n - i) i _ tk pl va (by omega) rfl
