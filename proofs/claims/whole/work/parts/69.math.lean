/-! ===== rests by figures ===== -/
theorem am_fold_add {α : Type} (f : Nat → α → α) (a : α) (p : Nat) : ∀ q : Nat, am_fold (p + q) f a = am_fold q (fun i => f (p + i)) (am_fold p f a) := by
  intro q
  induction q with
  | zero => rfl
  | succ q ih =>
    show f (p + q) (am_fold (p + q) f a) = f (p + q) (am_fold q (fun i => f (p + i)) (am_fold p f a))
    rw [ih]
theorem am_fold_mul {α : Type} (f : Nat → α → α) (a : α) (k : Nat) : ∀ n : Nat, am_fold (k * n) f a = am_fold n (fun i x => am_fold k (fun j => f (k * i + j)) x) a := by
  intro n
  induction n with
  | zero => rfl
  | succ n ih =>
    rw [show k * (n + 1) = k * n + k by rw [Nat.mul_add, Nat.mul_one], am_fold_add, ih]
    rfl
theorem am_fold_id {α : Type} {f : Nat → α → α} : ∀ n : Nat, (∀ i, i < n → ∀ x, f i x = x) → ∀ a, am_fold n f a = a := by
  intro n
  induction n with
  | zero => intro _ a; rfl
  | succ n ih =>
    intro h a
    rw [am_fold_succ, h n (by omega), ih (fun i hi => h i (by omega))]
theorem am_fold_skip {α : Type} {f : Nat → α → α} {n m : Nat} (hnm : n ≤ m) (h : ∀ i, n ≤ i → i < m → ∀ x, f i x = x) (a : α) : am_fold m f a = am_fold n f a := by
  obtain ⟨d, rfl⟩ : ∃ d, m = n + d := ⟨m - n, by omega⟩
  rw [am_fold_add]
  exact am_fold_id d (fun i hi x => h (n + i) (by omega) (by omega) x) _
theorem sp_row_no {nr : Nat → Int32} {m l row : Nat} (h : sp_rowOk nr m l row = false) (X : Int32 × Int32) : sp_rowOne nr m l row X = X := if_neg (by rw [h]; decide)
theorem sp_fig2 {a b : Nat} : sp_fig 2 a b 0 = Int32.ofNat (10 * a + b) := by
  unfold sp_fig
  rw [if_pos (by omega)]
  show Int32.ofNat 10 * Int32.ofNat a + Int32.ofNat b = _
  rw [am_mulN, am_addN]
theorem sp_fig3 {a b c : Nat} : sp_fig 3 a b c = Int32.ofNat (100 * a + 10 * b + c) := by
  unfold sp_fig
  rw [if_neg (by omega)]
  show Int32.ofNat 100 * Int32.ofNat a + Int32.ofNat 10 * Int32.ofNat b + Int32.ofNat c = _
  rw [am_mulN, am_mulN, am_addN, am_addN]
theorem sp_rests2 (nr : Nat → Int32) {l : Nat} (hl : l ≤ 8) : am_fold 100 (sp_rowOne nr 2 l) (0, -9) = sp_rests nr 2 l := by
  have h0 : am_fold 100 (sp_rowOne nr 2 l) (0, -9) = am_fold 10 (fun a x => am_fold 10 (fun b => sp_rowOne nr 2 l (10 * a + b)) x) (0, -9) := am_fold_mul (sp_rowOne nr 2 l) (0, -9) 10 10
  rw [h0]
  unfold sp_rests
  have hth : sp_third 2 l = 0 := if_pos (by omega)
  rw [hth]
  rw [am_fold_skip (n := l + 1) (m := 10) (by omega)]
  · refine am_fold_congr (l + 1) (fun a ha x => ?_) _
    show am_fold 10 (fun b => sp_rowOne nr 2 l (10 * a + b)) x = am_fold (l + 1) (fun b X => am_fold (0 + 1) (fun c X => sp_cntOne nr 2 l a b c X) X) x
    rw [am_fold_skip (n := l + 1) (m := 10) (by omega)]
    · refine am_fold_congr (l + 1) (fun b hb y => ?_) _
      show sp_rowOne nr 2 l (10 * a + b) y = sp_cntOne nr 2 l a b 0 y
      have hok : sp_rowOk nr 2 l (10 * a + b) = sp_rest nr (sp_tri a b 0) 2 l := by
        unfold sp_rowOk
        rw [if_pos (by omega), show (10 * a + b) / 10 = a by omega, show (10 * a + b) % 10 = b by omega, decide_eq_true (show a ≤ l by omega), decide_eq_true (show b ≤ l by omega)]
        rfl
      unfold sp_rowOne sp_cntOne
      rw [hok, sp_fig2]
    · intro b hb1 hb2 y
      refine sp_row_no ?_ y
      unfold sp_rowOk
      rw [if_pos (by omega), show (10 * a + b) % 10 = b by omega, decide_eq_false (show ¬ b ≤ l by omega), Bool.and_false]
      rfl
  · intro a ha1 ha2 x
    refine am_fold_id 10 (fun b hb y => sp_row_no ?_ y) x
    unfold sp_rowOk
    rw [if_pos (by omega), show (10 * a + b) / 10 = a by omega, decide_eq_false (show ¬ a ≤ l by omega)]
    rfl
theorem sp_rests3 (nr : Nat → Int32) {l : Nat} (hl : l ≤ 8) : am_fold 1000 (sp_rowOne nr 3 l) (0, -9) = sp_rests nr 3 l := by
  have h0 : am_fold 1000 (sp_rowOne nr 3 l) (0, -9) = am_fold 10 (fun a x => am_fold 100 (fun b => sp_rowOne nr 3 l (100 * a + b)) x) (0, -9) := am_fold_mul (sp_rowOne nr 3 l) (0, -9) 100 10
  rw [h0]
  unfold sp_rests
  have hth : sp_third 3 l = l := if_neg (by omega)
  rw [hth]
  rw [am_fold_skip (n := l + 1) (m := 10) (by omega)]
  · refine am_fold_congr (l + 1) (fun a ha x => ?_) _
    have h1 : am_fold 100 (fun b => sp_rowOne nr 3 l (100 * a + b)) x = am_fold 10 (fun b y => am_fold 10 (fun c => sp_rowOne nr 3 l (100 * a + (10 * b + c))) y) x := am_fold_mul (fun b => sp_rowOne nr 3 l (100 * a + b)) x 10 10
    show am_fold 100 (fun b => sp_rowOne nr 3 l (100 * a + b)) x = am_fold (l + 1) (fun b X => am_fold (l + 1) (fun c X => sp_cntOne nr 3 l a b c X) X) x
    rw [h1, am_fold_skip (n := l + 1) (m := 10) (by omega)]
    · refine am_fold_congr (l + 1) (fun b hb y => ?_) _
      show am_fold 10 (fun c => sp_rowOne nr 3 l (100 * a + (10 * b + c))) y = am_fold (l + 1) (fun c X => sp_cntOne nr 3 l a b c X) y
      rw [am_fold_skip (n := l + 1) (m := 10) (by omega)]
      · refine am_fold_congr (l + 1) (fun c hc z => ?_) _
        show sp_rowOne nr 3 l (100 * a + (10 * b + c)) z = sp_cntOne nr 3 l a b c z
        have hok : sp_rowOk nr 3 l (100 * a + (10 * b + c)) = sp_rest nr (sp_tri a b c) 3 l := by
          unfold sp_rowOk
          rw [if_neg (by omega), show (100 * a + (10 * b + c)) / 100 = a by omega, show (100 * a + (10 * b + c)) / 10 % 10 = b by omega, show (100 * a + (10 * b + c)) % 10 = c by omega, decide_eq_true (show a ≤ l by omega), decide_eq_true (show b ≤ l by omega), decide_eq_true (show c ≤ l by omega)]
          rfl
        unfold sp_rowOne sp_cntOne
        rw [hok, sp_fig3, show 100 * a + 10 * b + c = 100 * a + (10 * b + c) by omega]
      · intro c hc1 hc2 z
        refine sp_row_no ?_ z
        unfold sp_rowOk
        rw [if_neg (by omega), show (100 * a + (10 * b + c)) % 10 = c by omega, decide_eq_false (show ¬ c ≤ l by omega), Bool.and_false]
        rfl
    · intro b hb1 hb2 y
      refine am_fold_id 10 (fun c hc z => sp_row_no ?_ z) y
      unfold sp_rowOk
      rw [if_neg (by omega), show (100 * a + (10 * b + c)) / 10 % 10 = b by omega, decide_eq_false (show ¬ b ≤ l by omega), Bool.and_false]
      rfl
  · intro a ha1 ha2 x
    refine am_fold_id 100 (fun b hb y => sp_row_no ?_ y) x
    unfold sp_rowOk
    rw [if_neg (by omega), show (100 * a + b) / 100 = a by omega, decide_eq_false (show ¬ a ≤ l by omega)]
    rfl
/-! ===== numbers within bounds ===== -/
theorem ai_add {x y : Int32} (h1 : -2147483648 ≤ x.toInt + y.toInt) (h2 : x.toInt + y.toInt ≤ 2147483647) : (x + y).toInt = x.toInt + y.toInt := by
  rw [Int32.toInt_add]
  exact Int.bmod_eq_of_le (by omega) (by omega)
theorem ai_sub {x y : Int32} (h1 : -2147483648 ≤ x.toInt - y.toInt) (h2 : x.toInt - y.toInt ≤ 2147483647) : (x - y).toInt = x.toInt - y.toInt := by
  rw [Int32.toInt_sub]
  exact Int.bmod_eq_of_le (by omega) (by omega)
theorem ai_mul {x y : Int32} (h1 : -2147483648 ≤ x.toInt * y.toInt) (h2 : x.toInt * y.toInt ≤ 2147483647) : (x * y).toInt = x.toInt * y.toInt := by
  rw [Int32.toInt_mul]
  exact Int.bmod_eq_of_le (by omega) (by omega)
theorem ai_bd {a w A W : Int} (h1 : 0 ≤ a) (h2 : a ≤ A) (h3 : 0 ≤ w) (h4 : w ≤ W) : 0 ≤ a * w ∧ a * w ≤ A * W := ⟨Int.mul_nonneg h1 h3, Int.mul_le_mul h2 h4 h3 (Int.le_trans h1 h2)⟩
theorem ai_le {x : Int32} {k : Nat} (hk : k < 2147483648) : x ≤ Int32.ofNat k ↔ x.toInt ≤ k := by rw [Int32.le_iff_toInt_le, am_ofN k hk]
theorem ai_ge {x : Int32} {k : Nat} (hk : k < 2147483648) : Int32.ofNat k ≤ x ↔ (k : Int) ≤ x.toInt := by rw [Int32.le_iff_toInt_le, am_ofN k hk]
/-- what rules must be -/
def sp_low (q : Nat) : Int32 := [3, 0, 0, 0, 1, 0, 0, 0, 0, 1].getD q 0
theorem sp_low_le : ∀ q, q < 10 → sp_low q ≤ sp_least q := by decide
def sp_nuOk (nu : Nat → Int32) : Prop := ∀ k, k < 10 → k ≠ 4 → sp_low k ≤ nu k ∧ nu k ≤ sp_most k
theorem sp_worth_bd {nu : Nat → Int32} {N r : Nat} (h : sp_nuOk nu) (h0 : nu 0 = Int32.ofNat N) (hN : N ≤ 20) (hr : r ≤ N) : 0 ≤ (sp_worth nu (Int32.ofNat r)).toInt ∧ (sp_worth nu (Int32.ofNat r)).toInt ≤ 279 := by
  have b1 := h 1 (by omega) (by omega)
  have b2 := h 2 (by omega) (by omega)
  have b3 := h 3 (by omega) (by omega)
  have c1 : 0 ≤ (nu 1).toInt ∧ (nu 1).toInt ≤ 9 := ⟨(ai_ge (k := 0) (by omega)).mp b1.1, (ai_le (k := 9) (by omega)).mp b1.2⟩
  have c2 : 0 ≤ (nu 2).toInt ∧ (nu 2).toInt ≤ 9 := ⟨(ai_ge (k := 0) (by omega)).mp b2.1, (ai_le (k := 9) (by omega)).mp b2.2⟩
  have c3 : 0 ≤ (nu 3).toInt ∧ (nu 3).toInt ≤ 99 := ⟨(ai_ge (k := 0) (by omega)).mp b3.1, (ai_le (k := 99) (by omega)).mp b3.2⟩
  unfold sp_worth
  rw [h0, am_sub_ofN hr (by omega)]
  have e1 : (nu 1 + nu 2).toInt = (nu 1).toInt + (nu 2).toInt := ai_add (by omega) (by omega)
  have e2 : (Int32.ofNat (N - r)).toInt = ((N - r : Nat) : Int) := am_ofN _ (by omega)
  have hb := ai_bd (a := (Int32.ofNat (N - r)).toInt) (A := 20) (w := (nu 1 + nu 2).toInt) (W := 18) (by rw [e2]; omega) (by rw [e2]; omega) (by rw [e1]; omega) (by rw [e1]; omega)
  have e3 : (Int32.ofNat (N - r) * (nu 1 + nu 2)).toInt = (Int32.ofNat (N - r)).toInt * (nu 1 + nu 2).toInt := ai_mul (by omega) (by omega)
  rw [← e3] at hb
  generalize Int32.ofNat (N - r) * (nu 1 + nu 2) = m at hb
  have e4 : (m / 2).toInt = m.toInt / 2 := by
    rw [Int32.toInt_div, show (2 : Int32).toInt = 2 from rfl, Int.tdiv_eq_ediv_of_nonneg (by omega)]
    exact Int.bmod_eq_of_le (by omega) (by omega)
  have e5 : (m / 2 + nu 3).toInt = (m / 2).toInt + (nu 3).toInt := ai_add (by omega) (by omega)
  omega
theorem sp_abs_bd {x : Int32} {B : Int} (h1 : -B ≤ x.toInt) (h2 : x.toInt ≤ B) (hB : B ≤ 1000000) : 0 ≤ (sp_abs x).toInt ∧ (sp_abs x).toInt ≤ B := by
  unfold sp_abs
  by_cases h : 0 ≤ x
  · rw [if_pos h]
    rw [Int32.le_iff_toInt_le] at h
    have : (0 : Int32).toInt = 0 := rfl
    omega
  · rw [if_neg h]
    rw [Int32.le_iff_toInt_le] at h
    have e0 : (0 : Int32).toInt = 0 := rfl
    have e : (0 - x).toInt = (0 : Int32).toInt - x.toInt := ai_sub (by omega) (by omega)
    omega
theorem sp_err_bd {nu cl : Nat → Int32} {N C A B : Nat} {v : Int32} (h : sp_nuOk nu) (h0 : nu 0 = Int32.ofNat N) (hN : N ≤ 20) (hcl : ∀ k, k < 12 → 0 ≤ (cl k).toInt ∧ (cl k).toInt ≤ 999) (hC : C ≤ 12) (hA : A ≤ 10) (hB : B ≤ 10) (hv : 0 ≤ v ∧ v ≤ 99) : 0 ≤ sp_err nu cl C (Int32.ofNat A) (Int32.ofNat B) v := by
  have hv' : 0 ≤ v.toInt ∧ v.toInt ≤ 99 := ⟨(ai_ge (k := 0) (by omega)).mp hv.1, (ai_le (k := 99) (by omega)).mp hv.2⟩
  have key : ∀ n : Nat, n ≤ C → 0 ≤ (am_fold n (sp_errOne nu cl (Int32.ofNat A) (Int32.ofNat B) v) 0).toInt ∧ (am_fold n (sp_errOne nu cl (Int32.ofNat A) (Int32.ofNat B) v) 0).toInt ≤ n * 50000 := by
    intro n
    induction n with
    | zero => intro _; exact ⟨Int.le_refl 0, Int.le_refl 0⟩
    | succ n ih =>
      intro hn
      have ih := ih (by omega)
      rw [am_fold_succ]
      generalize am_fold n (sp_errOne nu cl (Int32.ofNat A) (Int32.ofNat B) v) 0 = s at ih ⊢
      by_cases h2 : 2 ≤ n
      · rw [sp_errOne_ge h2]
        have hw : 0 ≤ (sp_worth nu (if nu 0 < Int32.ofNat n then nu 0 else Int32.ofNat n)).toInt ∧ (sp_worth nu (if nu 0 < Int32.ofNat n then nu 0 else Int32.ofNat n)).toInt ≤ 279 := by
          by_cases q : nu 0 < Int32.ofNat n
          · rw [if_pos q, h0]
            exact sp_worth_bd h h0 hN (Nat.le_refl N)
          · rw [if_neg q]
            rw [h0] at q
            exact sp_worth_bd h h0 hN (Nat.le_of_not_lt (fun z => q ((am_lt (by omega) (by omega)).mpr z)))
        generalize sp_worth nu (if nu 0 < Int32.ofNat n then nu 0 else Int32.ofNat n) = w at hw ⊢
        have p1 := hcl (n - 1) (by omega)
        have p2 := hcl (n - 2) (by omega)
        have p3 := hcl n (by omega)
        generalize cl (n - 1) = c1 at p1 ⊢
        generalize cl (n - 2) = c2 at p2 ⊢
        generalize cl n = c3 at p3 ⊢
        have z2 : (2 : Int32).toInt = 2 := rfl
        have z10 : (10 : Int32).toInt = 10 := rfl
        have eA : (Int32.ofNat A).toInt = A := am_ofN A (by omega)
        have eB : (Int32.ofNat B).toInt = B := am_ofN B (by omega)
        have e1 : ((2 : Int32) * c1).toInt = 2 * c1.toInt := by rw [ai_mul (by rw [z2]; omega) (by rw [z2]; omega), z2]
        have e2 : ((2 : Int32) * c1 - c2).toInt = 2 * c1.toInt - c2.toInt := by rw [ai_sub (by omega) (by omega), e1]
        have m1 := ai_bd (a := (Int32.ofNat A).toInt) (A := 10) (w := w.toInt) (W := 279) (by omega) (by omega) hw.1 hw.2
        have e3 : (Int32.ofNat A * w).toInt = (Int32.ofNat A).toInt * w.toInt := ai_mul (by omega) (by omega)
        have m2 := ai_bd (a := (Int32.ofNat B).toInt) (A := 10) (w := ((2 : Int32) * c1 - c2).toInt + 999) (W := 2997) (by omega) (by omega) (by omega) (by omega)
        rw [Int.mul_add] at m2
        have e4 : (Int32.ofNat B * ((2 : Int32) * c1 - c2)).toInt = (Int32.ofNat B).toInt * ((2 : Int32) * c1 - c2).toInt := ai_mul (by omega) (by omega)
        have e5 : ((10 : Int32) - Int32.ofNat A).toInt = 10 - A := by rw [ai_sub (by omega) (by omega), z10, eA]
        have e6 : ((10 : Int32) - Int32.ofNat A - Int32.ofNat B).toInt = 10 - A - B := by rw [ai_sub (by omega) (by omega), e5, eB]
        have m3 := ai_bd (a := ((10 : Int32) - Int32.ofNat A - Int32.ofNat B).toInt + 10) (A := 20) (w := v.toInt) (W := 99) (by omega) (by omega) hv'.1 hv'.2
        rw [Int.add_mul] at m3
        have e7 : (((10 : Int32) - Int32.ofNat A - Int32.ofNat B) * v).toInt = ((10 : Int32) - Int32.ofNat A - Int32.ofNat B).toInt * v.toInt := ai_mul (by omega) (by omega)
        have e8 : ((10 : Int32) * c3).toInt = 10 * c3.toInt := by rw [ai_mul (by rw [z10]; omega) (by rw [z10]; omega), z10]
        generalize Int32.ofNat A * w = t1 at e3 ⊢
        generalize Int32.ofNat B * ((2 : Int32) * c1 - c2) = t2 at e4 ⊢
        generalize ((10 : Int32) - Int32.ofNat A - Int32.ofNat B) * v = t3 at e7 ⊢
        generalize (10 : Int32) * c3 = t4 at e8 ⊢
        have e9 : (t1 + t2).toInt = t1.toInt + t2.toInt := ai_add (by omega) (by omega)
        have e10 : (t1 + t2 + t3).toInt = t1.toInt + t2.toInt + t3.toInt := by rw [ai_add (by omega) (by omega), e9]
        have e11 : (t1 + t2 + t3 - t4).toInt = t1.toInt + t2.toInt + t3.toInt - t4.toInt := by rw [ai_sub (by omega) (by omega), e10]
        have hab := sp_abs_bd (x := t1 + t2 + t3 - t4) (B := 50000) (by omega) (by omega) (by omega)
        generalize sp_abs (t1 + t2 + t3 - t4) = ab at hab ⊢
        have e12 : (s + ab).toInt = s.toInt + ab.toInt := ai_add (by omega) (by omega)
        omega
      · unfold sp_errOne
        rw [if_pos (by omega)]
        omega
  have hk := key C (Nat.le_refl C)
  unfold sp_err
  rw [Int32.le_iff_toInt_le]
  exact hk.1
/-! holds -/
def sp_hs (ho : Nat → Int32) (n : Nat) : Int := am_fold n (fun k s => s + (ho k).toInt) 0
def sp_hoOk (ho : Nat → Int32) : Prop := (∀ k, k < 10 → 0 ≤ (ho k).toInt) ∧ sp_hs ho 10 = 10
theorem sp_hs_upd (ho : Nat → Int32) (i : Nat) (v : Int32) : ∀ n : Nat, sp_hs (upd ho i v) n = if i < n then sp_hs ho n - (ho i).toInt + v.toInt else sp_hs ho n := by
  intro n
  induction n with
  | zero =>
    have e1 : sp_hs (upd ho i v) 0 = 0 := rfl
    have e2 : sp_hs ho 0 = 0 := rfl
    rw [e1, if_neg (Nat.not_lt_zero i), e2]
  | succ n ih =>
    have e1 : sp_hs (upd ho i v) (n + 1) = sp_hs (upd ho i v) n + (upd ho i v n).toInt := rfl
    have e2 : sp_hs ho (n + 1) = sp_hs ho n + (ho n).toInt := rfl
    rw [e1, e2, ih]
    by_cases h : i = n
    · subst h
      rw [mp_upd_eq, if_neg (Nat.lt_irrefl i), if_pos (Nat.lt_succ_self i)]
      omega
    · rw [mp_upd_ne _ _ (fun z => h z.symm)]
      by_cases h2 : i < n
      · rw [if_pos h2, if_pos (by omega)]
        omega
      · rw [if_neg h2, if_neg (by omega)]
theorem sp_hs_ge {ho : Nat → Int32} : ∀ n : Nat, (∀ k, k < n → 0 ≤ (ho k).toInt) → 0 ≤ sp_hs ho n ∧ ∀ k, k < n → (ho k).toInt ≤ sp_hs ho n := by
  intro n
  induction n with
  | zero => intro _; exact ⟨Int.le_refl 0, fun k hk => absurd hk (Nat.not_lt_zero k)⟩
  | succ n ih =>
    intro h
    obtain ⟨a, b⟩ := ih (fun k hk => h k (by omega))
    have hn := h n (by omega)
    have e2 : sp_hs ho (n + 1) = sp_hs ho n + (ho n).toInt := rfl
    refine ⟨by omega, fun k hk => ?_⟩
    by_cases q : k = n
    · subst q; omega
    · have := b k (by omega); omega
theorem sp_hoOk_step {ho : Nat → Int32} {a b : Nat} {v : Int32} (h : sp_hoOk ho) (ha : a ≤ 9) (hb : b ≤ 9) (hv : 0 ≤ v ∧ v ≤ ho a) : sp_hoOk (upd (upd ho a (ho a - v)) b (upd ho a (ho a - v) b + v)) := by
  obtain ⟨h1, h2⟩ := h
  have hle := (sp_hs_ge 10 h1).2
  rw [Int32.le_iff_toInt_le, Int32.le_iff_toInt_le] at hv
  have z0 : (0 : Int32).toInt = 0 := rfl
  have a1 := h1 a (by omega)
  have a2 := hle a (by omega)
  have e1 : (ho a - v).toInt = (ho a).toInt - v.toInt := ai_sub (by omega) (by omega)
  have g1 : ∀ k, k < 10 → 0 ≤ (upd ho a (ho a - v) k).toInt := by
    intro k hk
    by_cases q : k = a
    · rw [q, mp_upd_eq]; omega
    · rw [mp_upd_ne _ _ q]; exact h1 k hk
  have s1 := sp_hs_upd ho a (ho a - v) 10
  rw [if_pos (by omega)] at s1
  have hle2 := (sp_hs_ge 10 g1).2
  generalize upd ho a (ho a - v) = h' at g1 s1 hle2 ⊢
  have b1 := g1 b (by omega)
  have b2 := hle2 b (by omega)
  have e2 : (h' b + v).toInt = (h' b).toInt + v.toInt := ai_add (by omega) (by omega)
  refine ⟨fun k hk => ?_, ?_⟩
  · by_cases q : k = b
    · rw [q, mp_upd_eq]; omega
    · rw [mp_upd_ne _ _ q]; exact g1 k hk
  · rw [sp_hs_upd, if_pos (by omega)]
    omega
theorem sp_mean0 {nr ho : Nat → Int32} (h : sp_hoOk ho) (hr : ∀ k, k < 3 → 0 ≤ (nr k).toInt ∧ (nr k).toInt ≤ 99) : (-1 : Int32) < sp_mean nr ho 0 := by
  obtain ⟨h1, h2⟩ := h
  have hle := (sp_hs_ge 10 h1).2
  have r0 := hr 0 (by omega)
  have ep : sp_price nr (Int32.ofNat 0) = nr 0 := by
    unfold sp_price
    rw [show nr 1 * Int32.ofNat 0 = 0 from Int32.mul_zero]
    exact Int32.add_zero _
  have z2 : (2 : Int32).toInt = 2 := rfl
  have e2 : ((2 : Int32) * nr 0).toInt = 2 * (nr 0).toInt := by rw [ai_mul (by rw [z2]; omega) (by rw [z2]; omega), z2]
  have key : ∀ n : Nat, n ≤ 10 → 0 ≤ (am_fold n (sp_meanOne nr ho 0) 0).toInt ∧ (am_fold n (sp_meanOne nr ho 0) 0).toInt ≤ n * 2000 := by
    intro n
    induction n with
    | zero => intro _; exact ⟨Int.le_refl 0, Int.le_refl 0⟩
    | succ n ih =>
      intro hn
      have ih := ih (by omega)
      rw [am_fold_succ]
      generalize am_fold n (sp_meanOne nr ho 0) 0 = s at ih ⊢
      unfold sp_meanOne
      rw [ep]
      have q1 := h1 n (by omega)
      have q2 := hle n (by omega)
      rw [h2] at q2
      have hc : 0 ≤ (if 0 < n then 2 * nr 0 else if 0 = n then nr 0 else 2 * nr 2).toInt ∧ (if 0 < n then 2 * nr 0 else if 0 = n then nr 0 else 2 * nr 2).toInt ≤ 198 := by
        by_cases q : 0 < n
        · rw [if_pos q]; omega
        · rw [if_neg q, if_pos (by omega)]; omega
      generalize (if 0 < n then 2 * nr 0 else if 0 = n then nr 0 else 2 * nr 2) = c at hc ⊢
      have m := ai_bd q1 q2 hc.1 hc.2
      have e3 : (ho n * c).toInt = (ho n).toInt * c.toInt := ai_mul (by omega) (by omega)
      generalize ho n * c = t at e3 ⊢
      have e4 : (s + t).toInt = s.toInt + t.toInt := ai_add (by omega) (by omega)
      omega
  have hk := key 10 (by omega)
  unfold sp_mean
  rw [Int32.lt_iff_toInt_lt, show (-1 : Int32).toInt = -1 from rfl]
  omega
