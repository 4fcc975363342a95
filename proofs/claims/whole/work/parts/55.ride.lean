/-! the least of some, how many are it -/
theorem sp_first_le (ou : Nat → Int32) (f : Int32) : ∀ m : Nat, sp_first ou m f ≤ f ∧ (∀ k, k < m → sp_first ou m f ≤ ou k) ∧ (sp_first ou m f = f ∨ ∃ k, k < m ∧ sp_first ou m f = ou k) := by
  intro m
  induction m with
  | zero => exact ⟨Int32.le_refl _, fun k hk => absurd hk (Nat.not_lt_zero k), Or.inl rfl⟩
  | succ m ih =>
    unfold sp_first at ih ⊢
    rw [am_fold_succ]
    generalize am_fold m (sp_minOne ou) f = a at ih ⊢
    obtain ⟨h1, h2, h3⟩ := ih
    unfold sp_minOne
    by_cases h : ou m < a
    · rw [if_pos h]
      refine ⟨Int32.le_trans (Int32.le_of_lt h) h1, fun k hk => ?_, Or.inr ⟨m, by omega, rfl⟩⟩
      by_cases e : k = m
      · rw [e]; exact Int32.le_refl _
      · exact Int32.le_trans (Int32.le_of_lt h) (h2 k (by omega))
    · rw [if_neg h]
      refine ⟨h1, fun k hk => ?_, h3.imp id (fun ⟨k, hk, e⟩ => ⟨k, by omega, e⟩)⟩
      by_cases e : k = m
      · rw [e]; exact Int32.not_lt.mp h
      · exact h2 k (by omega)
theorem sp_first_eq {ou : Nat → Int32} {m w : Nat} {f : Int32} (hw : w < m) (h : ou w ≤ f) : sp_first ou m f = sp_first ou m (ou w) := by
  obtain ⟨a1, a2, a3⟩ := sp_first_le ou f m
  obtain ⟨b1, b2, b3⟩ := sp_first_le ou (ou w) m
  apply Int32.le_antisymm
  · rcases b3 with e | ⟨k, hk, e⟩
    · rw [e]; exact a2 w hw
    · rw [e]; exact a2 k hk
  · rcases a3 with e | ⟨k, hk, e⟩
    · rw [e]; exact Int32.le_trans b1 h
    · rw [e]; exact b2 k hk
theorem sp_tog_nat (ou : Nat → Int32) (f : Int32) : ∀ m : Nat, m ≤ 3 → ∃ c : Nat, c ≤ m ∧ sp_tog ou m f = Int32.ofNat c ∧ (∀ w, w < m → ou w = f → 1 ≤ c) := by
  intro m
  induction m with
  | zero => intro _; exact ⟨0, Nat.le_refl _, rfl, fun w hw => absurd hw (Nat.not_lt_zero w)⟩
  | succ m ih =>
    intro hm
    obtain ⟨c, h1, h2, h3⟩ := ih (by omega)
    unfold sp_tog at h2 ⊢
    rw [am_fold_succ, h2]
    unfold sp_togOne
    by_cases h : ou m = f
    · rw [if_pos h]
      exact ⟨c + 1, by omega, am_inc c, fun _ _ _ => by omega⟩
    · rw [if_neg h]
      refine ⟨c, by omega, Int32.add_zero _, fun w hw e => ?_⟩
      by_cases e2 : w = m
      · rw [e2] at e; exact absurd e h
      · exact h3 w (by omega) e
theorem sp_share_m {nr ou : Nat → Int32} {m w : Nat} (hw : w < m) (hm : m ≤ 3) (h : ou w ≤ 9) : sp_share nr ou m w = if ou w = sp_first ou m 9 then sp_price nr (sp_first ou m 9) / sp_tog ou m (sp_first ou m 9) else nr 2 := by
  unfold sp_share
  rw [← sp_first_eq hw h]
  have h1 := (sp_first_le ou 9 m).2.1 w hw
  by_cases e : ou w = sp_first ou m 9
  · rw [if_pos e, if_neg (fun q => by rw [e] at q; exact Int32.lt_irrefl q)]
    obtain ⟨c, c1, c2, c3⟩ := sp_tog_nat ou (sp_first ou m 9) m hm
    rw [if_pos]
    rw [c2]
    exact (am_lt (i := 0) (by omega) (by omega)).mpr (c3 w hw e)
  · rw [if_neg e, if_pos]
    exact Int32.lt_of_le_of_ne h1 (fun q => e q.symm)
theorem sp_tog_ne {ou : Nat → Int32} {m w : Nat} {f : Int32} (hw : w < m) (hm : m ≤ 3) (e : ou w = f) : ¬ sp_tog ou m f = 0 := by
  obtain ⟨c, c1, c2, c3⟩ := sp_tog_nat ou f m hm
  rw [c2]
  intro q
  have := (am_eqi (j := 0) (by omega) (by omega)).mp q
  have := c3 w hw e
  omega
theorem am_band1 (B : Bool) : am_b (B = true) &&& 1 = am_b (B = true) := by cases B <;> rfl
theorem am_band0 (B : Bool) : am_b (B = true) &&& 0 = am_b (false = true) := by cases B <;> rfl
theorem am_div10 {n : Nat} (h : n < 1000) : Int32.ofNat n / 10 = Int32.ofNat (n / 10) := by
  apply Int32.toInt_inj.mp
  rw [Int32.toInt_div, am_ofN n (by omega), am_ofN (n / 10) (by omega)]
  rw [show (10 : Int32).toInt = 10 from rfl, Int.tdiv_eq_ediv_of_nonneg (by omega)]
  rw [Int.bmod_eq_of_le (by omega) (by omega)]
  omega
theorem am_rem10 {n : Nat} (h : n < 1000) : Int32.ofNat n - Int32.ofNat n / 10 * 10 = Int32.ofNat (n % 10) := by
  rw [am_div10 h, show (10 : Int32) = Int32.ofNat 10 from rfl, am_mulN, am_sub_ofN (by omega) (by omega)]
  congr 1
  omega
theorem mm_priceAt (sc : am_Sc) (f : Int32) (tr : Int64) (ty nx tk pl va fa dp cm : Int32) (tx nu dn la me tc ts ps : Nat → Int32) (P : Nat) (rd pr pv sa pd lo : Int32) (bo co sh se si er of_ sp ke ik bi bt so nr ou ho cl : Nat → Int32) (B0 B1 B2 B3 B4 B5 B6 B7 B8 B9 B10 B11 B12 : List am_E) (Bs : am_M) : am_Rn sc 147 (0, am_entry 147 [.ref 416, .int f], [], B0 :: B1 :: B2 :: B3 :: B4 :: B5 :: B6 :: B7 :: B8 :: B9 :: B10 :: B11 :: B12 :: bkModel tr ty nx tk pl va fa (Int32.ofNat P) dp cm tx (mp_ru nu dn) (mp_ps (mp_q la me tc ts) ps) (mp_s rd pr pv sa pd lo bo co sh se si er of_) sp ke ik bi bt so nr ou ho cl :: Bs) (fun r M' => r = some (.int (sp_price nr f)) ∧ M' = B0 :: B1 :: B2 :: B3 :: B4 :: B5 :: B6 :: B7 :: B8 :: B9 :: B10 :: B11 :: B12 :: bkModel tr ty nx tk pl va fa (Int32.ofNat P) dp cm tx (mp_ru nu dn) (mp_ps (mp_q la me tc ts) ps) (mp_s rd pr pv sa pd lo bo co sh se si er of_) sp ke ik bi bt so nr ou ho cl :: Bs) := by
  show am_Rn sc 147 (0, [some (.ref 416), some (.int f)], [], _) _
  refine am_Rn.go (t := am_t147) rfl 11 rfl ⟨trivial, trivial, trivial, (by first | exact am_inb_lit rfl | exact am_inb_of (by omega) (by omega)), trivial, trivial, trivial, (by first | exact am_inb_lit rfl | exact am_inb_of (by omega) (by omega)), trivial, trivial, trivial, trivial⟩ ?_
  refine am_Rn.ret (t := am_t147) rfl rfl trivial ?_
  exact ⟨rfl, rfl⟩
theorem mm_hasBy (sc : am_Sc) (m w : Nat) (hw : w < m) (hm : m ≤ 3) (ou : Nat → Int32) (h9 : ou w ≤ 9) (tr : Int64) (ty nx tk pl va fa dp cm : Int32) (tx nu dn la me tc ts ps : Nat → Int32) (P : Nat) (rd pr pv sa pd lo : Int32) (bo co sh se si er of_ sp ke ik bi bt so nr ho cl : Nat → Int32) (B0 B1 B2 B3 B4 B5 B6 B7 B8 B9 B10 B11 B12 : List am_E) (Bs : am_M) : am_Rn sc 148 (0, am_entry 148 [.ref 416, .int (Int32.ofNat m), .int (Int32.ofNat w)], [], B0 :: B1 :: B2 :: B3 :: B4 :: B5 :: B6 :: B7 :: B8 :: B9 :: B10 :: B11 :: B12 :: bkModel tr ty nx tk pl va fa (Int32.ofNat P) dp cm tx (mp_ru nu dn) (mp_ps (mp_q la me tc ts) ps) (mp_s rd pr pv sa pd lo bo co sh se si er of_) sp ke ik bi bt so nr ou ho cl :: Bs) (fun r M' => r = some (.int (sp_share nr ou m w)) ∧ M' = B0 :: B1 :: B2 :: B3 :: B4 :: B5 :: B6 :: B7 :: B8 :: B9 :: B10 :: B11 :: B12 :: bkModel tr ty nx tk pl va fa (Int32.ofNat P) dp cm tx (mp_ru nu dn) (mp_ps (mp_q la me tc ts) ps) (mp_s rd pr pv sa pd lo bo co sh se si er of_) sp ke ik bi bt so nr ou ho cl :: Bs) := by
  show am_Rn sc 148 (0, [some (.ref 416), some (.int (Int32.ofNat m)), some (.int (Int32.ofNat w)), none, none, none], [], _) _
  have ew : (Int32.ofNat w).toNatClampNeg = w := am_tn w (by omega)
  have L2 : ∀ (d i : Nat), i + d = m → am_Rn sc 148 (26, [some (.ref 416), some (.int (Int32.ofNat m)), some (.int (Int32.ofNat w)), some (.int (sp_first ou m 9)), some (.int (sp_tog ou i (sp_first ou m 9))), some (.int (Int32.ofNat i))], [], B0 :: B1 :: B2 :: B3 :: B4 :: B5 :: B6 :: B7 :: B8 :: B9 :: B10 :: B11 :: B12 :: bkModel tr ty nx tk pl va fa (Int32.ofNat P) dp cm tx (mp_ru nu dn) (mp_ps (mp_q la me tc ts) ps) (mp_s rd pr pv sa pd lo bo co sh se si er of_) sp ke ik bi bt so nr ou ho cl :: Bs) (fun r M' => r = some (.int (sp_share nr ou m w)) ∧ M' = B0 :: B1 :: B2 :: B3 :: B4 :: B5 :: B6 :: B7 :: B8 :: B9 :: B10 :: B11 :: B12 :: bkModel tr ty nx tk pl va fa (Int32.ofNat P) dp cm tx (mp_ru nu dn) (mp_ps (mp_q la me tc ts) ps) (mp_s rd pr pv sa pd lo bo co sh se si er of_) sp ke ik bi bt so nr ou ho cl :: Bs) := by
    intro d
    induction d with
    | zero =>
      intro i hi
      have hiP : i = m := by omega
      subst i
      rw [sp_share_m hw hm h9]
      rcases Classical.em (ou w = (sp_first ou m 9)) with hf | hf
      · skip
        rw [if_pos hf]
        refine am_Rn.go (t := am_t148) rfl 3 rfl ⟨trivial, trivial, trivial, trivial⟩ ?_
        refine am_Rn.brT (by first | exact (am_le (by omega) (by omega)).mpr (Nat.le_refl _) | exact fun q => absurd ((am_lt (by omega) (by omega)).mp q) (Nat.lt_irrefl _) | exact (am_lt (by omega) (by omega)).mpr (by omega) | decide) ?_
        refine am_Rn.go (t := am_t148) rfl 6 rfl ⟨trivial, trivial, trivial, (by first | exact am_inb_lit rfl | exact am_inb_of (by omega) (by omega)), trivial, trivial, trivial⟩ ?_
        refine am_Rn.brT (by rw [ew]; exact hf) ?_
        refine am_Rn.go (t := am_t148) rfl 2 rfl ⟨trivial, trivial, trivial⟩ ?_
        refine am_Rn.call (t := am_t148) rfl rfl (mm_priceAt ..) ?_
        rintro _ _ ⟨rfl, rfl⟩
        refine am_Rn.go (t := am_t148) rfl 3 rfl ⟨trivial, (by exact sp_tog_ne hw hm hf), trivial, trivial⟩ ?_
        refine am_Rn.ret (t := am_t148) rfl rfl trivial ?_
        exact ⟨rfl, rfl⟩
      · skip
        rw [if_neg hf]
        refine am_Rn.go (t := am_t148) rfl 3 rfl ⟨trivial, trivial, trivial, trivial⟩ ?_
        refine am_Rn.brT (by first | exact (am_le (by omega) (by omega)).mpr (Nat.le_refl _) | exact fun q => absurd ((am_lt (by omega) (by omega)).mp q) (Nat.lt_irrefl _) | exact (am_lt (by omega) (by omega)).mpr (by omega) | decide) ?_
        refine am_Rn.go (t := am_t148) rfl 6 rfl ⟨trivial, trivial, trivial, (by first | exact am_inb_lit rfl | exact am_inb_of (by omega) (by omega)), trivial, trivial, trivial⟩ ?_
        refine am_Rn.brF (by rw [ew]; exact hf) ?_
        refine am_Rn.go (t := am_t148) rfl 4 rfl ⟨trivial, trivial, trivial, (by first | exact am_inb_lit rfl | exact am_inb_of (by omega) (by omega)), trivial⟩ ?_
        refine am_Rn.ret (t := am_t148) rfl rfl trivial ?_
        exact ⟨rfl, rfl⟩
    | succ d ih =>
      intro i hi
      have hiP : i < m := by omega
      have e1 : (Int32.ofNat i).toNatClampNeg = i := am_tn i (by omega)
      have g := ih (i + 1) (by omega)
      rw [show (sp_tog ou (i + 1) (sp_first ou m 9)) = sp_togOne ou (sp_first ou m 9) i (sp_tog ou i (sp_first ou m 9)) from rfl, ← am_inc] at g
      generalize hX : (sp_tog ou i (sp_first ou m 9)) = X at g ⊢
      rcases Classical.em (ou i = (sp_first ou m 9)) with h3 | h3
      · skip
        rw [show sp_togOne ou (sp_first ou m 9) i X = X + 1 by unfold sp_togOne; rw [if_pos h3]] at g
        refine am_Rn.go (t := am_t148) rfl 3 rfl ⟨trivial, trivial, trivial, trivial⟩ ?_
        refine am_Rn.brF (by first | exact fun q => absurd ((am_le (by omega) (by omega)).mp q) (by omega) | exact fun q => absurd ((am_le (i := 9) (by omega) (by omega)).mp q) (by omega) | exact fun q => absurd ((am_le (i := 10) (by omega) (by omega)).mp q) (by omega) | exact fun q => absurd ((am_le (i := 80) (by omega) (by omega)).mp q) (by omega) | exact (am_lt (by omega) (by omega)).mpr hiP | exact fun q => absurd ((am_lt (by omega) (by omega)).mp q) (by omega)) ?_
        refine am_Rn.go (t := am_t148) rfl 7 rfl ⟨trivial, trivial, trivial, trivial, (by first | exact am_inb_lit rfl | exact am_inb_of (by omega) (by omega)), trivial, trivial, trivial⟩ ?_
        refine am_Rn.brT (by rw [e1]; exact h3) ?_
        refine am_Rn.go (t := am_t148) rfl 6 rfl ⟨trivial, trivial, trivial, trivial, trivial, trivial, trivial⟩ ?_
        exact g
      · skip
        rw [show sp_togOne ou (sp_first ou m 9) i X = X + 0 by unfold sp_togOne; rw [if_neg h3]] at g
        refine am_Rn.go (t := am_t148) rfl 3 rfl ⟨trivial, trivial, trivial, trivial⟩ ?_
        refine am_Rn.brF (by first | exact fun q => absurd ((am_le (by omega) (by omega)).mp q) (by omega) | exact fun q => absurd ((am_le (i := 9) (by omega) (by omega)).mp q) (by omega) | exact fun q => absurd ((am_le (i := 10) (by omega) (by omega)).mp q) (by omega) | exact fun q => absurd ((am_le (i := 80) (by omega) (by omega)).mp q) (by omega) | exact (am_lt (by omega) (by omega)).mpr hiP | exact fun q => absurd ((am_lt (by omega) (by omega)).mp q) (by omega)) ?_
        refine am_Rn.go (t := am_t148) rfl 7 rfl ⟨trivial, trivial, trivial, trivial, (by first | exact am_inb_lit rfl | exact am_inb_of (by omega) (by omega)), trivial, trivial, trivial⟩ ?_
        refine am_Rn.brF (by rw [e1]; exact h3) ?_
        refine am_Rn.go (t := am_t148) rfl 5 rfl ⟨trivial, trivial, trivial, trivial, trivial, trivial⟩ ?_
        exact g
  have L : ∀ (d i : Nat), i + d = m → am_Rn sc 148 (6, [some (.ref 416), some (.int (Int32.ofNat m)), some (.int (Int32.ofNat w)), some (.int (sp_first ou i 9)), some (.int 0), some (.int (Int32.ofNat i))], [], B0 :: B1 :: B2 :: B3 :: B4 :: B5 :: B6 :: B7 :: B8 :: B9 :: B10 :: B11 :: B12 :: bkModel tr ty nx tk pl va fa (Int32.ofNat P) dp cm tx (mp_ru nu dn) (mp_ps (mp_q la me tc ts) ps) (mp_s rd pr pv sa pd lo bo co sh se si er of_) sp ke ik bi bt so nr ou ho cl :: Bs) (fun r M' => r = some (.int (sp_share nr ou m w)) ∧ M' = B0 :: B1 :: B2 :: B3 :: B4 :: B5 :: B6 :: B7 :: B8 :: B9 :: B10 :: B11 :: B12 :: bkModel tr ty nx tk pl va fa (Int32.ofNat P) dp cm tx (mp_ru nu dn) (mp_ps (mp_q la me tc ts) ps) (mp_s rd pr pv sa pd lo bo co sh se si er of_) sp ke ik bi bt so nr ou ho cl :: Bs) := by
    intro d
    induction d with
    | zero =>
      intro i  hi
      have hiP : i = m := by omega
      subst i
      refine am_Rn.go (t := am_t148) rfl 3 rfl ⟨trivial, trivial, trivial, trivial⟩ ?_
      refine am_Rn.brT (by first | exact (am_le (by omega) (by omega)).mpr (Nat.le_refl _) | exact fun q => absurd ((am_lt (by omega) (by omega)).mp q) (Nat.lt_irrefl _) | exact (am_lt (by omega) (by omega)).mpr (by omega) | decide) ?_
      refine am_Rn.go (t := am_t148) rfl 2 rfl ⟨trivial, trivial, trivial⟩ ?_
      exact L2 m 0 (by omega)
    | succ d ih =>
      intro i  hi
      have hiP : i < m := by omega
      have e1 : (Int32.ofNat i).toNatClampNeg = i := am_tn i (by omega)
      have g := ih (i + 1) (by omega)
      rw [show (sp_first ou (i + 1) 9) = sp_minOne ou i (sp_first ou i 9) from rfl, ← am_inc] at g
      generalize hX : (sp_first ou i 9) = X at g ⊢
      rcases Classical.em (ou i < X) with h3 | h3
      · skip
        rw [show sp_minOne ou i X = ou i from if_pos h3] at g
        refine am_Rn.go (t := am_t148) rfl 3 rfl ⟨trivial, trivial, trivial, trivial⟩ ?_
        refine am_Rn.brF (by first | exact fun q => absurd ((am_le (by omega) (by omega)).mp q) (by omega) | exact fun q => absurd ((am_le (i := 9) (by omega) (by omega)).mp q) (by omega) | exact fun q => absurd ((am_le (i := 10) (by omega) (by omega)).mp q) (by omega) | exact fun q => absurd ((am_le (i := 80) (by omega) (by omega)).mp q) (by omega) | exact (am_lt (by omega) (by omega)).mpr hiP | exact fun q => absurd ((am_lt (by omega) (by omega)).mp q) (by omega)) ?_
        refine am_Rn.go (t := am_t148) rfl 6 rfl ⟨trivial, trivial, trivial, (by first | exact am_inb_lit rfl | exact am_inb_of (by omega) (by omega)), trivial, trivial, trivial⟩ ?_
        refine am_Rn.brF (by rw [e1]; exact Int32.not_le.mpr h3) ?_
        refine am_Rn.go (t := am_t148) rfl 8 rfl ⟨trivial, trivial, trivial, (by first | exact am_inb_lit rfl | exact am_inb_of (by omega) (by omega)), trivial, trivial, trivial, trivial, trivial⟩ ?_
        rw [e1]
        exact g
      · skip
        rw [show sp_minOne ou i X = X from if_neg h3] at g
        refine am_Rn.go (t := am_t148) rfl 3 rfl ⟨trivial, trivial, trivial, trivial⟩ ?_
        refine am_Rn.brF (by first | exact fun q => absurd ((am_le (by omega) (by omega)).mp q) (by omega) | exact fun q => absurd ((am_le (i := 9) (by omega) (by omega)).mp q) (by omega) | exact fun q => absurd ((am_le (i := 10) (by omega) (by omega)).mp q) (by omega) | exact fun q => absurd ((am_le (i := 80) (by omega) (by omega)).mp q) (by omega) | exact (am_lt (by omega) (by omega)).mpr hiP | exact fun q => absurd ((am_lt (by omega) (by omega)).mp q) (by omega)) ?_
        refine am_Rn.go (t := am_t148) rfl 6 rfl ⟨trivial, trivial, trivial, (by first | exact am_inb_lit rfl | exact am_inb_of (by omega) (by omega)), trivial, trivial, trivial⟩ ?_
        refine am_Rn.brT (by rw [e1]; exact Int32.not_lt.mp h3) ?_
        refine am_Rn.go (t := am_t148) rfl 4 rfl ⟨trivial, trivial, trivial, trivial, trivial⟩ ?_
        exact g
  refine am_Rn.go (t := am_t148) rfl 6 rfl ⟨trivial, trivial, trivial, trivial, trivial, trivial, trivial⟩ ?_
  exact L m 0 (by omega)
theorem mm_isRest (sc : am_Sc) (m l : Nat) (hm : m ≤ 3) (hl : l ≤ 8) (ou : Nat → Int32) (h9 : ∀ w, w < m → ou w ≤ 9) (tr : Int64) (ty nx tk pl va fa dp cm : Int32) (tx nu dn la me tc ts ps : Nat → Int32) (P : Nat) (rd pr pv sa pd lo : Int32) (bo co sh se si er of_ sp ke ik bi bt so nr ho cl : Nat → Int32) (B0 B1 B2 B3 B4 B5 B6 B7 B8 B9 B10 B11 B12 : List am_E) (Bs : am_M) : am_Rn sc 149 (0, am_entry 149 [.ref 416, .int (Int32.ofNat m), .int (Int32.ofNat l)], [], B0 :: B1 :: B2 :: B3 :: B4 :: B5 :: B6 :: B7 :: B8 :: B9 :: B10 :: B11 :: B12 :: bkModel tr ty nx tk pl va fa (Int32.ofNat P) dp cm tx (mp_ru nu dn) (mp_ps (mp_q la me tc ts) ps) (mp_s rd pr pv sa pd lo bo co sh se si er of_) sp ke ik bi bt so nr ou ho cl :: Bs) (fun r M' => r = some (.int (am_b (sp_rest nr ou m l = true))) ∧ M' = B0 :: B1 :: B2 :: B3 :: B4 :: B5 :: B6 :: B7 :: B8 :: B9 :: B10 :: B11 :: B12 :: bkModel tr ty nx tk pl va fa (Int32.ofNat P) dp cm tx (mp_ru nu dn) (mp_ps (mp_q la me tc ts) ps) (mp_s rd pr pv sa pd lo bo co sh se si er of_) sp ke ik bi bt so nr ou ho cl :: Bs) := by
  show am_Rn sc 149 (0, [some (.ref 416), some (.int (Int32.ofNat m)), some (.int (Int32.ofNat l)), none, none, none, none, none], [], _) _
  have LI : ∀ (i : Nat), i < m → ∀ (B : Bool) (K : Option Value → am_M → Prop), (∀ (v : Int32), am_Rn sc 149 (41, [some (.ref 416), some (.int (Int32.ofNat m)), some (.int (Int32.ofNat l)), some (.int (am_b ((B && (am_fold (l + 1) (sp_stayOne nr ou m i (sp_share nr ou m i)) true)) = true))), some (.int (Int32.ofNat i)), some (.int (sp_share nr ou m i)), some (.int (ou i)), some (.int (Int32.ofNat (l + 1)))], [], B0 :: B1 :: B2 :: B3 :: B4 :: B5 :: B6 :: B7 :: B8 :: B9 :: B10 :: B11 :: B12 :: bkModel tr ty nx tk pl va fa (Int32.ofNat P) dp cm tx (mp_ru nu dn) (mp_ps (mp_q la me tc ts) ps) (mp_s rd pr pv sa pd lo bo co sh se si er of_) sp ke ik bi bt so nr (upd ou i v) ho cl :: Bs) K) → ∀ (d j : Nat) (v : Int32), j + d = l + 1 → am_Rn sc 149 (19, [some (.ref 416), some (.int (Int32.ofNat m)), some (.int (Int32.ofNat l)), some (.int (am_b ((B && (am_fold j (sp_stayOne nr ou m i (sp_share nr ou m i)) true)) = true))), some (.int (Int32.ofNat i)), some (.int (sp_share nr ou m i)), some (.int (ou i)), some (.int (Int32.ofNat j))], [], B0 :: B1 :: B2 :: B3 :: B4 :: B5 :: B6 :: B7 :: B8 :: B9 :: B10 :: B11 :: B12 :: bkModel tr ty nx tk pl va fa (Int32.ofNat P) dp cm tx (mp_ru nu dn) (mp_ps (mp_q la me tc ts) ps) (mp_s rd pr pv sa pd lo bo co sh se si er of_) sp ke ik bi bt so nr (upd ou i v) ho cl :: Bs) K := by
    intro i him B K hk d
    have e2 : (Int32.ofNat i).toNatClampNeg = i := am_tn i (by omega)
    induction d with
    | zero =>
      intro j v hj
      have hjP : j = l + 1 := by omega
      subst j
      refine am_Rn.go (t := am_t149) rfl 3 rfl ⟨trivial, trivial, trivial, trivial⟩ ?_
      refine am_Rn.brT ((am_lt (by omega) (by omega)).mpr (by omega)) ?_
      exact hk v
    | succ d ih =>
      intro j v hj
      have g := ih (j + 1) (Int32.ofNat j) (by omega)
      rw [am_fold_succ j (sp_stayOne nr ou m i (sp_share nr ou m i)), ← am_inc] at g
      generalize hX : (am_fold j (sp_stayOne nr ou m i (sp_share nr ou m i)) true) = X at g ⊢
      rcases Classical.em (sp_share nr (upd ou i (Int32.ofNat j)) m i ≤ sp_share nr ou m i) with h3 | h3
      · skip
        refine am_Rn.go (t := am_t149) rfl 3 rfl ⟨trivial, trivial, trivial, trivial⟩ ?_
        refine am_Rn.brF (fun q => absurd ((am_lt (by omega) (by omega)).mp q) (by omega)) ?_
        refine am_Rn.go (t := am_t149) rfl 5 rfl ⟨trivial, trivial, trivial, trivial, (by exact am_inb_of (by omega) (by omega)), trivial⟩ ?_
        show am_Rn sc 149 (27, _, _, B0 :: B1 :: B2 :: B3 :: B4 :: B5 :: B6 :: B7 :: B8 :: B9 :: B10 :: B11 :: B12 :: bkModel tr ty nx tk pl va fa (Int32.ofNat P) dp cm tx (mp_ru nu dn) (mp_ps (mp_q la me tc ts) ps) (mp_s rd pr pv sa pd lo bo co sh se si er of_) sp ke ik bi bt so nr (upd (upd ou i v) (Int32.ofNat i).toNatClampNeg (Int32.ofNat j)) ho cl :: Bs) _
        rw [e2, am_upd_upd]
        refine am_Rn.go (t := am_t149) rfl 4 rfl ⟨trivial, trivial, trivial, trivial, trivial⟩ ?_
        refine am_Rn.call (t := am_t149) rfl rfl (mm_hasBy sc m i him hm (upd ou i (Int32.ofNat j)) (by rw [mp_upd_eq]; exact (am_le (j := 9) (by omega) (by omega)).mpr (by omega)) ..) ?_
        rintro _ _ ⟨rfl, rfl⟩
        refine am_Rn.go (t := am_t149) rfl 2 rfl ⟨trivial, trivial, trivial⟩ ?_
        refine am_Rn.brF (Int32.not_lt.mpr h3) ?_
        refine am_Rn.go (t := am_t149) rfl 6 rfl ⟨trivial, trivial, trivial, trivial, trivial, trivial, trivial⟩ ?_
        rw [am_band1]
        rw [show sp_stayOne nr ou m i (sp_share nr ou m i) j X = X by unfold sp_stayOne; rw [decide_eq_true h3, Bool.and_true]] at g
        exact g
      · skip
        refine am_Rn.go (t := am_t149) rfl 3 rfl ⟨trivial, trivial, trivial, trivial⟩ ?_
        refine am_Rn.brF (fun q => absurd ((am_lt (by omega) (by omega)).mp q) (by omega)) ?_
        refine am_Rn.go (t := am_t149) rfl 5 rfl ⟨trivial, trivial, trivial, trivial, (by exact am_inb_of (by omega) (by omega)), trivial⟩ ?_
        show am_Rn sc 149 (27, _, _, B0 :: B1 :: B2 :: B3 :: B4 :: B5 :: B6 :: B7 :: B8 :: B9 :: B10 :: B11 :: B12 :: bkModel tr ty nx tk pl va fa (Int32.ofNat P) dp cm tx (mp_ru nu dn) (mp_ps (mp_q la me tc ts) ps) (mp_s rd pr pv sa pd lo bo co sh se si er of_) sp ke ik bi bt so nr (upd (upd ou i v) (Int32.ofNat i).toNatClampNeg (Int32.ofNat j)) ho cl :: Bs) _
        rw [e2, am_upd_upd]
        refine am_Rn.go (t := am_t149) rfl 4 rfl ⟨trivial, trivial, trivial, trivial, trivial⟩ ?_
        refine am_Rn.call (t := am_t149) rfl rfl (mm_hasBy sc m i him hm (upd ou i (Int32.ofNat j)) (by rw [mp_upd_eq]; exact (am_le (j := 9) (by omega) (by omega)).mpr (by omega)) ..) ?_
        rintro _ _ ⟨rfl, rfl⟩
        refine am_Rn.go (t := am_t149) rfl 2 rfl ⟨trivial, trivial, trivial⟩ ?_
        refine am_Rn.brT (Int32.not_le.mp h3) ?_
        refine am_Rn.go (t := am_t149) rfl 5 rfl ⟨trivial, trivial, trivial, trivial, trivial, trivial⟩ ?_
        rw [am_band0]
        rw [show sp_stayOne nr ou m i (sp_share nr ou m i) j X = false by unfold sp_stayOne; rw [decide_eq_false h3, Bool.and_false], Bool.and_false] at g
        exact g
  have L : ∀ (d i : Nat) (x5 x6 x7 : Option Value), i + d = m → am_Rn sc 149 (4, [some (.ref 416), some (.int (Int32.ofNat m)), some (.int (Int32.ofNat l)), some (.int (am_b ((am_fold i (sp_restOne nr ou m l) true) = true))), some (.int (Int32.ofNat i)), x5, x6, x7], [], B0 :: B1 :: B2 :: B3 :: B4 :: B5 :: B6 :: B7 :: B8 :: B9 :: B10 :: B11 :: B12 :: bkModel tr ty nx tk pl va fa (Int32.ofNat P) dp cm tx (mp_ru nu dn) (mp_ps (mp_q la me tc ts) ps) (mp_s rd pr pv sa pd lo bo co sh se si er of_) sp ke ik bi bt so nr ou ho cl :: Bs) (fun r M' => r = some (.int (am_b (sp_rest nr ou m l = true))) ∧ M' = B0 :: B1 :: B2 :: B3 :: B4 :: B5 :: B6 :: B7 :: B8 :: B9 :: B10 :: B11 :: B12 :: bkModel tr ty nx tk pl va fa (Int32.ofNat P) dp cm tx (mp_ru nu dn) (mp_ps (mp_q la me tc ts) ps) (mp_s rd pr pv sa pd lo bo co sh se si er of_) sp ke ik bi bt so nr ou ho cl :: Bs) := by
    intro d
    induction d with
    | zero =>
      intro i x5 x6 x7 hi
      have hiP : i = m := by omega
      subst i
      refine am_Rn.go (t := am_t149) rfl 3 rfl ⟨trivial, trivial, trivial, trivial⟩ ?_
      refine am_Rn.brT (by first | exact (am_le (by omega) (by omega)).mpr (Nat.le_refl _) | exact fun q => absurd ((am_lt (by omega) (by omega)).mp q) (Nat.lt_irrefl _) | exact (am_lt (by omega) (by omega)).mpr (by omega) | decide) ?_
      refine am_Rn.go (t := am_t149) rfl 1 rfl ⟨trivial, trivial⟩ ?_
      refine am_Rn.ret (t := am_t149) rfl rfl (by first | exact Or.inl rfl | exact Or.inr rfl | exact am_b01 _) ?_
      exact ⟨rfl, rfl⟩
    | succ d ih =>
      intro i x5 x6 x7 hi
      have hiP : i < m := by omega
      have e1 : (Int32.ofNat i).toNatClampNeg = i := am_tn i (by omega)
      refine am_Rn.go (t := am_t149) rfl 3 rfl ⟨trivial, trivial, trivial, trivial⟩ ?_
      refine am_Rn.brF (by first | exact fun q => absurd ((am_le (by omega) (by omega)).mp q) (by omega) | exact fun q => absurd ((am_le (i := 9) (by omega) (by omega)).mp q) (by omega) | exact fun q => absurd ((am_le (i := 10) (by omega) (by omega)).mp q) (by omega) | exact fun q => absurd ((am_le (i := 80) (by omega) (by omega)).mp q) (by omega) | exact (am_lt (by omega) (by omega)).mpr hiP | exact fun q => absurd ((am_lt (by omega) (by omega)).mp q) (by omega)) ?_
      refine am_Rn.go (t := am_t149) rfl 3 rfl ⟨trivial, trivial, trivial, trivial⟩ ?_
      refine am_Rn.call (t := am_t149) rfl rfl (mm_hasBy sc m i hiP hm ou (h9 i hiP) ..) ?_
      rintro _ _ ⟨rfl, rfl⟩
      refine am_Rn.go (t := am_t149) rfl 5 rfl ⟨trivial, trivial, trivial, trivial, (by first | exact am_inb_lit rfl | exact am_inb_of (by omega) (by omega)), trivial⟩ ?_
      show am_Rn sc 149 (16, _, _, B0 :: B1 :: B2 :: B3 :: B4 :: B5 :: B6 :: B7 :: B8 :: B9 :: B10 :: B11 :: B12 :: bkModel tr ty nx tk pl va fa (Int32.ofNat P) dp cm tx (mp_ru nu dn) (mp_ps (mp_q la me tc ts) ps) (mp_s rd pr pv sa pd lo bo co sh se si er of_) sp ke ik bi bt so nr ou ho cl :: Bs) _
      rw [e1]
      refine am_Rn.go (t := am_t149) rfl 3 rfl ⟨trivial, trivial, trivial, trivial⟩ ?_
      have hk : ∀ (v : Int32), am_Rn sc 149 (41, [some (.ref 416), some (.int (Int32.ofNat m)), some (.int (Int32.ofNat l)), some (.int (am_b (((am_fold i (sp_restOne nr ou m l) true) && (am_fold (l + 1) (sp_stayOne nr ou m i (sp_share nr ou m i)) true)) = true))), some (.int (Int32.ofNat i)), some (.int (sp_share nr ou m i)), some (.int (ou i)), some (.int (Int32.ofNat (l + 1)))], [], B0 :: B1 :: B2 :: B3 :: B4 :: B5 :: B6 :: B7 :: B8 :: B9 :: B10 :: B11 :: B12 :: bkModel tr ty nx tk pl va fa (Int32.ofNat P) dp cm tx (mp_ru nu dn) (mp_ps (mp_q la me tc ts) ps) (mp_s rd pr pv sa pd lo bo co sh se si er of_) sp ke ik bi bt so nr (upd ou i v) ho cl :: Bs) (fun r M' => r = some (.int (am_b (sp_rest nr ou m l = true))) ∧ M' = B0 :: B1 :: B2 :: B3 :: B4 :: B5 :: B6 :: B7 :: B8 :: B9 :: B10 :: B11 :: B12 :: bkModel tr ty nx tk pl va fa (Int32.ofNat P) dp cm tx (mp_ru nu dn) (mp_ps (mp_q la me tc ts) ps) (mp_s rd pr pv sa pd lo bo co sh se si er of_) sp ke ik bi bt so nr ou ho cl :: Bs) := by
        intro v
        refine am_Rn.go (t := am_t149) rfl 5 rfl ⟨trivial, trivial, trivial, trivial, (by first | exact am_inb_lit rfl | exact am_inb_of (by omega) (by omega)), trivial⟩ ?_
        show am_Rn sc 149 (46, _, _, B0 :: B1 :: B2 :: B3 :: B4 :: B5 :: B6 :: B7 :: B8 :: B9 :: B10 :: B11 :: B12 :: bkModel tr ty nx tk pl va fa (Int32.ofNat P) dp cm tx (mp_ru nu dn) (mp_ps (mp_q la me tc ts) ps) (mp_s rd pr pv sa pd lo bo co sh se si er of_) sp ke ik bi bt so nr (upd (upd ou i v) (Int32.ofNat i).toNatClampNeg (ou i)) ho cl :: Bs) _
        rw [e1, am_upd_upd, am_upd_self]
        refine am_Rn.go (t := am_t149) rfl 2 rfl ⟨trivial, trivial, trivial⟩ ?_
        have g := ih (i + 1) (some (.int (sp_share nr ou m i))) (some (.int (ou i))) (some (.int (Int32.ofNat (l + 1)))) (by omega)
        rw [am_fold_succ i (sp_restOne nr ou m l), ← am_inc] at g
        exact g
      have g := LI i hiP (am_fold i (sp_restOne nr ou m l) true) _ hk (l + 1) 0 (ou i) (by omega)
      rw [am_upd_self, show ((am_fold i (sp_restOne nr ou m l) true) && am_fold 0 (sp_stayOne nr ou m i (sp_share nr ou m i)) true) = (am_fold i (sp_restOne nr ou m l) true) from Bool.and_true _] at g
      exact g
  refine am_Rn.go (t := am_t149) rfl 4 rfl ⟨trivial, trivial, trivial, trivial, trivial⟩ ?_
  exact L m 0 _ _ _ (by omega)
/-- a row of figures, read as rounds -/
def sp_rowOk (nr : Nat → Int32) (m l row : Nat) : Bool := if m ≤ 2 then decide (row / 10 ≤ l) && decide (row % 10 ≤ l) && sp_rest nr (sp_tri (row / 10) (row % 10) 0) m l else decide (row / 100 ≤ l) && decide (row / 10 % 10 ≤ l) && decide (row % 10 ≤ l) && sp_rest nr (sp_tri (row / 100) (row / 10 % 10) (row % 10)) m l
def sp_rowOne (nr : Nat → Int32) (m l row : Nat) (X : Int32 × Int32) : Int32 × Int32 := if sp_rowOk nr m l row = true then (X.1 + 1, if X.1 = 0 then Int32.ofNat row else X.2) else X
set_option maxHeartbeats 2000000 in
theorem mm_rests2 (sc : am_Sc) (l : Nat) (hl1 : 1 ≤ l) (hl : l ≤ 8) (w : Int32) (hw : 0 ≤ w ∧ w ≤ 1) (tr : Int64) (ty nx tk pl va fa dp cm : Int32) (tx nu dn la me tc ts ps : Nat → Int32) (P : Nat) (rd pr pv sa pd lo : Int32) (bo co sh se si er of_ sp ke ik bi bt so nr ou ho cl : Nat → Int32) (B0 B1 B2 B3 B4 B5 B6 B7 B8 B9 B10 B11 B12 : List am_E) (Bs : am_M) : am_Rn sc 150 (0, am_entry 150 [.ref 416, .int 2, .int (Int32.ofNat l), .int w], [], B0 :: B1 :: B2 :: B3 :: B4 :: B5 :: B6 :: B7 :: B8 :: B9 :: B10 :: B11 :: B12 :: bkModel tr ty nx tk pl va fa (Int32.ofNat P) dp cm tx (mp_ru nu dn) (mp_ps (mp_q la me tc ts) ps) (mp_s rd pr pv sa pd lo bo co sh se si er of_) sp ke ik bi bt so nr ou ho cl :: Bs) (fun r M' => r = some (.int (if w = 0 then (am_fold 100 (sp_rowOne nr 2 l) (0, -9)).1 else (am_fold 100 (sp_rowOne nr 2 l) (0, -9)).2)) ∧ ∃ ou, M' = B0 :: B1 :: B2 :: B3 :: B4 :: B5 :: B6 :: B7 :: B8 :: B9 :: B10 :: B11 :: B12 :: bkModel tr ty nx tk pl va fa (Int32.ofNat P) dp cm tx (mp_ru nu dn) (mp_ps (mp_q la me tc ts) ps) (mp_s rd pr pv sa pd lo bo co sh se si er of_) sp ke ik bi bt so nr ou ho cl :: Bs) := by
  show am_Rn sc 150 (0, [some (.ref 416), some (.int 2), some (.int (Int32.ofNat l)), some (.int w), none, none, none, none, none, none], [], _) _
  have L : ∀ (d i : Nat) (ou : Nat → Int32) (x7 x8 x9 : Option Value), i + d = 100 → am_Rn sc 150 (26, [some (.ref 416), some (.int 2), some (.int (Int32.ofNat l)), some (.int w), some (.int (am_fold i (sp_rowOne nr 2 l) (0, -9)).1), some (.int (am_fold i (sp_rowOne nr 2 l) (0, -9)).2), some (.int (Int32.ofNat i)), x7, x8, x9], [], B0 :: B1 :: B2 :: B3 :: B4 :: B5 :: B6 :: B7 :: B8 :: B9 :: B10 :: B11 :: B12 :: bkModel tr ty nx tk pl va fa (Int32.ofNat P) dp cm tx (mp_ru nu dn) (mp_ps (mp_q la me tc ts) ps) (mp_s rd pr pv sa pd lo bo co sh se si er of_) sp ke ik bi bt so nr ou ho cl :: Bs) (fun r M' => r = some (.int (if w = 0 then (am_fold 100 (sp_rowOne nr 2 l) (0, -9)).1 else (am_fold 100 (sp_rowOne nr 2 l) (0, -9)).2)) ∧ ∃ ou, M' = B0 :: B1 :: B2 :: B3 :: B4 :: B5 :: B6 :: B7 :: B8 :: B9 :: B10 :: B11 :: B12 :: bkModel tr ty nx tk pl va fa (Int32.ofNat P) dp cm tx (mp_ru nu dn) (mp_ps (mp_q la me tc ts) ps) (mp_s rd pr pv sa pd lo bo co sh se si er of_) sp ke ik bi bt so nr ou ho cl :: Bs) := by
    intro d
    induction d with
    | zero =>
      intro i ou x7 x8 x9 hi
      have hiP : i = 100 := by omega
      subst i
      refine am_Rn.go (t := am_t150) rfl 4 rfl ⟨trivial, trivial, trivial, trivial, trivial⟩ ?_
      refine am_Rn.brT (by decide) ?_
      refine am_Rn.go (t := am_t150) rfl 3 rfl ⟨trivial, trivial, trivial, trivial⟩ ?_
      refine am_Rn.brT (by decide) ?_
      refine am_Rn.go (t := am_t150) rfl 2 rfl ⟨trivial, trivial, trivial⟩ ?_
      refine am_Rn.br (fun h3 => ?_) (fun h3 => ?_)
      · skip
        refine am_Rn.go (t := am_t150) rfl 2 rfl ⟨trivial, trivial, trivial⟩ ?_
        refine am_Rn.ret (t := am_t150) rfl rfl trivial ?_
        refine ⟨congrArg (fun z => some (Value.int z)) ?_, ou, rfl⟩
        first
          | exact (if_pos (by assumption)).symm
          | exact (if_neg (by assumption)).symm
      · skip
        refine am_Rn.go (t := am_t150) rfl 1 rfl ⟨trivial, trivial⟩ ?_
        refine am_Rn.ret (t := am_t150) rfl rfl trivial ?_
        refine ⟨congrArg (fun z => some (Value.int z)) ?_, ou, rfl⟩
        first
          | exact (if_pos (by assumption)).symm
          | exact (if_neg (by assumption)).symm
    | succ d ih =>
      intro i ou x7 x8 x9 hi
      have hiP : i < 100 := by omega
      refine am_Rn.go (t := am_t150) rfl 4 rfl ⟨trivial, trivial, trivial, trivial, trivial⟩ ?_
      refine am_Rn.brT (by decide) ?_
      refine am_Rn.go (t := am_t150) rfl 3 rfl ⟨trivial, trivial, trivial, trivial⟩ ?_
      refine am_Rn.brF (fun q => absurd ((am_le (i := 100) (by omega) (by omega)).mp q) (by omega)) ?_
      refine am_Rn.go (t := am_t150) rfl 8 rfl ⟨trivial, trivial, trivial, trivial, trivial, trivial, trivial, trivial, trivial⟩ ?_
      show am_Rn sc 150 (42, [some (.ref 416), some (.int 2), some (.int (Int32.ofNat l)), some (.int w), some (.int (am_fold i (sp_rowOne nr 2 l) (0, -9)).1), some (.int (am_fold i (sp_rowOne nr 2 l) (0, -9)).2), some (.int (Int32.ofNat i)), some (.int (Int32.ofNat (i))), some (.int 1), some (.int 1)], [], B0 :: B1 :: B2 :: B3 :: B4 :: B5 :: B6 :: B7 :: B8 :: B9 :: B10 :: B11 :: B12 :: bkModel tr ty nx tk pl va fa (Int32.ofNat P) dp cm tx (mp_ru nu dn) (mp_ps (mp_q la me tc ts) ps) (mp_s rd pr pv sa pd lo bo co sh se si er of_) sp ke ik bi bt so nr ou ho cl :: Bs) _
      rcases Classical.em (i % 10 ≤ l) with hd0 | hd0
      · skip
        refine am_Rn.go (t := am_t150) rfl 2 rfl ⟨trivial, trivial, trivial⟩ ?_
        refine am_Rn.brF (by decide) ?_
        refine am_Rn.go (t := am_t150) rfl 7 rfl ⟨trivial, trivial, trivial, trivial, trivial, (by decide), (by exact am_inb_lit rfl), trivial⟩ ?_
        show am_Rn sc 150 (51, _, _, B0 :: B1 :: B2 :: B3 :: B4 :: B5 :: B6 :: B7 :: B8 :: B9 :: B10 :: B11 :: B12 :: bkModel tr ty nx tk pl va fa (Int32.ofNat P) dp cm tx (mp_ru nu dn) (mp_ps (mp_q la me tc ts) ps) (mp_s rd pr pv sa pd lo bo co sh se si er of_) sp ke ik bi bt so nr (upd ou 1 (Int32.ofNat (i) - Int32.ofNat (i) / 10 * 10)) ho cl :: Bs) _
        rw [am_rem10 (n := i) (by omega)]
        refine am_Rn.go (t := am_t150) rfl 4 rfl ⟨trivial, trivial, (by decide), trivial, trivial⟩ ?_
        show am_Rn sc 150 (55, _, _, B0 :: B1 :: B2 :: B3 :: B4 :: B5 :: B6 :: B7 :: B8 :: B9 :: B10 :: B11 :: B12 :: bkModel tr ty nx tk pl va fa (Int32.ofNat P) dp cm tx (mp_ru nu dn) (mp_ps (mp_q la me tc ts) ps) (mp_s rd pr pv sa pd lo bo co sh se si er of_) sp ke ik bi bt so nr (upd ou 1 (Int32.ofNat (i % 10))) ho cl :: Bs) _
        rw [am_div10 (n := i) (by omega)]
        refine am_Rn.go (t := am_t150) rfl 7 rfl ⟨trivial, trivial, trivial, trivial, (by exact am_inb_lit rfl), trivial, trivial, trivial⟩ ?_
        refine am_Rn.brF (fun q => absurd ((am_lt (by omega) (by omega)).mp q) (by omega)) ?_
        refine am_Rn.go (t := am_t150) rfl 6 rfl ⟨trivial, trivial, trivial, trivial, trivial, trivial, trivial⟩ ?_
        show am_Rn sc 150 (42, [some (.ref 416), some (.int 2), some (.int (Int32.ofNat l)), some (.int w), some (.int (am_fold i (sp_rowOne nr 2 l) (0, -9)).1), some (.int (am_fold i (sp_rowOne nr 2 l) (0, -9)).2), some (.int (Int32.ofNat i)), some (.int (Int32.ofNat (i / 10))), some (.int 1), some (.int 0)], [], B0 :: B1 :: B2 :: B3 :: B4 :: B5 :: B6 :: B7 :: B8 :: B9 :: B10 :: B11 :: B12 :: bkModel tr ty nx tk pl va fa (Int32.ofNat P) dp cm tx (mp_ru nu dn) (mp_ps (mp_q la me tc ts) ps) (mp_s rd pr pv sa pd lo bo co sh se si er of_) sp ke ik bi bt so nr (upd ou 1 (Int32.ofNat (i % 10))) ho cl :: Bs) _
        rcases Classical.em (i / 10 % 10 ≤ l) with hd1 | hd1
        · skip
          refine am_Rn.go (t := am_t150) rfl 2 rfl ⟨trivial, trivial, trivial⟩ ?_
          refine am_Rn.brF (by decide) ?_
          refine am_Rn.go (t := am_t150) rfl 7 rfl ⟨trivial, trivial, trivial, trivial, trivial, (by decide), (by exact am_inb_lit rfl), trivial⟩ ?_
          show am_Rn sc 150 (51, _, _, B0 :: B1 :: B2 :: B3 :: B4 :: B5 :: B6 :: B7 :: B8 :: B9 :: B10 :: B11 :: B12 :: bkModel tr ty nx tk pl va fa (Int32.ofNat P) dp cm tx (mp_ru nu dn) (mp_ps (mp_q la me tc ts) ps) (mp_s rd pr pv sa pd lo bo co sh se si er of_) sp ke ik bi bt so nr (upd (upd ou 1 (Int32.ofNat (i % 10))) 0 (Int32.ofNat (i / 10) - Int32.ofNat (i / 10) / 10 * 10)) ho cl :: Bs) _
          rw [am_rem10 (n := i / 10) (by omega)]
          refine am_Rn.go (t := am_t150) rfl 4 rfl ⟨trivial, trivial, (by decide), trivial, trivial⟩ ?_
          show am_Rn sc 150 (55, _, _, B0 :: B1 :: B2 :: B3 :: B4 :: B5 :: B6 :: B7 :: B8 :: B9 :: B10 :: B11 :: B12 :: bkModel tr ty nx tk pl va fa (Int32.ofNat P) dp cm tx (mp_ru nu dn) (mp_ps (mp_q la me tc ts) ps) (mp_s rd pr pv sa pd lo bo co sh se si er of_) sp ke ik bi bt so nr (upd (upd ou 1 (Int32.ofNat (i % 10))) 0 (Int32.ofNat (i / 10 % 10))) ho cl :: Bs) _
          rw [am_div10 (n := i / 10) (by omega)]
          refine am_Rn.go (t := am_t150) rfl 7 rfl ⟨trivial, trivial, trivial, trivial, (by exact am_inb_lit rfl), trivial, trivial, trivial⟩ ?_
          refine am_Rn.brF (fun q => absurd ((am_lt (by omega) (by omega)).mp q) (by omega)) ?_
          refine am_Rn.go (t := am_t150) rfl 6 rfl ⟨trivial, trivial, trivial, trivial, trivial, trivial, trivial⟩ ?_
          show am_Rn sc 150 (42, [some (.ref 416), some (.int 2), some (.int (Int32.ofNat l)), some (.int w), some (.int (am_fold i (sp_rowOne nr 2 l) (0, -9)).1), some (.int (am_fold i (sp_rowOne nr 2 l) (0, -9)).2), some (.int (Int32.ofNat i)), some (.int (Int32.ofNat (i / 10 / 10))), some (.int 1), some (.int (-1))], [], B0 :: B1 :: B2 :: B3 :: B4 :: B5 :: B6 :: B7 :: B8 :: B9 :: B10 :: B11 :: B12 :: bkModel tr ty nx tk pl va fa (Int32.ofNat P) dp cm tx (mp_ru nu dn) (mp_ps (mp_q la me tc ts) ps) (mp_s rd pr pv sa pd lo bo co sh se si er of_) sp ke ik bi bt so nr (upd (upd ou 1 (Int32.ofNat (i % 10))) 0 (Int32.ofNat (i / 10 % 10))) ho cl :: Bs) _
          have g := ih (i + 1) (upd (upd ou 1 (Int32.ofNat (i % 10))) 0 (Int32.ofNat (i / 10 % 10))) (some (.int (Int32.ofNat (i / 10 / 10)))) (some (.int (1))) (some (.int (-1))) (by omega)
          rw [am_fold_succ i, ← am_inc] at g
          generalize hX : (am_fold i (sp_rowOne nr 2 l) (0, -9)) = X at g ⊢
          have h9 : ∀ w, w < 2 → (upd (upd ou 1 (Int32.ofNat (i % 10))) 0 (Int32.ofNat (i / 10 % 10))) w ≤ 9 := by
            intro w hw
            rcases (show w = 0 ∨ w = 1 by omega) with rfl | rfl
            all_goals exact (am_le (j := 9) (by omega) (by omega)).mpr (by omega)
          have hr : sp_rest nr (upd (upd ou 1 (Int32.ofNat (i % 10))) 0 (Int32.ofNat (i / 10 % 10))) 2 l = sp_rest nr (sp_tri (i / 10) (i % 10) 0) 2 l := sp_rest_congr (fun q hq => by
            rcases (show q = 0 ∨ q = 1 by omega) with rfl | rfl
            all_goals (refine congrArg Int32.ofNat (?_ : (_ : Nat) = _); omega))
          have hok : sp_rowOk nr 2 l i = sp_rest nr (sp_tri (i / 10) (i % 10) 0) 2 l := by
            unfold sp_rowOk
            rw [if_pos (by omega), decide_eq_true (show i / 10 ≤ l by omega), decide_eq_true (show i % 10 ≤ l by omega)]
            rfl
          rcases Classical.em (sp_rest nr (sp_tri (i / 10) (i % 10) 0) 2 l = true) with hR | hR
          · skip
            rcases Classical.em (X.1 = 0) with h0 | h0
            · skip
              rw [show sp_rowOne nr 2 l i X = (X.1 + 1, Int32.ofNat i) by unfold sp_rowOne; rw [if_pos (by rw [hok]; exact hR), if_pos h0]] at g
              refine am_Rn.go (t := am_t150) rfl 2 rfl ⟨trivial, trivial, trivial⟩ ?_
              refine am_Rn.brT (by decide) ?_
              refine am_Rn.go (t := am_t150) rfl 2 rfl ⟨trivial, trivial, trivial⟩ ?_
              refine am_Rn.brF (by decide) ?_
              refine am_Rn.go (t := am_t150) rfl 3 rfl ⟨trivial, trivial, trivial, trivial⟩ ?_
              refine am_Rn.call (t := am_t150) rfl rfl (mm_isRest sc 2 l (by omega) hl (upd (upd ou 1 (Int32.ofNat (i % 10))) 0 (Int32.ofNat (i / 10 % 10))) h9 ..) ?_
              rintro _ _ ⟨rfl, rfl⟩
              rw [hr]
              refine am_Rn.go (t := am_t150) rfl 1 rfl ⟨trivial, trivial⟩ ?_
              refine am_Rn.brF (fun z => am_b0.mp z hR) ?_
              refine am_Rn.go (t := am_t150) rfl 2 rfl ⟨trivial, trivial, trivial⟩ ?_
              refine am_Rn.brT h0 ?_
              refine am_Rn.go (t := am_t150) rfl 6 rfl ⟨trivial, trivial, trivial, trivial, trivial, trivial, trivial⟩ ?_
              exact g
            · skip
              rw [show sp_rowOne nr 2 l i X = (X.1 + 1, X.2) by unfold sp_rowOne; rw [if_pos (by rw [hok]; exact hR), if_neg h0]] at g
              refine am_Rn.go (t := am_t150) rfl 2 rfl ⟨trivial, trivial, trivial⟩ ?_
              refine am_Rn.brT (by decide) ?_
              refine am_Rn.go (t := am_t150) rfl 2 rfl ⟨trivial, trivial, trivial⟩ ?_
              refine am_Rn.brF (by decide) ?_
              refine am_Rn.go (t := am_t150) rfl 3 rfl ⟨trivial, trivial, trivial, trivial⟩ ?_
              refine am_Rn.call (t := am_t150) rfl rfl (mm_isRest sc 2 l (by omega) hl (upd (upd ou 1 (Int32.ofNat (i % 10))) 0 (Int32.ofNat (i / 10 % 10))) h9 ..) ?_
              rintro _ _ ⟨rfl, rfl⟩
              rw [hr]
              refine am_Rn.go (t := am_t150) rfl 1 rfl ⟨trivial, trivial⟩ ?_
              refine am_Rn.brF (fun z => am_b0.mp z hR) ?_
              refine am_Rn.go (t := am_t150) rfl 2 rfl ⟨trivial, trivial, trivial⟩ ?_
              refine am_Rn.brF h0 ?_
              refine am_Rn.go (t := am_t150) rfl 5 rfl ⟨trivial, trivial, trivial, trivial, trivial, trivial⟩ ?_
              exact g
          · skip
            rw [show sp_rowOne nr 2 l i X = X from if_neg (by rw [hok]; exact hR)] at g
            refine am_Rn.go (t := am_t150) rfl 2 rfl ⟨trivial, trivial, trivial⟩ ?_
            refine am_Rn.brT (by decide) ?_
            refine am_Rn.go (t := am_t150) rfl 2 rfl ⟨trivial, trivial, trivial⟩ ?_
            refine am_Rn.brF (by decide) ?_
            refine am_Rn.go (t := am_t150) rfl 3 rfl ⟨trivial, trivial, trivial, trivial⟩ ?_
            refine am_Rn.call (t := am_t150) rfl rfl (mm_isRest sc 2 l (by omega) hl (upd (upd ou 1 (Int32.ofNat (i % 10))) 0 (Int32.ofNat (i / 10 % 10))) h9 ..) ?_
            rintro _ _ ⟨rfl, rfl⟩
            rw [hr]
            refine am_Rn.go (t := am_t150) rfl 1 rfl ⟨trivial, trivial⟩ ?_
            refine am_Rn.brT (am_b0.mpr hR) ?_
            refine am_Rn.go (t := am_t150) rfl 2 rfl ⟨trivial, trivial, trivial⟩ ?_
            exact g
        · skip
          refine am_Rn.go (t := am_t150) rfl 2 rfl ⟨trivial, trivial, trivial⟩ ?_
          refine am_Rn.brF (by decide) ?_
          refine am_Rn.go (t := am_t150) rfl 7 rfl ⟨trivial, trivial, trivial, trivial, trivial, (by decide), (by exact am_inb_lit rfl), trivial⟩ ?_
          show am_Rn sc 150 (51, _, _, B0 :: B1 :: B2 :: B3 :: B4 :: B5 :: B6 :: B7 :: B8 :: B9 :: B10 :: B11 :: B12 :: bkModel tr ty nx tk pl va fa (Int32.ofNat P) dp cm tx (mp_ru nu dn) (mp_ps (mp_q la me tc ts) ps) (mp_s rd pr pv sa pd lo bo co sh se si er of_) sp ke ik bi bt so nr (upd (upd ou 1 (Int32.ofNat (i % 10))) 0 (Int32.ofNat (i / 10) - Int32.ofNat (i / 10) / 10 * 10)) ho cl :: Bs) _
          rw [am_rem10 (n := i / 10) (by omega)]
          refine am_Rn.go (t := am_t150) rfl 4 rfl ⟨trivial, trivial, (by decide), trivial, trivial⟩ ?_
          show am_Rn sc 150 (55, _, _, B0 :: B1 :: B2 :: B3 :: B4 :: B5 :: B6 :: B7 :: B8 :: B9 :: B10 :: B11 :: B12 :: bkModel tr ty nx tk pl va fa (Int32.ofNat P) dp cm tx (mp_ru nu dn) (mp_ps (mp_q la me tc ts) ps) (mp_s rd pr pv sa pd lo bo co sh se si er of_) sp ke ik bi bt so nr (upd (upd ou 1 (Int32.ofNat (i % 10))) 0 (Int32.ofNat (i / 10 % 10))) ho cl :: Bs) _
          rw [am_div10 (n := i / 10) (by omega)]
          refine am_Rn.go (t := am_t150) rfl 7 rfl ⟨trivial, trivial, trivial, trivial, (by exact am_inb_lit rfl), trivial, trivial, trivial⟩ ?_
          refine am_Rn.brT ((am_lt (by omega) (by omega)).mpr (by omega)) ?_
          refine am_Rn.go (t := am_t150) rfl 5 rfl ⟨trivial, trivial, trivial, trivial, trivial, trivial⟩ ?_
          show am_Rn sc 150 (42, [some (.ref 416), some (.int 2), some (.int (Int32.ofNat l)), some (.int w), some (.int (am_fold i (sp_rowOne nr 2 l) (0, -9)).1), some (.int (am_fold i (sp_rowOne nr 2 l) (0, -9)).2), some (.int (Int32.ofNat i)), some (.int (Int32.ofNat (i / 10 / 10))), some (.int 0), some (.int (-1))], [], B0 :: B1 :: B2 :: B3 :: B4 :: B5 :: B6 :: B7 :: B8 :: B9 :: B10 :: B11 :: B12 :: bkModel tr ty nx tk pl va fa (Int32.ofNat P) dp cm tx (mp_ru nu dn) (mp_ps (mp_q la me tc ts) ps) (mp_s rd pr pv sa pd lo bo co sh se si er of_) sp ke ik bi bt so nr (upd (upd ou 1 (Int32.ofNat (i % 10))) 0 (Int32.ofNat (i / 10 % 10))) ho cl :: Bs) _
          have g := ih (i + 1) (upd (upd ou 1 (Int32.ofNat (i % 10))) 0 (Int32.ofNat (i / 10 % 10))) (some (.int (Int32.ofNat (i / 10 / 10)))) (some (.int (0))) (some (.int (-1))) (by omega)
          rw [am_fold_succ i, ← am_inc] at g
          generalize hX : (am_fold i (sp_rowOne nr 2 l) (0, -9)) = X at g ⊢
          rw [show sp_rowOne nr 2 l i X = X from if_neg (by unfold sp_rowOk; rw [if_pos (by omega)]; simp; omega)] at g
          refine am_Rn.go (t := am_t150) rfl 2 rfl ⟨trivial, trivial, trivial⟩ ?_
          refine am_Rn.brT (by decide) ?_
          refine am_Rn.go (t := am_t150) rfl 2 rfl ⟨trivial, trivial, trivial⟩ ?_
          refine am_Rn.brT (by decide) ?_
          refine am_Rn.go (t := am_t150) rfl 2 rfl ⟨trivial, trivial, trivial⟩ ?_
          exact g
      · skip
        refine am_Rn.go (t := am_t150) rfl 2 rfl ⟨trivial, trivial, trivial⟩ ?_
        refine am_Rn.brF (by decide) ?_
        refine am_Rn.go (t := am_t150) rfl 7 rfl ⟨trivial, trivial, trivial, trivial, trivial, (by decide), (by exact am_inb_lit rfl), trivial⟩ ?_
        show am_Rn sc 150 (51, _, _, B0 :: B1 :: B2 :: B3 :: B4 :: B5 :: B6 :: B7 :: B8 :: B9 :: B10 :: B11 :: B12 :: bkModel tr ty nx tk pl va fa (Int32.ofNat P) dp cm tx (mp_ru nu dn) (mp_ps (mp_q la me tc ts) ps) (mp_s rd pr pv sa pd lo bo co sh se si er of_) sp ke ik bi bt so nr (upd ou 1 (Int32.ofNat (i) - Int32.ofNat (i) / 10 * 10)) ho cl :: Bs) _
        rw [am_rem10 (n := i) (by omega)]
        refine am_Rn.go (t := am_t150) rfl 4 rfl ⟨trivial, trivial, (by decide), trivial, trivial⟩ ?_
        show am_Rn sc 150 (55, _, _, B0 :: B1 :: B2 :: B3 :: B4 :: B5 :: B6 :: B7 :: B8 :: B9 :: B10 :: B11 :: B12 :: bkModel tr ty nx tk pl va fa (Int32.ofNat P) dp cm tx (mp_ru nu dn) (mp_ps (mp_q la me tc ts) ps) (mp_s rd pr pv sa pd lo bo co sh se si er of_) sp ke ik bi bt so nr (upd ou 1 (Int32.ofNat (i % 10))) ho cl :: Bs) _
        rw [am_div10 (n := i) (by omega)]
        refine am_Rn.go (t := am_t150) rfl 7 rfl ⟨trivial, trivial, trivial, trivial, (by exact am_inb_lit rfl), trivial, trivial, trivial⟩ ?_
        refine am_Rn.brT ((am_lt (by omega) (by omega)).mpr (by omega)) ?_
        refine am_Rn.go (t := am_t150) rfl 5 rfl ⟨trivial, trivial, trivial, trivial, trivial, trivial⟩ ?_
        show am_Rn sc 150 (42, [some (.ref 416), some (.int 2), some (.int (Int32.ofNat l)), some (.int w), some (.int (am_fold i (sp_rowOne nr 2 l) (0, -9)).1), some (.int (am_fold i (sp_rowOne nr 2 l) (0, -9)).2), some (.int (Int32.ofNat i)), some (.int (Int32.ofNat (i / 10))), some (.int 0), some (.int 0)], [], B0 :: B1 :: B2 :: B3 :: B4 :: B5 :: B6 :: B7 :: B8 :: B9 :: B10 :: B11 :: B12 :: bkModel tr ty nx tk pl va fa (Int32.ofNat P) dp cm tx (mp_ru nu dn) (mp_ps (mp_q la me tc ts) ps) (mp_s rd pr pv sa pd lo bo co sh se si er of_) sp ke ik bi bt so nr (upd ou 1 (Int32.ofNat (i % 10))) ho cl :: Bs) _
        rcases Classical.em (i / 10 % 10 ≤ l) with hd1 | hd1
        · skip
          refine am_Rn.go (t := am_t150) rfl 2 rfl ⟨trivial, trivial, trivial⟩ ?_
          refine am_Rn.brF (by decide) ?_
          refine am_Rn.go (t := am_t150) rfl 7 rfl ⟨trivial, trivial, trivial, trivial, trivial, (by decide), (by exact am_inb_lit rfl), trivial⟩ ?_
          show am_Rn sc 150 (51, _, _, B0 :: B1 :: B2 :: B3 :: B4 :: B5 :: B6 :: B7 :: B8 :: B9 :: B10 :: B11 :: B12 :: bkModel tr ty nx tk pl va fa (Int32.ofNat P) dp cm tx (mp_ru nu dn) (mp_ps (mp_q la me tc ts) ps) (mp_s rd pr pv sa pd lo bo co sh se si er of_) sp ke ik bi bt so nr (upd (upd ou 1 (Int32.ofNat (i % 10))) 0 (Int32.ofNat (i / 10) - Int32.ofNat (i / 10) / 10 * 10)) ho cl :: Bs) _
          rw [am_rem10 (n := i / 10) (by omega)]
          refine am_Rn.go (t := am_t150) rfl 4 rfl ⟨trivial, trivial, (by decide), trivial, trivial⟩ ?_
          show am_Rn sc 150 (55, _, _, B0 :: B1 :: B2 :: B3 :: B4 :: B5 :: B6 :: B7 :: B8 :: B9 :: B10 :: B11 :: B12 :: bkModel tr ty nx tk pl va fa (Int32.ofNat P) dp cm tx (mp_ru nu dn) (mp_ps (mp_q la me tc ts) ps) (mp_s rd pr pv sa pd lo bo co sh se si er of_) sp ke ik bi bt so nr (upd (upd ou 1 (Int32.ofNat (i % 10))) 0 (Int32.ofNat (i / 10 % 10))) ho cl :: Bs) _
          rw [am_div10 (n := i / 10) (by omega)]
          refine am_Rn.go (t := am_t150) rfl 7 rfl ⟨trivial, trivial, trivial, trivial, (by exact am_inb_lit rfl), trivial, trivial, trivial⟩ ?_
          refine am_Rn.brF (fun q => absurd ((am_lt (by omega) (by omega)).mp q) (by omega)) ?_
          refine am_Rn.go (t := am_t150) rfl 6 rfl ⟨trivial, trivial, trivial, trivial, trivial, trivial, trivial⟩ ?_
          show am_Rn sc 150 (42, [some (.ref 416), some (.int 2), some (.int (Int32.ofNat l)), some (.int w), some (.int (am_fold i (sp_rowOne nr 2 l) (0, -9)).1), some (.int (am_fold i (sp_rowOne nr 2 l) (0, -9)).2), some (.int (Int32.ofNat i)), some (.int (Int32.ofNat (i / 10 / 10))), some (.int 0), some (.int (-1))], [], B0 :: B1 :: B2 :: B3 :: B4 :: B5 :: B6 :: B7 :: B8 :: B9 :: B10 :: B11 :: B12 :: bkModel tr ty nx tk pl va fa (Int32.ofNat P) dp cm tx (mp_ru nu dn) (mp_ps (mp_q la me tc ts) ps) (mp_s rd pr pv sa pd lo bo co sh se si er of_) sp ke ik bi bt so nr (upd (upd ou 1 (Int32.ofNat (i % 10))) 0 (Int32.ofNat (i / 10 % 10))) ho cl :: Bs) _
          have g := ih (i + 1) (upd (upd ou 1 (Int32.ofNat (i % 10))) 0 (Int32.ofNat (i / 10 % 10))) (some (.int (Int32.ofNat (i / 10 / 10)))) (some (.int (0))) (some (.int (-1))) (by omega)
          rw [am_fold_succ i, ← am_inc] at g
          generalize hX : (am_fold i (sp_rowOne nr 2 l) (0, -9)) = X at g ⊢
          rw [show sp_rowOne nr 2 l i X = X from if_neg (by unfold sp_rowOk; rw [if_pos (by omega)]; simp; omega)] at g
          refine am_Rn.go (t := am_t150) rfl 2 rfl ⟨trivial, trivial, trivial⟩ ?_
          refine am_Rn.brT (by decide) ?_
          refine am_Rn.go (t := am_t150) rfl 2 rfl ⟨trivial, trivial, trivial⟩ ?_
          refine am_Rn.brT (by decide) ?_
          refine am_Rn.go (t := am_t150) rfl 2 rfl ⟨trivial, trivial, trivial⟩ ?_
          exact g
        · skip
          refine am_Rn.go (t := am_t150) rfl 2 rfl ⟨trivial, trivial, trivial⟩ ?_
          refine am_Rn.brF (by decide) ?_
          refine am_Rn.go (t := am_t150) rfl 7 rfl ⟨trivial, trivial, trivial, trivial, trivial, (by decide), (by exact am_inb_lit rfl), trivial⟩ ?_
          show am_Rn sc 150 (51, _, _, B0 :: B1 :: B2 :: B3 :: B4 :: B5 :: B6 :: B7 :: B8 :: B9 :: B10 :: B11 :: B12 :: bkModel tr ty nx tk pl va fa (Int32.ofNat P) dp cm tx (mp_ru nu dn) (mp_ps (mp_q la me tc ts) ps) (mp_s rd pr pv sa pd lo bo co sh se si er of_) sp ke ik bi bt so nr (upd (upd ou 1 (Int32.ofNat (i % 10))) 0 (Int32.ofNat (i / 10) - Int32.ofNat (i / 10) / 10 * 10)) ho cl :: Bs) _
          rw [am_rem10 (n := i / 10) (by omega)]
          refine am_Rn.go (t := am_t150) rfl 4 rfl ⟨trivial, trivial, (by decide), trivial, trivial⟩ ?_
          show am_Rn sc 150 (55, _, _, B0 :: B1 :: B2 :: B3 :: B4 :: B5 :: B6 :: B7 :: B8 :: B9 :: B10 :: B11 :: B12 :: bkModel tr ty nx tk pl va fa (Int32.ofNat P) dp cm tx (mp_ru nu dn) (mp_ps (mp_q la me tc ts) ps) (mp_s rd pr pv sa pd lo bo co sh se si er of_) sp ke ik bi bt so nr (upd (upd ou 1 (Int32.ofNat (i % 10))) 0 (Int32.ofNat (i / 10 % 10))) ho cl :: Bs) _
          rw [am_div10 (n := i / 10) (by omega)]
          refine am_Rn.go (t := am_t150) rfl 7 rfl ⟨trivial, trivial, trivial, trivial, (by exact am_inb_lit rfl), trivial, trivial, trivial⟩ ?_
          refine am_Rn.brT ((am_lt (by omega) (by omega)).mpr (by omega)) ?_
          refine am_Rn.go (t := am_t150) rfl 5 rfl ⟨trivial, trivial, trivial, trivial, trivial, trivial⟩ ?_
          show am_Rn sc 150 (42, [some (.ref 416), some (.int 2), some (.int (Int32.ofNat l)), some (.int w), some (.int (am_fold i (sp_rowOne nr 2 l) (0, -9)).1), some (.int (am_fold i (sp_rowOne nr 2 l) (0, -9)).2), some (.int (Int32.ofNat i)), some (.int (Int32.ofNat (i / 10 / 10))), some (.int 0), some (.int (-1))], [], B0 :: B1 :: B2 :: B3 :: B4 :: B5 :: B6 :: B7 :: B8 :: B9 :: B10 :: B11 :: B12 :: bkModel tr ty nx tk pl va fa (Int32.ofNat P) dp cm tx (mp_ru nu dn) (mp_ps (mp_q la me tc ts) ps) (mp_s rd pr pv sa pd lo bo co sh se si er of_) sp ke ik bi bt so nr (upd (upd ou 1 (Int32.ofNat (i % 10))) 0 (Int32.ofNat (i / 10 % 10))) ho cl :: Bs) _
          have g := ih (i + 1) (upd (upd ou 1 (Int32.ofNat (i % 10))) 0 (Int32.ofNat (i / 10 % 10))) (some (.int (Int32.ofNat (i / 10 / 10)))) (some (.int (0))) (some (.int (-1))) (by omega)
          rw [am_fold_succ i, ← am_inc] at g
          generalize hX : (am_fold i (sp_rowOne nr 2 l) (0, -9)) = X at g ⊢
          rw [show sp_rowOne nr 2 l i X = X from if_neg (by unfold sp_rowOk; rw [if_pos (by omega)]; simp; omega)] at g
          refine am_Rn.go (t := am_t150) rfl 2 rfl ⟨trivial, trivial, trivial⟩ ?_
          refine am_Rn.brT (by decide) ?_
          refine am_Rn.go (t := am_t150) rfl 2 rfl ⟨trivial, trivial, trivial⟩ ?_
          refine am_Rn.brT (by decide) ?_
          refine am_Rn.go (t := am_t150) rfl 2 rfl ⟨trivial, trivial, trivial⟩ ?_
          exact g
  refine am_Rn.go (t := am_t150) rfl 6 rfl ⟨trivial, trivial, trivial, trivial, trivial, trivial, trivial⟩ ?_
  refine am_Rn.call (t := am_t150) rfl rfl (sx_in ..) ?_
  rintro _ _ ⟨rfl, rfl⟩
  refine am_Rn.go (t := am_t150) rfl 1 rfl ⟨trivial, trivial⟩ ?_
  refine am_Rn.brF (fun z => am_b0.mp z (by decide)) ?_
  refine am_Rn.go (t := am_t150) rfl 3 rfl ⟨trivial, trivial, trivial, trivial⟩ ?_
  refine am_Rn.call (t := am_t150) rfl rfl (sx_in ..) ?_
  rintro _ _ ⟨rfl, rfl⟩
  refine am_Rn.go (t := am_t150) rfl 1 rfl ⟨trivial, trivial⟩ ?_
  refine am_Rn.brF (fun z => am_b0.mp z ⟨(am_le (i := 1) (by omega) (by omega)).mpr (by omega), (am_le (j := 8) (by omega) (by omega)).mpr (by omega)⟩) ?_
  refine am_Rn.go (t := am_t150) rfl 3 rfl ⟨trivial, trivial, trivial, trivial⟩ ?_
  refine am_Rn.call (t := am_t150) rfl rfl (sx_in ..) ?_
  rintro _ _ ⟨rfl, rfl⟩
  refine am_Rn.go (t := am_t150) rfl 1 rfl ⟨trivial, trivial⟩ ?_
  refine am_Rn.brF (fun z => am_b0.mp z hw) ?_
  refine am_Rn.go (t := am_t150) rfl 6 rfl ⟨trivial, trivial, trivial, trivial, trivial, trivial, trivial⟩ ?_
  exact L 100 0 ou none none none (by omega)
set_option maxHeartbeats 2000000 in
theorem mm_rests3 (sc : am_Sc) (l : Nat) (hl1 : 1 ≤ l) (hl : l ≤ 8) (w : Int32) (hw : 0 ≤ w ∧ w ≤ 1) (tr : Int64) (ty nx tk pl va fa dp cm : Int32) (tx nu dn la me tc ts ps : Nat → Int32) (P : Nat) (rd pr pv sa pd lo : Int32) (bo co sh se si er of_ sp ke ik bi bt so nr ou ho cl : Nat → Int32) (B0 B1 B2 B3 B4 B5 B6 B7 B8 B9 B10 B11 B12 : List am_E) (Bs : am_M) : am_Rn sc 150 (0, am_entry 150 [.ref 416, .int 3, .int (Int32.ofNat l), .int w], [], B0 :: B1 :: B2 :: B3 :: B4 :: B5 :: B6 :: B7 :: B8 :: B9 :: B10 :: B11 :: B12 :: bkModel tr ty nx tk pl va fa (Int32.ofNat P) dp cm tx (mp_ru nu dn) (mp_ps (mp_q la me tc ts) ps) (mp_s rd pr pv sa pd lo bo co sh se si er of_) sp ke ik bi bt so nr ou ho cl :: Bs) (fun r M' => r = some (.int (if w = 0 then (am_fold 1000 (sp_rowOne nr 3 l) (0, -9)).1 else (am_fold 1000 (sp_rowOne nr 3 l) (0, -9)).2)) ∧ ∃ ou, M' = B0 :: B1 :: B2 :: B3 :: B4 :: B5 :: B6 :: B7 :: B8 :: B9 :: B10 :: B11 :: B12 :: bkModel tr ty nx tk pl va fa (Int32.ofNat P) dp cm tx (mp_ru nu dn) (mp_ps (mp_q la me tc ts) ps) (mp_s rd pr pv sa pd lo bo co sh se si er of_) sp ke ik bi bt so nr ou ho cl :: Bs) := by
  show am_Rn sc 150 (0, [some (.ref 416), some (.int 3), some (.int (Int32.ofNat l)), some (.int w), none, none, none, none, none, none], [], _) _
  have L : ∀ (d i : Nat) (ou : Nat → Int32) (x7 x8 x9 : Option Value), i + d = 1000 → am_Rn sc 150 (26, [some (.ref 416), some (.int 3), some (.int (Int32.ofNat l)), some (.int w), some (.int (am_fold i (sp_rowOne nr 3 l) (0, -9)).1), some (.int (am_fold i (sp_rowOne nr 3 l) (0, -9)).2), some (.int (Int32.ofNat i)), x7, x8, x9], [], B0 :: B1 :: B2 :: B3 :: B4 :: B5 :: B6 :: B7 :: B8 :: B9 :: B10 :: B11 :: B12 :: bkModel tr ty nx tk pl va fa (Int32.ofNat P) dp cm tx (mp_ru nu dn) (mp_ps (mp_q la me tc ts) ps) (mp_s rd pr pv sa pd lo bo co sh se si er of_) sp ke ik bi bt so nr ou ho cl :: Bs) (fun r M' => r = some (.int (if w = 0 then (am_fold 1000 (sp_rowOne nr 3 l) (0, -9)).1 else (am_fold 1000 (sp_rowOne nr 3 l) (0, -9)).2)) ∧ ∃ ou, M' = B0 :: B1 :: B2 :: B3 :: B4 :: B5 :: B6 :: B7 :: B8 :: B9 :: B10 :: B11 :: B12 :: bkModel tr ty nx tk pl va fa (Int32.ofNat P) dp cm tx (mp_ru nu dn) (mp_ps (mp_q la me tc ts) ps) (mp_s rd pr pv sa pd lo bo co sh se si er of_) sp ke ik bi bt so nr ou ho cl :: Bs) := by
    intro d
    induction d with
    | zero =>
      intro i ou x7 x8 x9 hi
      have hiP : i = 1000 := by omega
      subst i
      refine am_Rn.go (t := am_t150) rfl 4 rfl ⟨trivial, trivial, trivial, trivial, trivial⟩ ?_
      refine am_Rn.brF (by decide) ?_
      refine am_Rn.go (t := am_t150) rfl 2 rfl ⟨trivial, trivial, trivial⟩ ?_
      refine am_Rn.brT (by decide) ?_
      refine am_Rn.go (t := am_t150) rfl 2 rfl ⟨trivial, trivial, trivial⟩ ?_
      refine am_Rn.br (fun h3 => ?_) (fun h3 => ?_)
      · skip
        refine am_Rn.go (t := am_t150) rfl 2 rfl ⟨trivial, trivial, trivial⟩ ?_
        refine am_Rn.ret (t := am_t150) rfl rfl trivial ?_
        refine ⟨congrArg (fun z => some (Value.int z)) ?_, ou, rfl⟩
        first
          | exact (if_pos (by assumption)).symm
          | exact (if_neg (by assumption)).symm
      · skip
        refine am_Rn.go (t := am_t150) rfl 1 rfl ⟨trivial, trivial⟩ ?_
        refine am_Rn.ret (t := am_t150) rfl rfl trivial ?_
        refine ⟨congrArg (fun z => some (Value.int z)) ?_, ou, rfl⟩
        first
          | exact (if_pos (by assumption)).symm
          | exact (if_neg (by assumption)).symm
    | succ d ih =>
      intro i ou x7 x8 x9 hi
      have hiP : i < 1000 := by omega
      refine am_Rn.go (t := am_t150) rfl 4 rfl ⟨trivial, trivial, trivial, trivial, trivial⟩ ?_
      refine am_Rn.brF (by decide) ?_
      refine am_Rn.go (t := am_t150) rfl 2 rfl ⟨trivial, trivial, trivial⟩ ?_
      refine am_Rn.brF (fun q => absurd ((am_le (i := 1000) (by omega) (by omega)).mp q) (by omega)) ?_
      refine am_Rn.go (t := am_t150) rfl 8 rfl ⟨trivial, trivial, trivial, trivial, trivial, trivial, trivial, trivial, trivial⟩ ?_
      show am_Rn sc 150 (42, [some (.ref 416), some (.int 3), some (.int (Int32.ofNat l)), some (.int w), some (.int (am_fold i (sp_rowOne nr 3 l) (0, -9)).1), some (.int (am_fold i (sp_rowOne nr 3 l) (0, -9)).2), some (.int (Int32.ofNat i)), some (.int (Int32.ofNat (i))), some (.int 1), some (.int 2)], [], B0 :: B1 :: B2 :: B3 :: B4 :: B5 :: B6 :: B7 :: B8 :: B9 :: B10 :: B11 :: B12 :: bkModel tr ty nx tk pl va fa (Int32.ofNat P) dp cm tx (mp_ru nu dn) (mp_ps (mp_q la me tc ts) ps) (mp_s rd pr pv sa pd lo bo co sh se si er of_) sp ke ik bi bt so nr ou ho cl :: Bs) _
      rcases Classical.em (i % 10 ≤ l) with hd0 | hd0
      · skip
        refine am_Rn.go (t := am_t150) rfl 2 rfl ⟨trivial, trivial, trivial⟩ ?_
        refine am_Rn.brF (by decide) ?_
        refine am_Rn.go (t := am_t150) rfl 7 rfl ⟨trivial, trivial, trivial, trivial, trivial, (by decide), (by exact am_inb_lit rfl), trivial⟩ ?_
        show am_Rn sc 150 (51, _, _, B0 :: B1 :: B2 :: B3 :: B4 :: B5 :: B6 :: B7 :: B8 :: B9 :: B10 :: B11 :: B12 :: bkModel tr ty nx tk pl va fa (Int32.ofNat P) dp cm tx (mp_ru nu dn) (mp_ps (mp_q la me tc ts) ps) (mp_s rd pr pv sa pd lo bo co sh se si er of_) sp ke ik bi bt so nr (upd ou 2 (Int32.ofNat (i) - Int32.ofNat (i) / 10 * 10)) ho cl :: Bs) _
        rw [am_rem10 (n := i) (by omega)]
        refine am_Rn.go (t := am_t150) rfl 4 rfl ⟨trivial, trivial, (by decide), trivial, trivial⟩ ?_
        show am_Rn sc 150 (55, _, _, B0 :: B1 :: B2 :: B3 :: B4 :: B5 :: B6 :: B7 :: B8 :: B9 :: B10 :: B11 :: B12 :: bkModel tr ty nx tk pl va fa (Int32.ofNat P) dp cm tx (mp_ru nu dn) (mp_ps (mp_q la me tc ts) ps) (mp_s rd pr pv sa pd lo bo co sh se si er of_) sp ke ik bi bt so nr (upd ou 2 (Int32.ofNat (i % 10))) ho cl :: Bs) _
        rw [am_div10 (n := i) (by omega)]
        refine am_Rn.go (t := am_t150) rfl 7 rfl ⟨trivial, trivial, trivial, trivial, (by exact am_inb_lit rfl), trivial, trivial, trivial⟩ ?_
        refine am_Rn.brF (fun q => absurd ((am_lt (by omega) (by omega)).mp q) (by omega)) ?_
        refine am_Rn.go (t := am_t150) rfl 6 rfl ⟨trivial, trivial, trivial, trivial, trivial, trivial, trivial⟩ ?_
        show am_Rn sc 150 (42, [some (.ref 416), some (.int 3), some (.int (Int32.ofNat l)), some (.int w), some (.int (am_fold i (sp_rowOne nr 3 l) (0, -9)).1), some (.int (am_fold i (sp_rowOne nr 3 l) (0, -9)).2), some (.int (Int32.ofNat i)), some (.int (Int32.ofNat (i / 10))), some (.int 1), some (.int 1)], [], B0 :: B1 :: B2 :: B3 :: B4 :: B5 :: B6 :: B7 :: B8 :: B9 :: B10 :: B11 :: B12 :: bkModel tr ty nx tk pl va fa (Int32.ofNat P) dp cm tx (mp_ru nu dn) (mp_ps (mp_q la me tc ts) ps) (mp_s rd pr pv sa pd lo bo co sh se si er of_) sp ke ik bi bt so nr (upd ou 2 (Int32.ofNat (i % 10))) ho cl :: Bs) _
        rcases Classical.em (i / 10 % 10 ≤ l) with hd1 | hd1
        · skip
          refine am_Rn.go (t := am_t150) rfl 2 rfl ⟨trivial, trivial, trivial⟩ ?_
          refine am_Rn.brF (by decide) ?_
          refine am_Rn.go (t := am_t150) rfl 7 rfl ⟨trivial, trivial, trivial, trivial, trivial, (by decide), (by exact am_inb_lit rfl), trivial⟩ ?_
          show am_Rn sc 150 (51, _, _, B0 :: B1 :: B2 :: B3 :: B4 :: B5 :: B6 :: B7 :: B8 :: B9 :: B10 :: B11 :: B12 :: bkModel tr ty nx tk pl va fa (Int32.ofNat P) dp cm tx (mp_ru nu dn) (mp_ps (mp_q la me tc ts) ps) (mp_s rd pr pv sa pd lo bo co sh se si er of_) sp ke ik bi bt so nr (upd (upd ou 2 (Int32.ofNat (i % 10))) 1 (Int32.ofNat (i / 10) - Int32.ofNat (i / 10) / 10 * 10)) ho cl :: Bs) _
          rw [am_rem10 (n := i / 10) (by omega)]
          refine am_Rn.go (t := am_t150) rfl 4 rfl ⟨trivial, trivial, (by decide), trivial, trivial⟩ ?_
          show am_Rn sc 150 (55, _, _, B0 :: B1 :: B2 :: B3 :: B4 :: B5 :: B6 :: B7 :: B8 :: B9 :: B10 :: B11 :: B12 :: bkModel tr ty nx tk pl va fa (Int32.ofNat P) dp cm tx (mp_ru nu dn) (mp_ps (mp_q la me tc ts) ps) (mp_s rd pr pv sa pd lo bo co sh se si er of_) sp ke ik bi bt so nr (upd (upd ou 2 (Int32.ofNat (i % 10))) 1 (Int32.ofNat (i / 10 % 10))) ho cl :: Bs) _
          rw [am_div10 (n := i / 10) (by omega)]
          refine am_Rn.go (t := am_t150) rfl 7 rfl ⟨trivial, trivial, trivial, trivial, (by exact am_inb_lit rfl), trivial, trivial, trivial⟩ ?_
          refine am_Rn.brF (fun q => absurd ((am_lt (by omega) (by omega)).mp q) (by omega)) ?_
          refine am_Rn.go (t := am_t150) rfl 6 rfl ⟨trivial, trivial, trivial, trivial, trivial, trivial, trivial⟩ ?_
          show am_Rn sc 150 (42, [some (.ref 416), some (.int 3), some (.int (Int32.ofNat l)), some (.int w), some (.int (am_fold i (sp_rowOne nr 3 l) (0, -9)).1), some (.int (am_fold i (sp_rowOne nr 3 l) (0, -9)).2), some (.int (Int32.ofNat i)), some (.int (Int32.ofNat (i / 10 / 10))), some (.int 1), some (.int 0)], [], B0 :: B1 :: B2 :: B3 :: B4 :: B5 :: B6 :: B7 :: B8 :: B9 :: B10 :: B11 :: B12 :: bkModel tr ty nx tk pl va fa (Int32.ofNat P) dp cm tx (mp_ru nu dn) (mp_ps (mp_q la me tc ts) ps) (mp_s rd pr pv sa pd lo bo co sh se si er of_) sp ke ik bi bt so nr (upd (upd ou 2 (Int32.ofNat (i % 10))) 1 (Int32.ofNat (i / 10 % 10))) ho cl :: Bs) _
          rcases Classical.em (i / 10 / 10 % 10 ≤ l) with hd2 | hd2
          · skip
            refine am_Rn.go (t := am_t150) rfl 2 rfl ⟨trivial, trivial, trivial⟩ ?_
            refine am_Rn.brF (by decide) ?_
            refine am_Rn.go (t := am_t150) rfl 7 rfl ⟨trivial, trivial, trivial, trivial, trivial, (by decide), (by exact am_inb_lit rfl), trivial⟩ ?_
            show am_Rn sc 150 (51, _, _, B0 :: B1 :: B2 :: B3 :: B4 :: B5 :: B6 :: B7 :: B8 :: B9 :: B10 :: B11 :: B12 :: bkModel tr ty nx tk pl va fa (Int32.ofNat P) dp cm tx (mp_ru nu dn) (mp_ps (mp_q la me tc ts) ps) (mp_s rd pr pv sa pd lo bo co sh se si er of_) sp ke ik bi bt so nr (upd (upd (upd ou 2 (Int32.ofNat (i % 10))) 1 (Int32.ofNat (i / 10 % 10))) 0 (Int32.ofNat (i / 10 / 10) - Int32.ofNat (i / 10 / 10) / 10 * 10)) ho cl :: Bs) _
            rw [am_rem10 (n := i / 10 / 10) (by omega)]
            refine am_Rn.go (t := am_t150) rfl 4 rfl ⟨trivial, trivial, (by decide), trivial, trivial⟩ ?_
            show am_Rn sc 150 (55, _, _, B0 :: B1 :: B2 :: B3 :: B4 :: B5 :: B6 :: B7 :: B8 :: B9 :: B10 :: B11 :: B12 :: bkModel tr ty nx tk pl va fa (Int32.ofNat P) dp cm tx (mp_ru nu dn) (mp_ps (mp_q la me tc ts) ps) (mp_s rd pr pv sa pd lo bo co sh se si er of_) sp ke ik bi bt so nr (upd (upd (upd ou 2 (Int32.ofNat (i % 10))) 1 (Int32.ofNat (i / 10 % 10))) 0 (Int32.ofNat (i / 10 / 10 % 10))) ho cl :: Bs) _
            rw [am_div10 (n := i / 10 / 10) (by omega)]
            refine am_Rn.go (t := am_t150) rfl 7 rfl ⟨trivial, trivial, trivial, trivial, (by exact am_inb_lit rfl), trivial, trivial, trivial⟩ ?_
            refine am_Rn.brF (fun q => absurd ((am_lt (by omega) (by omega)).mp q) (by omega)) ?_
            refine am_Rn.go (t := am_t150) rfl 6 rfl ⟨trivial, trivial, trivial, trivial, trivial, trivial, trivial⟩ ?_
            show am_Rn sc 150 (42, [some (.ref 416), some (.int 3), some (.int (Int32.ofNat l)), some (.int w), some (.int (am_fold i (sp_rowOne nr 3 l) (0, -9)).1), some (.int (am_fold i (sp_rowOne nr 3 l) (0, -9)).2), some (.int (Int32.ofNat i)), some (.int (Int32.ofNat (i / 10 / 10 / 10))), some (.int 1), some (.int (-1))], [], B0 :: B1 :: B2 :: B3 :: B4 :: B5 :: B6 :: B7 :: B8 :: B9 :: B10 :: B11 :: B12 :: bkModel tr ty nx tk pl va fa (Int32.ofNat P) dp cm tx (mp_ru nu dn) (mp_ps (mp_q la me tc ts) ps) (mp_s rd pr pv sa pd lo bo co sh se si er of_) sp ke ik bi bt so nr (upd (upd (upd ou 2 (Int32.ofNat (i % 10))) 1 (Int32.ofNat (i / 10 % 10))) 0 (Int32.ofNat (i / 10 / 10 % 10))) ho cl :: Bs) _
            have g := ih (i + 1) (upd (upd (upd ou 2 (Int32.ofNat (i % 10))) 1 (Int32.ofNat (i / 10 % 10))) 0 (Int32.ofNat (i / 10 / 10 % 10))) (some (.int (Int32.ofNat (i / 10 / 10 / 10)))) (some (.int (1))) (some (.int (-1))) (by omega)
            rw [am_fold_succ i, ← am_inc] at g
            generalize hX : (am_fold i (sp_rowOne nr 3 l) (0, -9)) = X at g ⊢
            have h9 : ∀ w, w < 3 → (upd (upd (upd ou 2 (Int32.ofNat (i % 10))) 1 (Int32.ofNat (i / 10 % 10))) 0 (Int32.ofNat (i / 10 / 10 % 10))) w ≤ 9 := by
              intro w hw
              rcases (show w = 0 ∨ w = 1 ∨ w = 2 by omega) with rfl | rfl | rfl
              all_goals exact (am_le (j := 9) (by omega) (by omega)).mpr (by omega)
            have hr : sp_rest nr (upd (upd (upd ou 2 (Int32.ofNat (i % 10))) 1 (Int32.ofNat (i / 10 % 10))) 0 (Int32.ofNat (i / 10 / 10 % 10))) 3 l = sp_rest nr (sp_tri (i / 100) (i / 10 % 10) (i % 10)) 3 l := sp_rest_congr (fun q hq => by
              rcases (show q = 0 ∨ q = 1 ∨ q = 2 by omega) with rfl | rfl | rfl
              all_goals (refine congrArg Int32.ofNat (?_ : (_ : Nat) = _); omega))
            have hok : sp_rowOk nr 3 l i = sp_rest nr (sp_tri (i / 100) (i / 10 % 10) (i % 10)) 3 l := by
              unfold sp_rowOk
              rw [if_neg (by omega), decide_eq_true (show i / 100 ≤ l by omega), decide_eq_true (show i / 10 % 10 ≤ l by omega), decide_eq_true (show i % 10 ≤ l by omega)]
              rfl
            rcases Classical.em (sp_rest nr (sp_tri (i / 100) (i / 10 % 10) (i % 10)) 3 l = true) with hR | hR
            · skip
              rcases Classical.em (X.1 = 0) with h0 | h0
              · skip
                rw [show sp_rowOne nr 3 l i X = (X.1 + 1, Int32.ofNat i) by unfold sp_rowOne; rw [if_pos (by rw [hok]; exact hR), if_pos h0]] at g
                refine am_Rn.go (t := am_t150) rfl 2 rfl ⟨trivial, trivial, trivial⟩ ?_
                refine am_Rn.brT (by decide) ?_
                refine am_Rn.go (t := am_t150) rfl 2 rfl ⟨trivial, trivial, trivial⟩ ?_
                refine am_Rn.brF (by decide) ?_
                refine am_Rn.go (t := am_t150) rfl 3 rfl ⟨trivial, trivial, trivial, trivial⟩ ?_
                refine am_Rn.call (t := am_t150) rfl rfl (mm_isRest sc 3 l (by omega) hl (upd (upd (upd ou 2 (Int32.ofNat (i % 10))) 1 (Int32.ofNat (i / 10 % 10))) 0 (Int32.ofNat (i / 10 / 10 % 10))) h9 ..) ?_
                rintro _ _ ⟨rfl, rfl⟩
                rw [hr]
                refine am_Rn.go (t := am_t150) rfl 1 rfl ⟨trivial, trivial⟩ ?_
                refine am_Rn.brF (fun z => am_b0.mp z hR) ?_
                refine am_Rn.go (t := am_t150) rfl 2 rfl ⟨trivial, trivial, trivial⟩ ?_
                refine am_Rn.brT h0 ?_
                refine am_Rn.go (t := am_t150) rfl 6 rfl ⟨trivial, trivial, trivial, trivial, trivial, trivial, trivial⟩ ?_
                exact g
              · skip
                rw [show sp_rowOne nr 3 l i X = (X.1 + 1, X.2) by unfold sp_rowOne; rw [if_pos (by rw [hok]; exact hR), if_neg h0]] at g
                refine am_Rn.go (t := am_t150) rfl 2 rfl ⟨trivial, trivial, trivial⟩ ?_
                refine am_Rn.brT (by decide) ?_
                refine am_Rn.go (t := am_t150) rfl 2 rfl ⟨trivial, trivial, trivial⟩ ?_
                refine am_Rn.brF (by decide) ?_
                refine am_Rn.go (t := am_t150) rfl 3 rfl ⟨trivial, trivial, trivial, trivial⟩ ?_
                refine am_Rn.call (t := am_t150) rfl rfl (mm_isRest sc 3 l (by omega) hl (upd (upd (upd ou 2 (Int32.ofNat (i % 10))) 1 (Int32.ofNat (i / 10 % 10))) 0 (Int32.ofNat (i / 10 / 10 % 10))) h9 ..) ?_
                rintro _ _ ⟨rfl, rfl⟩
                rw [hr]
                refine am_Rn.go (t := am_t150) rfl 1 rfl ⟨trivial, trivial⟩ ?_
                refine am_Rn.brF (fun z => am_b0.mp z hR) ?_
                refine am_Rn.go (t := am_t150) rfl 2 rfl ⟨trivial, trivial, trivial⟩ ?_
                refine am_Rn.brF h0 ?_
                refine am_Rn.go (t := am_t150) rfl 5 rfl ⟨trivial, trivial, trivial, trivial, trivial, trivial⟩ ?_
                exact g
            · skip
              rw [show sp_rowOne nr 3 l i X = X from if_neg (by rw [hok]; exact hR)] at g
              refine am_Rn.go (t := am_t150) rfl 2 rfl ⟨trivial, trivial, trivial⟩ ?_
              refine am_Rn.brT (by decide) ?_
              refine am_Rn.go (t := am_t150) rfl 2 rfl ⟨trivial, trivial, trivial⟩ ?_
              refine am_Rn.brF (by decide) ?_
              refine am_Rn.go (t := am_t150) rfl 3 rfl ⟨trivial, trivial, trivial, trivial⟩ ?_
              refine am_Rn.call (t := am_t150) rfl rfl (mm_isRest sc 3 l (by omega) hl (upd (upd (upd ou 2 (Int32.ofNat (i % 10))) 1 (Int32.ofNat (i / 10 % 10))) 0 (Int32.ofNat (i / 10 / 10 % 10))) h9 ..) ?_
              rintro _ _ ⟨rfl, rfl⟩
              rw [hr]
              refine am_Rn.go (t := am_t150) rfl 1 rfl ⟨trivial, trivial⟩ ?_
              refine am_Rn.brT (am_b0.mpr hR) ?_
              refine am_Rn.go (t := am_t150) rfl 2 rfl ⟨trivial, trivial, trivial⟩ ?_
              exact g
          · skip
            refine am_Rn.go (t := am_t150) rfl 2 rfl ⟨trivial, trivial, trivial⟩ ?_
            refine am_Rn.brF (by decide) ?_
            refine am_Rn.go (t := am_t150) rfl 7 rfl ⟨trivial, trivial, trivial, trivial, trivial, (by decide), (by exact am_inb_lit rfl), trivial⟩ ?_
            show am_Rn sc 150 (51, _, _, B0 :: B1 :: B2 :: B3 :: B4 :: B5 :: B6 :: B7 :: B8 :: B9 :: B10 :: B11 :: B12 :: bkModel tr ty nx tk pl va fa (Int32.ofNat P) dp cm tx (mp_ru nu dn) (mp_ps (mp_q la me tc ts) ps) (mp_s rd pr pv sa pd lo bo co sh se si er of_) sp ke ik bi bt so nr (upd (upd (upd ou 2 (Int32.ofNat (i % 10))) 1 (Int32.ofNat (i / 10 % 10))) 0 (Int32.ofNat (i / 10 / 10) - Int32.ofNat (i / 10 / 10) / 10 * 10)) ho cl :: Bs) _
            rw [am_rem10 (n := i / 10 / 10) (by omega)]
            refine am_Rn.go (t := am_t150) rfl 4 rfl ⟨trivial, trivial, (by decide), trivial, trivial⟩ ?_
            show am_Rn sc 150 (55, _, _, B0 :: B1 :: B2 :: B3 :: B4 :: B5 :: B6 :: B7 :: B8 :: B9 :: B10 :: B11 :: B12 :: bkModel tr ty nx tk pl va fa (Int32.ofNat P) dp cm tx (mp_ru nu dn) (mp_ps (mp_q la me tc ts) ps) (mp_s rd pr pv sa pd lo bo co sh se si er of_) sp ke ik bi bt so nr (upd (upd (upd ou 2 (Int32.ofNat (i % 10))) 1 (Int32.ofNat (i / 10 % 10))) 0 (Int32.ofNat (i / 10 / 10 % 10))) ho cl :: Bs) _
            rw [am_div10 (n := i / 10 / 10) (by omega)]
            refine am_Rn.go (t := am_t150) rfl 7 rfl ⟨trivial, trivial, trivial, trivial, (by exact am_inb_lit rfl), trivial, trivial, trivial⟩ ?_
            refine am_Rn.brT ((am_lt (by omega) (by omega)).mpr (by omega)) ?_
            refine am_Rn.go (t := am_t150) rfl 5 rfl ⟨trivial, trivial, trivial, trivial, trivial, trivial⟩ ?_
            show am_Rn sc 150 (42, [some (.ref 416), some (.int 3), some (.int (Int32.ofNat l)), some (.int w), some (.int (am_fold i (sp_rowOne nr 3 l) (0, -9)).1), some (.int (am_fold i (sp_rowOne nr 3 l) (0, -9)).2), some (.int (Int32.ofNat i)), some (.int (Int32.ofNat (i / 10 / 10 / 10))), some (.int 0), some (.int (-1))], [], B0 :: B1 :: B2 :: B3 :: B4 :: B5 :: B6 :: B7 :: B8 :: B9 :: B10 :: B11 :: B12 :: bkModel tr ty nx tk pl va fa (Int32.ofNat P) dp cm tx (mp_ru nu dn) (mp_ps (mp_q la me tc ts) ps) (mp_s rd pr pv sa pd lo bo co sh se si er of_) sp ke ik bi bt so nr (upd (upd (upd ou 2 (Int32.ofNat (i % 10))) 1 (Int32.ofNat (i / 10 % 10))) 0 (Int32.ofNat (i / 10 / 10 % 10))) ho cl :: Bs) _
            have g := ih (i + 1) (upd (upd (upd ou 2 (Int32.ofNat (i % 10))) 1 (Int32.ofNat (i / 10 % 10))) 0 (Int32.ofNat (i / 10 / 10 % 10))) (some (.int (Int32.ofNat (i / 10 / 10 / 10)))) (some (.int (0))) (some (.int (-1))) (by omega)
            rw [am_fold_succ i, ← am_inc] at g
            generalize hX : (am_fold i (sp_rowOne nr 3 l) (0, -9)) = X at g ⊢
            rw [show sp_rowOne nr 3 l i X = X from if_neg (by unfold sp_rowOk; rw [if_neg (by omega)]; simp; omega)] at g
            refine am_Rn.go (t := am_t150) rfl 2 rfl ⟨trivial, trivial, trivial⟩ ?_
            refine am_Rn.brT (by decide) ?_
            refine am_Rn.go (t := am_t150) rfl 2 rfl ⟨trivial, trivial, trivial⟩ ?_
            refine am_Rn.brT (by decide) ?_
            refine am_Rn.go (t := am_t150) rfl 2 rfl ⟨trivial, trivial, trivial⟩ ?_
            exact g
        · skip
          refine am_Rn.go (t := am_t150) rfl 2 rfl ⟨trivial, trivial, trivial⟩ ?_
          refine am_Rn.brF (by decide) ?_
          refine am_Rn.go (t := am_t150) rfl 7 rfl ⟨trivial, trivial, trivial, trivial, trivial, (by decide), (by exact am_inb_lit rfl), trivial⟩ ?_
          show am_Rn sc 150 (51, _, _, B0 :: B1 :: B2 :: B3 :: B4 :: B5 :: B6 :: B7 :: B8 :: B9 :: B10 :: B11 :: B12 :: bkModel tr ty nx tk pl va fa (Int32.ofNat P) dp cm tx (mp_ru nu dn) (mp_ps (mp_q la me tc ts) ps) (mp_s rd pr pv sa pd lo bo co sh se si er of_) sp ke ik bi bt so nr (upd (upd ou 2 (Int32.ofNat (i % 10))) 1 (Int32.ofNat (i / 10) - Int32.ofNat (i / 10) / 10 * 10)) ho cl :: Bs) _
          rw [am_rem10 (n := i / 10) (by omega)]
          refine am_Rn.go (t := am_t150) rfl 4 rfl ⟨trivial, trivial, (by decide), trivial, trivial⟩ ?_
          show am_Rn sc 150 (55, _, _, B0 :: B1 :: B2 :: B3 :: B4 :: B5 :: B6 :: B7 :: B8 :: B9 :: B10 :: B11 :: B12 :: bkModel tr ty nx tk pl va fa (Int32.ofNat P) dp cm tx (mp_ru nu dn) (mp_ps (mp_q la me tc ts) ps) (mp_s rd pr pv sa pd lo bo co sh se si er of_) sp ke ik bi bt so nr (upd (upd ou 2 (Int32.ofNat (i % 10))) 1 (Int32.ofNat (i / 10 % 10))) ho cl :: Bs) _
          rw [am_div10 (n := i / 10) (by omega)]
          refine am_Rn.go (t := am_t150) rfl 7 rfl ⟨trivial, trivial, trivial, trivial, (by exact am_inb_lit rfl), trivial, trivial, trivial⟩ ?_
          refine am_Rn.brT ((am_lt (by omega) (by omega)).mpr (by omega)) ?_
          refine am_Rn.go (t := am_t150) rfl 5 rfl ⟨trivial, trivial, trivial, trivial, trivial, trivial⟩ ?_
          show am_Rn sc 150 (42, [some (.ref 416), some (.int 3), some (.int (Int32.ofNat l)), some (.int w), some (.int (am_fold i (sp_rowOne nr 3 l) (0, -9)).1), some (.int (am_fold i (sp_rowOne nr 3 l) (0, -9)).2), some (.int (Int32.ofNat i)), some (.int (Int32.ofNat (i / 10 / 10))), some (.int 0), some (.int 0)], [], B0 :: B1 :: B2 :: B3 :: B4 :: B5 :: B6 :: B7 :: B8 :: B9 :: B10 :: B11 :: B12 :: bkModel tr ty nx tk pl va fa (Int32.ofNat P) dp cm tx (mp_ru nu dn) (mp_ps (mp_q la me tc ts) ps) (mp_s rd pr pv sa pd lo bo co sh se si er of_) sp ke ik bi bt so nr (upd (upd ou 2 (Int32.ofNat (i % 10))) 1 (Int32.ofNat (i / 10 % 10))) ho cl :: Bs) _
          rcases Classical.em (i / 10 / 10 % 10 ≤ l) with hd2 | hd2
          · skip
            refine am_Rn.go (t := am_t150) rfl 2 rfl ⟨trivial, trivial, trivial⟩ ?_
            refine am_Rn.brF (by decide) ?_
            refine am_Rn.go (t := am_t150) rfl 7 rfl ⟨trivial, trivial, trivial, trivial, trivial, (by decide), (by exact am_inb_lit rfl), trivial⟩ ?_
            show am_Rn sc 150 (51, _, _, B0 :: B1 :: B2 :: B3 :: B4 :: B5 :: B6 :: B7 :: B8 :: B9 :: B10 :: B11 :: B12 :: bkModel tr ty nx tk pl va fa (Int32.ofNat P) dp cm tx (mp_ru nu dn) (mp_ps (mp_q la me tc ts) ps) (mp_s rd pr pv sa pd lo bo co sh se si er of_) sp ke ik bi bt so nr (upd (upd (upd ou 2 (Int32.ofNat (i % 10))) 1 (Int32.ofNat (i / 10 % 10))) 0 (Int32.ofNat (i / 10 / 10) - Int32.ofNat (i / 10 / 10) / 10 * 10)) ho cl :: Bs) _
            rw [am_rem10 (n := i / 10 / 10) (by omega)]
            refine am_Rn.go (t := am_t150) rfl 4 rfl ⟨trivial, trivial, (by decide), trivial, trivial⟩ ?_
            show am_Rn sc 150 (55, _, _, B0 :: B1 :: B2 :: B3 :: B4 :: B5 :: B6 :: B7 :: B8 :: B9 :: B10 :: B11 :: B12 :: bkModel tr ty nx tk pl va fa (Int32.ofNat P) dp cm tx (mp_ru nu dn) (mp_ps (mp_q la me tc ts) ps) (mp_s rd pr pv sa pd lo bo co sh se si er of_) sp ke ik bi bt so nr (upd (upd (upd ou 2 (Int32.ofNat (i % 10))) 1 (Int32.ofNat (i / 10 % 10))) 0 (Int32.ofNat (i / 10 / 10 % 10))) ho cl :: Bs) _
            rw [am_div10 (n := i / 10 / 10) (by omega)]
            refine am_Rn.go (t := am_t150) rfl 7 rfl ⟨trivial, trivial, trivial, trivial, (by exact am_inb_lit rfl), trivial, trivial, trivial⟩ ?_
            refine am_Rn.brF (fun q => absurd ((am_lt (by omega) (by omega)).mp q) (by omega)) ?_
            refine am_Rn.go (t := am_t150) rfl 6 rfl ⟨trivial, trivial, trivial, trivial, trivial, trivial, trivial⟩ ?_
            show am_Rn sc 150 (42, [some (.ref 416), some (.int 3), some (.int (Int32.ofNat l)), some (.int w), some (.int (am_fold i (sp_rowOne nr 3 l) (0, -9)).1), some (.int (am_fold i (sp_rowOne nr 3 l) (0, -9)).2), some (.int (Int32.ofNat i)), some (.int (Int32.ofNat (i / 10 / 10 / 10))), some (.int 0), some (.int (-1))], [], B0 :: B1 :: B2 :: B3 :: B4 :: B5 :: B6 :: B7 :: B8 :: B9 :: B10 :: B11 :: B12 :: bkModel tr ty nx tk pl va fa (Int32.ofNat P) dp cm tx (mp_ru nu dn) (mp_ps (mp_q la me tc ts) ps) (mp_s rd pr pv sa pd lo bo co sh se si er of_) sp ke ik bi bt so nr (upd (upd (upd ou 2 (Int32.ofNat (i % 10))) 1 (Int32.ofNat (i / 10 % 10))) 0 (Int32.ofNat (i / 10 / 10 % 10))) ho cl :: Bs) _
            have g := ih (i + 1) (upd (upd (upd ou 2 (Int32.ofNat (i % 10))) 1 (Int32.ofNat (i / 10 % 10))) 0 (Int32.ofNat (i / 10 / 10 % 10))) (some (.int (Int32.ofNat (i / 10 / 10 / 10)))) (some (.int (0))) (some (.int (-1))) (by omega)
            rw [am_fold_succ i, ← am_inc] at g
            generalize hX : (am_fold i (sp_rowOne nr 3 l) (0, -9)) = X at g ⊢
            rw [show sp_rowOne nr 3 l i X = X from if_neg (by unfold sp_rowOk; rw [if_neg (by omega)]; simp; omega)] at g
            refine am_Rn.go (t := am_t150) rfl 2 rfl ⟨trivial, trivial, trivial⟩ ?_
            refine am_Rn.brT (by decide) ?_
            refine am_Rn.go (t := am_t150) rfl 2 rfl ⟨trivial, trivial, trivial⟩ ?_
            refine am_Rn.brT (by decide) ?_
            refine am_Rn.go (t := am_t150) rfl 2 rfl ⟨trivial, trivial, trivial⟩ ?_
            exact g
          · skip
            refine am_Rn.go (t := am_t150) rfl 2 rfl ⟨trivial, trivial, trivial⟩ ?_
            refine am_Rn.brF (by decide) ?_
            refine am_Rn.go (t := am_t150) rfl 7 rfl ⟨trivial, trivial, trivial, trivial, trivial, (by decide), (by exact am_inb_lit rfl), trivial⟩ ?_
            show am_Rn sc 150 (51, _, _, B0 :: B1 :: B2 :: B3 :: B4 :: B5 :: B6 :: B7 :: B8 :: B9 :: B10 :: B11 :: B12 :: bkModel tr ty nx tk pl va fa (Int32.ofNat P) dp cm tx (mp_ru nu dn) (mp_ps (mp_q la me tc ts) ps) (mp_s rd pr pv sa pd lo bo co sh se si er of_) sp ke ik bi bt so nr (upd (upd (upd ou 2 (Int32.ofNat (i % 10))) 1 (Int32.ofNat (i / 10 % 10))) 0 (Int32.ofNat (i / 10 / 10) - Int32.ofNat (i / 10 / 10) / 10 * 10)) ho cl :: Bs) _
            rw [am_rem10 (n := i / 10 / 10) (by omega)]
            refine am_Rn.go (t := am_t150) rfl 4 rfl ⟨trivial, trivial, (by decide), trivial, trivial⟩ ?_
            show am_Rn sc 150 (55, _, _, B0 :: B1 :: B2 :: B3 :: B4 :: B5 :: B6 :: B7 :: B8 :: B9 :: B10 :: B11 :: B12 :: bkModel tr ty nx tk pl va fa (Int32.ofNat P) dp cm tx (mp_ru nu dn) (mp_ps (mp_q la me tc ts) ps) (mp_s rd pr pv sa pd lo bo co sh se si er of_) sp ke ik bi bt so nr (upd (upd (upd ou 2 (Int32.ofNat (i % 10))) 1 (Int32.ofNat (i / 10 % 10))) 0 (Int32.ofNat (i / 10 / 10 % 10))) ho cl :: Bs) _
            rw [am_div10 (n := i / 10 / 10) (by omega)]
            refine am_Rn.go (t := am_t150) rfl 7 rfl ⟨trivial, trivial, trivial, trivial, (by exact am_inb_lit rfl), trivial, trivial, trivial⟩ ?_
            refine am_Rn.brT ((am_lt (by omega) (by omega)).mpr (by omega)) ?_
            refine am_Rn.go (t := am_t150) rfl 5 rfl ⟨trivial, trivial, trivial, trivial, trivial, trivial⟩ ?_
            show am_Rn sc 150 (42, [some (.ref 416), some (.int 3), some (.int (Int32.ofNat l)), some (.int w), some (.int (am_fold i (sp_rowOne nr 3 l) (0, -9)).1), some (.int (am_fold i (sp_rowOne nr 3 l) (0, -9)).2), some (.int (Int32.ofNat i)), some (.int (Int32.ofNat (i / 10 / 10 / 10))), some (.int 0), some (.int (-1))], [], B0 :: B1 :: B2 :: B3 :: B4 :: B5 :: B6 :: B7 :: B8 :: B9 :: B10 :: B11 :: B12 :: bkModel tr ty nx tk pl va fa (Int32.ofNat P) dp cm tx (mp_ru nu dn) (mp_ps (mp_q la me tc ts) ps) (mp_s rd pr pv sa pd lo bo co sh se si er of_) sp ke ik bi bt so nr (upd (upd (upd ou 2 (Int32.ofNat (i % 10))) 1 (Int32.ofNat (i / 10 % 10))) 0 (Int32.ofNat (i / 10 / 10 % 10))) ho cl :: Bs) _
            have g := ih (i + 1) (upd (upd (upd ou 2 (Int32.ofNat (i % 10))) 1 (Int32.ofNat (i / 10 % 10))) 0 (Int32.ofNat (i / 10 / 10 % 10))) (some (.int (Int32.ofNat (i / 10 / 10 / 10)))) (some (.int (0))) (some (.int (-1))) (by omega)
            rw [am_fold_succ i, ← am_inc] at g
            generalize hX : (am_fold i (sp_rowOne nr 3 l) (0, -9)) = X at g ⊢
            rw [show sp_rowOne nr 3 l i X = X from if_neg (by unfold sp_rowOk; rw [if_neg (by omega)]; simp; omega)] at g
            refine am_Rn.go (t := am_t150) rfl 2 rfl ⟨trivial, trivial, trivial⟩ ?_
            refine am_Rn.brT (by decide) ?_
            refine am_Rn.go (t := am_t150) rfl 2 rfl ⟨trivial, trivial, trivial⟩ ?_
            refine am_Rn.brT (by decide) ?_
            refine am_Rn.go (t := am_t150) rfl 2 rfl ⟨trivial, trivial, trivial⟩ ?_
            exact g
      · skip
        refine am_Rn.go (t := am_t150) rfl 2 rfl ⟨trivial, trivial, trivial⟩ ?_
        refine am_Rn.brF (by decide) ?_
        refine am_Rn.go (t := am_t150) rfl 7 rfl ⟨trivial, trivial, trivial, trivial, trivial, (by decide), (by exact am_inb_lit rfl), trivial⟩ ?_
        show am_Rn sc 150 (51, _, _, B0 :: B1 :: B2 :: B3 :: B4 :: B5 :: B6 :: B7 :: B8 :: B9 :: B10 :: B11 :: B12 :: bkModel tr ty nx tk pl va fa (Int32.ofNat P) dp cm tx (mp_ru nu dn) (mp_ps (mp_q la me tc ts) ps) (mp_s rd pr pv sa pd lo bo co sh se si er of_) sp ke ik bi bt so nr (upd ou 2 (Int32.ofNat (i) - Int32.ofNat (i) / 10 * 10)) ho cl :: Bs) _
        rw [am_rem10 (n := i) (by omega)]
        refine am_Rn.go (t := am_t150) rfl 4 rfl ⟨trivial, trivial, (by decide), trivial, trivial⟩ ?_
        show am_Rn sc 150 (55, _, _, B0 :: B1 :: B2 :: B3 :: B4 :: B5 :: B6 :: B7 :: B8 :: B9 :: B10 :: B11 :: B12 :: bkModel tr ty nx tk pl va fa (Int32.ofNat P) dp cm tx (mp_ru nu dn) (mp_ps (mp_q la me tc ts) ps) (mp_s rd pr pv sa pd lo bo co sh se si er of_) sp ke ik bi bt so nr (upd ou 2 (Int32.ofNat (i % 10))) ho cl :: Bs) _
        rw [am_div10 (n := i) (by omega)]
        refine am_Rn.go (t := am_t150) rfl 7 rfl ⟨trivial, trivial, trivial, trivial, (by exact am_inb_lit rfl), trivial, trivial, trivial⟩ ?_
        refine am_Rn.brT ((am_lt (by omega) (by omega)).mpr (by omega)) ?_
        refine am_Rn.go (t := am_t150) rfl 5 rfl ⟨trivial, trivial, trivial, trivial, trivial, trivial⟩ ?_
        show am_Rn sc 150 (42, [some (.ref 416), some (.int 3), some (.int (Int32.ofNat l)), some (.int w), some (.int (am_fold i (sp_rowOne nr 3 l) (0, -9)).1), some (.int (am_fold i (sp_rowOne nr 3 l) (0, -9)).2), some (.int (Int32.ofNat i)), some (.int (Int32.ofNat (i / 10))), some (.int 0), some (.int 1)], [], B0 :: B1 :: B2 :: B3 :: B4 :: B5 :: B6 :: B7 :: B8 :: B9 :: B10 :: B11 :: B12 :: bkModel tr ty nx tk pl va fa (Int32.ofNat P) dp cm tx (mp_ru nu dn) (mp_ps (mp_q la me tc ts) ps) (mp_s rd pr pv sa pd lo bo co sh se si er of_) sp ke ik bi bt so nr (upd ou 2 (Int32.ofNat (i % 10))) ho cl :: Bs) _
        rcases Classical.em (i / 10 % 10 ≤ l) with hd1 | hd1
        · skip
          refine am_Rn.go (t := am_t150) rfl 2 rfl ⟨trivial, trivial, trivial⟩ ?_
          refine am_Rn.brF (by decide) ?_
          refine am_Rn.go (t := am_t150) rfl 7 rfl ⟨trivial, trivial, trivial, trivial, trivial, (by decide), (by exact am_inb_lit rfl), trivial⟩ ?_
          show am_Rn sc 150 (51, _, _, B0 :: B1 :: B2 :: B3 :: B4 :: B5 :: B6 :: B7 :: B8 :: B9 :: B10 :: B11 :: B12 :: bkModel tr ty nx tk pl va fa (Int32.ofNat P) dp cm tx (mp_ru nu dn) (mp_ps (mp_q la me tc ts) ps) (mp_s rd pr pv sa pd lo bo co sh se si er of_) sp ke ik bi bt so nr (upd (upd ou 2 (Int32.ofNat (i % 10))) 1 (Int32.ofNat (i / 10) - Int32.ofNat (i / 10) / 10 * 10)) ho cl :: Bs) _
          rw [am_rem10 (n := i / 10) (by omega)]
          refine am_Rn.go (t := am_t150) rfl 4 rfl ⟨trivial, trivial, (by decide), trivial, trivial⟩ ?_
          show am_Rn sc 150 (55, _, _, B0 :: B1 :: B2 :: B3 :: B4 :: B5 :: B6 :: B7 :: B8 :: B9 :: B10 :: B11 :: B12 :: bkModel tr ty nx tk pl va fa (Int32.ofNat P) dp cm tx (mp_ru nu dn) (mp_ps (mp_q la me tc ts) ps) (mp_s rd pr pv sa pd lo bo co sh se si er of_) sp ke ik bi bt so nr (upd (upd ou 2 (Int32.ofNat (i % 10))) 1 (Int32.ofNat (i / 10 % 10))) ho cl :: Bs) _
          rw [am_div10 (n := i / 10) (by omega)]
          refine am_Rn.go (t := am_t150) rfl 7 rfl ⟨trivial, trivial, trivial, trivial, (by exact am_inb_lit rfl), trivial, trivial, trivial⟩ ?_
          refine am_Rn.brF (fun q => absurd ((am_lt (by omega) (by omega)).mp q) (by omega)) ?_
          refine am_Rn.go (t := am_t150) rfl 6 rfl ⟨trivial, trivial, trivial, trivial, trivial, trivial, trivial⟩ ?_
          show am_Rn sc 150 (42, [some (.ref 416), some (.int 3), some (.int (Int32.ofNat l)), some (.int w), some (.int (am_fold i (sp_rowOne nr 3 l) (0, -9)).1), some (.int (am_fold i (sp_rowOne nr 3 l) (0, -9)).2), some (.int (Int32.ofNat i)), some (.int (Int32.ofNat (i / 10 / 10))), some (.int 0), some (.int 0)], [], B0 :: B1 :: B2 :: B3 :: B4 :: B5 :: B6 :: B7 :: B8 :: B9 :: B10 :: B11 :: B12 :: bkModel tr ty nx tk pl va fa (Int32.ofNat P) dp cm tx (mp_ru nu dn) (mp_ps (mp_q la me tc ts) ps) (mp_s rd pr pv sa pd lo bo co sh se si er of_) sp ke ik bi bt so nr (upd (upd ou 2 (Int32.ofNat (i % 10))) 1 (Int32.ofNat (i / 10 % 10))) ho cl :: Bs) _
          rcases Classical.em (i / 10 / 10 % 10 ≤ l) with hd2 | hd2
          · skip
            refine am_Rn.go (t := am_t150) rfl 2 rfl ⟨trivial, trivial, trivial⟩ ?_
            refine am_Rn.brF (by decide) ?_
            refine am_Rn.go (t := am_t150) rfl 7 rfl ⟨trivial, trivial, trivial, trivial, trivial, (by decide), (by exact am_inb_lit rfl), trivial⟩ ?_
            show am_Rn sc 150 (51, _, _, B0 :: B1 :: B2 :: B3 :: B4 :: B5 :: B6 :: B7 :: B8 :: B9 :: B10 :: B11 :: B12 :: bkModel tr ty nx tk pl va fa (Int32.ofNat P) dp cm tx (mp_ru nu dn) (mp_ps (mp_q la me tc ts) ps) (mp_s rd pr pv sa pd lo bo co sh se si er of_) sp ke ik bi bt so nr (upd (upd (upd ou 2 (Int32.ofNat (i % 10))) 1 (Int32.ofNat (i / 10 % 10))) 0 (Int32.ofNat (i / 10 / 10) - Int32.ofNat (i / 10 / 10) / 10 * 10)) ho cl :: Bs) _
            rw [am_rem10 (n := i / 10 / 10) (by omega)]
            refine am_Rn.go (t := am_t150) rfl 4 rfl ⟨trivial, trivial, (by decide), trivial, trivial⟩ ?_
            show am_Rn sc 150 (55, _, _, B0 :: B1 :: B2 :: B3 :: B4 :: B5 :: B6 :: B7 :: B8 :: B9 :: B10 :: B11 :: B12 :: bkModel tr ty nx tk pl va fa (Int32.ofNat P) dp cm tx (mp_ru nu dn) (mp_ps (mp_q la me tc ts) ps) (mp_s rd pr pv sa pd lo bo co sh se si er of_) sp ke ik bi bt so nr (upd (upd (upd ou 2 (Int32.ofNat (i % 10))) 1 (Int32.ofNat (i / 10 % 10))) 0 (Int32.ofNat (i / 10 / 10 % 10))) ho cl :: Bs) _
            rw [am_div10 (n := i / 10 / 10) (by omega)]
            refine am_Rn.go (t := am_t150) rfl 7 rfl ⟨trivial, trivial, trivial, trivial, (by exact am_inb_lit rfl), trivial, trivial, trivial⟩ ?_
            refine am_Rn.brF (fun q => absurd ((am_lt (by omega) (by omega)).mp q) (by omega)) ?_
            refine am_Rn.go (t := am_t150) rfl 6 rfl ⟨trivial, trivial, trivial, trivial, trivial, trivial, trivial⟩ ?_
            show am_Rn sc 150 (42, [some (.ref 416), some (.int 3), some (.int (Int32.ofNat l)), some (.int w), some (.int (am_fold i (sp_rowOne nr 3 l) (0, -9)).1), some (.int (am_fold i (sp_rowOne nr 3 l) (0, -9)).2), some (.int (Int32.ofNat i)), some (.int (Int32.ofNat (i / 10 / 10 / 10))), some (.int 0), some (.int (-1))], [], B0 :: B1 :: B2 :: B3 :: B4 :: B5 :: B6 :: B7 :: B8 :: B9 :: B10 :: B11 :: B12 :: bkModel tr ty nx tk pl va fa (Int32.ofNat P) dp cm tx (mp_ru nu dn) (mp_ps (mp_q la me tc ts) ps) (mp_s rd pr pv sa pd lo bo co sh se si er of_) sp ke ik bi bt so nr (upd (upd (upd ou 2 (Int32.ofNat (i % 10))) 1 (Int32.ofNat (i / 10 % 10))) 0 (Int32.ofNat (i / 10 / 10 % 10))) ho cl :: Bs) _
            have g := ih (i + 1) (upd (upd (upd ou 2 (Int32.ofNat (i % 10))) 1 (Int32.ofNat (i / 10 % 10))) 0 (Int32.ofNat (i / 10 / 10 % 10))) (some (.int (Int32.ofNat (i / 10 / 10 / 10)))) (some (.int (0))) (some (.int (-1))) (by omega)
            rw [am_fold_succ i, ← am_inc] at g
            generalize hX : (am_fold i (sp_rowOne nr 3 l) (0, -9)) = X at g ⊢
            rw [show sp_rowOne nr 3 l i X = X from if_neg (by unfold sp_rowOk; rw [if_neg (by omega)]; simp; omega)] at g
            refine am_Rn.go (t := am_t150) rfl 2 rfl ⟨trivial, trivial, trivial⟩ ?_
            refine am_Rn.brT (by decide) ?_
            refine am_Rn.go (t := am_t150) rfl 2 rfl ⟨trivial, trivial, trivial⟩ ?_
            refine am_Rn.brT (by decide) ?_
            refine am_Rn.go (t := am_t150) rfl 2 rfl ⟨trivial, trivial, trivial⟩ ?_
            exact g
          · skip
            refine am_Rn.go (t := am_t150) rfl 2 rfl ⟨trivial, trivial, trivial⟩ ?_
            refine am_Rn.brF (by decide) ?_
            refine am_Rn.go (t := am_t150) rfl 7 rfl ⟨trivial, trivial, trivial, trivial, trivial, (by decide), (by exact am_inb_lit rfl), trivial⟩ ?_
            show am_Rn sc 150 (51, _, _, B0 :: B1 :: B2 :: B3 :: B4 :: B5 :: B6 :: B7 :: B8 :: B9 :: B10 :: B11 :: B12 :: bkModel tr ty nx tk pl va fa (Int32.ofNat P) dp cm tx (mp_ru nu dn) (mp_ps (mp_q la me tc ts) ps) (mp_s rd pr pv sa pd lo bo co sh se si er of_) sp ke ik bi bt so nr (upd (upd (upd ou 2 (Int32.ofNat (i % 10))) 1 (Int32.ofNat (i / 10 % 10))) 0 (Int32.ofNat (i / 10 / 10) - Int32.ofNat (i / 10 / 10) / 10 * 10)) ho cl :: Bs) _
            rw [am_rem10 (n := i / 10 / 10) (by omega)]
            refine am_Rn.go (t := am_t150) rfl 4 rfl ⟨trivial, trivial, (by decide), trivial, trivial⟩ ?_
            show am_Rn sc 150 (55, _, _, B0 :: B1 :: B2 :: B3 :: B4 :: B5 :: B6 :: B7 :: B8 :: B9 :: B10 :: B11 :: B12 :: bkModel tr ty nx tk pl va fa (Int32.ofNat P) dp cm tx (mp_ru nu dn) (mp_ps (mp_q la me tc ts) ps) (mp_s rd pr pv sa pd lo bo co sh se si er of_) sp ke ik bi bt so nr (upd (upd (upd ou 2 (Int32.ofNat (i % 10))) 1 (Int32.ofNat (i / 10 % 10))) 0 (Int32.ofNat (i / 10 / 10 % 10))) ho cl :: Bs) _
            rw [am_div10 (n := i / 10 / 10) (by omega)]
            refine am_Rn.go (t := am_t150) rfl 7 rfl ⟨trivial, trivial, trivial, trivial, (by exact am_inb_lit rfl), trivial, trivial, trivial⟩ ?_
            refine am_Rn.brT ((am_lt (by omega) (by omega)).mpr (by omega)) ?_
            refine am_Rn.go (t := am_t150) rfl 5 rfl ⟨trivial, trivial, trivial, trivial, trivial, trivial⟩ ?_
            show am_Rn sc 150 (42, [some (.ref 416), some (.int 3), some (.int (Int32.ofNat l)), some (.int w), some (.int (am_fold i (sp_rowOne nr 3 l) (0, -9)).1), some (.int (am_fold i (sp_rowOne nr 3 l) (0, -9)).2), some (.int (Int32.ofNat i)), some (.int (Int32.ofNat (i / 10 / 10 / 10))), some (.int 0), some (.int (-1))], [], B0 :: B1 :: B2 :: B3 :: B4 :: B5 :: B6 :: B7 :: B8 :: B9 :: B10 :: B11 :: B12 :: bkModel tr ty nx tk pl va fa (Int32.ofNat P) dp cm tx (mp_ru nu dn) (mp_ps (mp_q la me tc ts) ps) (mp_s rd pr pv sa pd lo bo co sh se si er of_) sp ke ik bi bt so nr (upd (upd (upd ou 2 (Int32.ofNat (i % 10))) 1 (Int32.ofNat (i / 10 % 10))) 0 (Int32.ofNat (i / 10 / 10 % 10))) ho cl :: Bs) _
            have g := ih (i + 1) (upd (upd (upd ou 2 (Int32.ofNat (i % 10))) 1 (Int32.ofNat (i / 10 % 10))) 0 (Int32.ofNat (i / 10 / 10 % 10))) (some (.int (Int32.ofNat (i / 10 / 10 / 10)))) (some (.int (0))) (some (.int (-1))) (by omega)
            rw [am_fold_succ i, ← am_inc] at g
            generalize hX : (am_fold i (sp_rowOne nr 3 l) (0, -9)) = X at g ⊢
            rw [show sp_rowOne nr 3 l i X = X from if_neg (by unfold sp_rowOk; rw [if_neg (by omega)]; simp; omega)] at g
            refine am_Rn.go (t := am_t150) rfl 2 rfl ⟨trivial, trivial, trivial⟩ ?_
            refine am_Rn.brT (by decide) ?_
            refine am_Rn.go (t := am_t150) rfl 2 rfl ⟨trivial, trivial, trivial⟩ ?_
            refine am_Rn.brT (by decide) ?_
            refine am_Rn.go (t := am_t150) rfl 2 rfl ⟨trivial, trivial, trivial⟩ ?_
            exact g
        · skip
          refine am_Rn.go (t := am_t150) rfl 2 rfl ⟨trivial, trivial, trivial⟩ ?_
          refine am_Rn.brF (by decide) ?_
          refine am_Rn.go (t := am_t150) rfl 7 rfl ⟨trivial, trivial, trivial, trivial, trivial, (by decide), (by exact am_inb_lit rfl), trivial⟩ ?_
          show am_Rn sc 150 (51, _, _, B0 :: B1 :: B2 :: B3 :: B4 :: B5 :: B6 :: B7 :: B8 :: B9 :: B10 :: B11 :: B12 :: bkModel tr ty nx tk pl va fa (Int32.ofNat P) dp cm tx (mp_ru nu dn) (mp_ps (mp_q la me tc ts) ps) (mp_s rd pr pv sa pd lo bo co sh se si er of_) sp ke ik bi bt so nr (upd (upd ou 2 (Int32.ofNat (i % 10))) 1 (Int32.ofNat (i / 10) - Int32.ofNat (i / 10) / 10 * 10)) ho cl :: Bs) _
          rw [am_rem10 (n := i / 10) (by omega)]
          refine am_Rn.go (t := am_t150) rfl 4 rfl ⟨trivial, trivial, (by decide), trivial, trivial⟩ ?_
          show am_Rn sc 150 (55, _, _, B0 :: B1 :: B2 :: B3 :: B4 :: B5 :: B6 :: B7 :: B8 :: B9 :: B10 :: B11 :: B12 :: bkModel tr ty nx tk pl va fa (Int32.ofNat P) dp cm tx (mp_ru nu dn) (mp_ps (mp_q la me tc ts) ps) (mp_s rd pr pv sa pd lo bo co sh se si er of_) sp ke ik bi bt so nr (upd (upd ou 2 (Int32.ofNat (i % 10))) 1 (Int32.ofNat (i / 10 % 10))) ho cl :: Bs) _
          rw [am_div10 (n := i / 10) (by omega)]
          refine am_Rn.go (t := am_t150) rfl 7 rfl ⟨trivial, trivial, trivial, trivial, (by exact am_inb_lit rfl), trivial, trivial, trivial⟩ ?_
          refine am_Rn.brT ((am_lt (by omega) (by omega)).mpr (by omega)) ?_
          refine am_Rn.go (t := am_t150) rfl 5 rfl ⟨trivial, trivial, trivial, trivial, trivial, trivial⟩ ?_
          show am_Rn sc 150 (42, [some (.ref 416), some (.int 3), some (.int (Int32.ofNat l)), some (.int w), some (.int (am_fold i (sp_rowOne nr 3 l) (0, -9)).1), some (.int (am_fold i (sp_rowOne nr 3 l) (0, -9)).2), some (.int (Int32.ofNat i)), some (.int (Int32.ofNat (i / 10 / 10))), some (.int 0), some (.int 0)], [], B0 :: B1 :: B2 :: B3 :: B4 :: B5 :: B6 :: B7 :: B8 :: B9 :: B10 :: B11 :: B12 :: bkModel tr ty nx tk pl va fa (Int32.ofNat P) dp cm tx (mp_ru nu dn) (mp_ps (mp_q la me tc ts) ps) (mp_s rd pr pv sa pd lo bo co sh se si er of_) sp ke ik bi bt so nr (upd (upd ou 2 (Int32.ofNat (i % 10))) 1 (Int32.ofNat (i / 10 % 10))) ho cl :: Bs) _
          rcases Classical.em (i / 10 / 10 % 10 ≤ l) with hd2 | hd2
          · skip
            refine am_Rn.go (t := am_t150) rfl 2 rfl ⟨trivial, trivial, trivial⟩ ?_
            refine am_Rn.brF (by decide) ?_
            refine am_Rn.go (t := am_t150) rfl 7 rfl ⟨trivial, trivial, trivial, trivial, trivial, (by decide), (by exact am_inb_lit rfl), trivial⟩ ?_
            show am_Rn sc 150 (51, _, _, B0 :: B1 :: B2 :: B3 :: B4 :: B5 :: B6 :: B7 :: B8 :: B9 :: B10 :: B11 :: B12 :: bkModel tr ty nx tk pl va fa (Int32.ofNat P) dp cm tx (mp_ru nu dn) (mp_ps (mp_q la me tc ts) ps) (mp_s rd pr pv sa pd lo bo co sh se si er of_) sp ke ik bi bt so nr (upd (upd (upd ou 2 (Int32.ofNat (i % 10))) 1 (Int32.ofNat (i / 10 % 10))) 0 (Int32.ofNat (i / 10 / 10) - Int32.ofNat (i / 10 / 10) / 10 * 10)) ho cl :: Bs) _
            rw [am_rem10 (n := i / 10 / 10) (by omega)]
            refine am_Rn.go (t := am_t150) rfl 4 rfl ⟨trivial, trivial, (by decide), trivial, trivial⟩ ?_
            show am_Rn sc 150 (55, _, _, B0 :: B1 :: B2 :: B3 :: B4 :: B5 :: B6 :: B7 :: B8 :: B9 :: B10 :: B11 :: B12 :: bkModel tr ty nx tk pl va fa (Int32.ofNat P) dp cm tx (mp_ru nu dn) (mp_ps (mp_q la me tc ts) ps) (mp_s rd pr pv sa pd lo bo co sh se si er of_) sp ke ik bi bt so nr (upd (upd (upd ou 2 (Int32.ofNat (i % 10))) 1 (Int32.ofNat (i / 10 % 10))) 0 (Int32.ofNat (i / 10 / 10 % 10))) ho cl :: Bs) _
            rw [am_div10 (n := i / 10 / 10) (by omega)]
            refine am_Rn.go (t := am_t150) rfl 7 rfl ⟨trivial, trivial, trivial, trivial, (by exact am_inb_lit rfl), trivial, trivial, trivial⟩ ?_
            refine am_Rn.brF (fun q => absurd ((am_lt (by omega) (by omega)).mp q) (by omega)) ?_
            refine am_Rn.go (t := am_t150) rfl 6 rfl ⟨trivial, trivial, trivial, trivial, trivial, trivial, trivial⟩ ?_
            show am_Rn sc 150 (42, [some (.ref 416), some (.int 3), some (.int (Int32.ofNat l)), some (.int w), some (.int (am_fold i (sp_rowOne nr 3 l) (0, -9)).1), some (.int (am_fold i (sp_rowOne nr 3 l) (0, -9)).2), some (.int (Int32.ofNat i)), some (.int (Int32.ofNat (i / 10 / 10 / 10))), some (.int 0), some (.int (-1))], [], B0 :: B1 :: B2 :: B3 :: B4 :: B5 :: B6 :: B7 :: B8 :: B9 :: B10 :: B11 :: B12 :: bkModel tr ty nx tk pl va fa (Int32.ofNat P) dp cm tx (mp_ru nu dn) (mp_ps (mp_q la me tc ts) ps) (mp_s rd pr pv sa pd lo bo co sh se si er of_) sp ke ik bi bt so nr (upd (upd (upd ou 2 (Int32.ofNat (i % 10))) 1 (Int32.ofNat (i / 10 % 10))) 0 (Int32.ofNat (i / 10 / 10 % 10))) ho cl :: Bs) _
            have g := ih (i + 1) (upd (upd (upd ou 2 (Int32.ofNat (i % 10))) 1 (Int32.ofNat (i / 10 % 10))) 0 (Int32.ofNat (i / 10 / 10 % 10))) (some (.int (Int32.ofNat (i / 10 / 10 / 10)))) (some (.int (0))) (some (.int (-1))) (by omega)
            rw [am_fold_succ i, ← am_inc] at g
            generalize hX : (am_fold i (sp_rowOne nr 3 l) (0, -9)) = X at g ⊢
            rw [show sp_rowOne nr 3 l i X = X from if_neg (by unfold sp_rowOk; rw [if_neg (by omega)]; simp; omega)] at g
            refine am_Rn.go (t := am_t150) rfl 2 rfl ⟨trivial, trivial, trivial⟩ ?_
            refine am_Rn.brT (by decide) ?_
            refine am_Rn.go (t := am_t150) rfl 2 rfl ⟨trivial, trivial, trivial⟩ ?_
            refine am_Rn.brT (by decide) ?_
            refine am_Rn.go (t := am_t150) rfl 2 rfl ⟨trivial, trivial, trivial⟩ ?_
            exact g
          · skip
            refine am_Rn.go (t := am_t150) rfl 2 rfl ⟨trivial, trivial, trivial⟩ ?_
            refine am_Rn.brF (by decide) ?_
            refine am_Rn.go (t := am_t150) rfl 7 rfl ⟨trivial, trivial, trivial, trivial, trivial, (by decide), (by exact am_inb_lit rfl), trivial⟩ ?_
            show am_Rn sc 150 (51, _, _, B0 :: B1 :: B2 :: B3 :: B4 :: B5 :: B6 :: B7 :: B8 :: B9 :: B10 :: B11 :: B12 :: bkModel tr ty nx tk pl va fa (Int32.ofNat P) dp cm tx (mp_ru nu dn) (mp_ps (mp_q la me tc ts) ps) (mp_s rd pr pv sa pd lo bo co sh se si er of_) sp ke ik bi bt so nr (upd (upd (upd ou 2 (Int32.ofNat (i % 10))) 1 (Int32.ofNat (i / 10 % 10))) 0 (Int32.ofNat (i / 10 / 10) - Int32.ofNat (i / 10 / 10) / 10 * 10)) ho cl :: Bs) _
            rw [am_rem10 (n := i / 10 / 10) (by omega)]
            refine am_Rn.go (t := am_t150) rfl 4 rfl ⟨trivial, trivial, (by decide), trivial, trivial⟩ ?_
            show am_Rn sc 150 (55, _, _, B0 :: B1 :: B2 :: B3 :: B4 :: B5 :: B6 :: B7 :: B8 :: B9 :: B10 :: B11 :: B12 :: bkModel tr ty nx tk pl va fa (Int32.ofNat P) dp cm tx (mp_ru nu dn) (mp_ps (mp_q la me tc ts) ps) (mp_s rd pr pv sa pd lo bo co sh se si er of_) sp ke ik bi bt so nr (upd (upd (upd ou 2 (Int32.ofNat (i % 10))) 1 (Int32.ofNat (i / 10 % 10))) 0 (Int32.ofNat (i / 10 / 10 % 10))) ho cl :: Bs) _
            rw [am_div10 (n := i / 10 / 10) (by omega)]
            refine am_Rn.go (t := am_t150) rfl 7 rfl ⟨trivial, trivial, trivial, trivial, (by exact am_inb_lit rfl), trivial, trivial, trivial⟩ ?_
            refine am_Rn.brT ((am_lt (by omega) (by omega)).mpr (by omega)) ?_
            refine am_Rn.go (t := am_t150) rfl 5 rfl ⟨trivial, trivial, trivial, trivial, trivial, trivial⟩ ?_
            show am_Rn sc 150 (42, [some (.ref 416), some (.int 3), some (.int (Int32.ofNat l)), some (.int w), some (.int (am_fold i (sp_rowOne nr 3 l) (0, -9)).1), some (.int (am_fold i (sp_rowOne nr 3 l) (0, -9)).2), some (.int (Int32.ofNat i)), some (.int (Int32.ofNat (i / 10 / 10 / 10))), some (.int 0), some (.int (-1))], [], B0 :: B1 :: B2 :: B3 :: B4 :: B5 :: B6 :: B7 :: B8 :: B9 :: B10 :: B11 :: B12 :: bkModel tr ty nx tk pl va fa (Int32.ofNat P) dp cm tx (mp_ru nu dn) (mp_ps (mp_q la me tc ts) ps) (mp_s rd pr pv sa pd lo bo co sh se si er of_) sp ke ik bi bt so nr (upd (upd (upd ou 2 (Int32.ofNat (i % 10))) 1 (Int32.ofNat (i / 10 % 10))) 0 (Int32.ofNat (i / 10 / 10 % 10))) ho cl :: Bs) _
            have g := ih (i + 1) (upd (upd (upd ou 2 (Int32.ofNat (i % 10))) 1 (Int32.ofNat (i / 10 % 10))) 0 (Int32.ofNat (i / 10 / 10 % 10))) (some (.int (Int32.ofNat (i / 10 / 10 / 10)))) (some (.int (0))) (some (.int (-1))) (by omega)
            rw [am_fold_succ i, ← am_inc] at g
            generalize hX : (am_fold i (sp_rowOne nr 3 l) (0, -9)) = X at g ⊢
            rw [show sp_rowOne nr 3 l i X = X from if_neg (by unfold sp_rowOk; rw [if_neg (by omega)]; simp; omega)] at g
            refine am_Rn.go (t := am_t150) rfl 2 rfl ⟨trivial, trivial, trivial⟩ ?_
            refine am_Rn.brT (by decide) ?_
            refine am_Rn.go (t := am_t150) rfl 2 rfl ⟨trivial, trivial, trivial⟩ ?_
            refine am_Rn.brT (by decide) ?_
            refine am_Rn.go (t := am_t150) rfl 2 rfl ⟨trivial, trivial, trivial⟩ ?_
            exact g
  refine am_Rn.go (t := am_t150) rfl 6 rfl ⟨trivial, trivial, trivial, trivial, trivial, trivial, trivial⟩ ?_
  refine am_Rn.call (t := am_t150) rfl rfl (sx_in ..) ?_
  rintro _ _ ⟨rfl, rfl⟩
  refine am_Rn.go (t := am_t150) rfl 1 rfl ⟨trivial, trivial⟩ ?_
  refine am_Rn.brF (fun z => am_b0.mp z (by decide)) ?_
  refine am_Rn.go (t := am_t150) rfl 3 rfl ⟨trivial, trivial, trivial, trivial⟩ ?_
  refine am_Rn.call (t := am_t150) rfl rfl (sx_in ..) ?_
  rintro _ _ ⟨rfl, rfl⟩
  refine am_Rn.go (t := am_t150) rfl 1 rfl ⟨trivial, trivial⟩ ?_
  refine am_Rn.brF (fun z => am_b0.mp z ⟨(am_le (i := 1) (by omega) (by omega)).mpr (by omega), (am_le (j := 8) (by omega) (by omega)).mpr (by omega)⟩) ?_
  refine am_Rn.go (t := am_t150) rfl 3 rfl ⟨trivial, trivial, trivial, trivial⟩ ?_
  refine am_Rn.call (t := am_t150) rfl rfl (sx_in ..) ?_
  rintro _ _ ⟨rfl, rfl⟩
  refine am_Rn.go (t := am_t150) rfl 1 rfl ⟨trivial, trivial⟩ ?_
  refine am_Rn.brF (fun z => am_b0.mp z hw) ?_
  refine am_Rn.go (t := am_t150) rfl 6 rfl ⟨trivial, trivial, trivial, trivial, trivial, trivial, trivial⟩ ?_
  exact L 1000 0 ou none none none (by omega)
theorem mm_rests_F (sc : am_Sc) (m l w : Int32) (hw : ¬ ((2 ≤ m ∧ m ≤ 3) ∧ (1 ≤ l ∧ l ≤ 8) ∧ (0 ≤ w ∧ w ≤ 1))) (tr : Int64) (ty nx tk pl va fa dp cm : Int32) (tx nu dn la me tc ts ps : Nat → Int32) (P : Nat) (rd pr pv sa pd lo : Int32) (bo co sh se si er of_ sp ke ik bi bt so nr ou ho cl : Nat → Int32) (B0 B1 B2 B3 B4 B5 B6 B7 B8 B9 B10 B11 B12 : List am_E) (Bs : am_M) : am_Rn sc 150 (0, am_entry 150 [.ref 416, .int m, .int l, .int w], [], B0 :: B1 :: B2 :: B3 :: B4 :: B5 :: B6 :: B7 :: B8 :: B9 :: B10 :: B11 :: B12 :: bkModel tr ty nx tk pl va fa (Int32.ofNat P) dp cm tx (mp_ru nu dn) (mp_ps (mp_q la me tc ts) ps) (mp_s rd pr pv sa pd lo bo co sh se si er of_) sp ke ik bi bt so nr ou ho cl :: Bs) (fun r M' => r = some (.int (-1)) ∧ M' = B0 :: B1 :: B2 :: B3 :: B4 :: B5 :: B6 :: B7 :: B8 :: B9 :: B10 :: B11 :: B12 :: bkModel tr ty nx tk pl va fa (Int32.ofNat P) dp cm tx (mp_ru nu dn) (mp_ps (mp_q la me tc ts) ps) (mp_s rd pr pv sa pd lo bo co sh se si er of_) sp ke ik bi bt so nr ou ho cl :: Bs) := by
  show am_Rn sc 150 (0, [some (.ref 416), some (.int m), some (.int l), some (.int w), none, none, none, none, none, none], [], _) _
  refine am_Rn.go (t := am_t150) rfl 6 rfl ⟨trivial, trivial, trivial, trivial, trivial, trivial, trivial⟩ ?_
  refine am_Rn.call (t := am_t150) rfl rfl (sx_in ..) ?_
  rintro _ _ ⟨rfl, rfl⟩
  refine am_Rn.go (t := am_t150) rfl 1 rfl ⟨trivial, trivial⟩ ?_
  refine am_Rn.brB (fun h1 => ?_) (fun h1 => ?_)
  · skip
    refine am_Rn.go (t := am_t150) rfl 1 rfl ⟨trivial, trivial⟩ ?_
    refine am_Rn.ret (t := am_t150) rfl rfl trivial ?_
    exact ⟨rfl, rfl⟩
  · skip
    refine am_Rn.go (t := am_t150) rfl 3 rfl ⟨trivial, trivial, trivial, trivial⟩ ?_
    refine am_Rn.call (t := am_t150) rfl rfl (sx_in ..) ?_
    rintro _ _ ⟨rfl, rfl⟩
    refine am_Rn.go (t := am_t150) rfl 1 rfl ⟨trivial, trivial⟩ ?_
    refine am_Rn.brB (fun h2 => ?_) (fun h2 => ?_)
    · skip
      refine am_Rn.go (t := am_t150) rfl 1 rfl ⟨trivial, trivial⟩ ?_
      refine am_Rn.ret (t := am_t150) rfl rfl trivial ?_
      exact ⟨rfl, rfl⟩
    · skip
      refine am_Rn.go (t := am_t150) rfl 3 rfl ⟨trivial, trivial, trivial, trivial⟩ ?_
      refine am_Rn.call (t := am_t150) rfl rfl (sx_in ..) ?_
      rintro _ _ ⟨rfl, rfl⟩
      refine am_Rn.go (t := am_t150) rfl 1 rfl ⟨trivial, trivial⟩ ?_
      refine am_Rn.brB (fun h3 => ?_) (fun h3 => ?_)
      · skip
        refine am_Rn.go (t := am_t150) rfl 1 rfl ⟨trivial, trivial⟩ ?_
        refine am_Rn.ret (t := am_t150) rfl rfl trivial ?_
        exact ⟨rfl, rfl⟩
      · skip
        exact absurd ⟨(by assumption), (by assumption), (by assumption)⟩ hw
