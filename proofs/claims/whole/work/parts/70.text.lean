/-! ===== one text, typed twice ===== -/
def sp_b (c f : Int32) : Prop := (c = f ∧ 0 ≤ f ∧ f ≤ 127) ∨ (c < 0 ∧ 127 < f)
theorem sp_byte (y : Int64) : sp_b (vp_nar .byte y.toInt32.toInt8.toInt32) (y &&& 255).toInt32 ∧ 0 ≤ (y &&& 255).toInt32 := by
  have e0 : vp_nar .byte y.toInt32.toInt8.toInt32 = y.toInt32.toInt8.toInt32.toInt8.toInt32 := rfl
  rw [e0]
  have hn : y.toInt = (y.toBitVec.toNat : Int).bmod (2 ^ 64) := BitVec.toInt_eq_toNat_bmod y.toBitVec
  have hf : (y &&& 255).toInt = ((y.toBitVec.toNat % 256 : Nat) : Int) := by
    have h1 : (y &&& 255).toInt = ((y &&& 255).toBitVec.toNat : Int).bmod (2 ^ 64) := BitVec.toInt_eq_toNat_bmod (y &&& 255).toBitVec
    have h2 : (y &&& 255).toBitVec.toNat = y.toBitVec.toNat % 256 := by
      rw [Int64.toBitVec_and, BitVec.toNat_and]
      exact Nat.and_two_pow_sub_one_eq_mod y.toBitVec.toNat 8
    rw [h1, h2]
    exact Int.bmod_eq_of_le (by omega) (by omega)
  have hf2 : (y &&& 255).toInt32.toInt = ((y.toBitVec.toNat % 256 : Nat) : Int) := by
    rw [Int64.toInt_toInt32, hf]
    exact Int.bmod_eq_of_le (by omega) (by omega)
  have hc : y.toInt32.toInt8.toInt32.toInt8.toInt32.toInt = (y.toBitVec.toNat : Int).bmod 256 := by
    rw [Int8.toInt_toInt32, Int32.toInt_toInt8, Int8.toInt_toInt32, Int32.toInt_toInt8, Int64.toInt_toInt32, hn]
    rw [Int.bmod_bmod_of_dvd (by decide), Int.bmod_bmod_of_dvd (by decide), Int.bmod_bmod_of_dvd (by decide)]
  generalize y.toBitVec.toNat = n at hc hf2
  generalize y.toInt32.toInt8.toInt32.toInt8.toInt32 = c at hc ⊢
  generalize (y &&& 255).toInt32 = f at hf2 ⊢
  rw [Int.bmod_def] at hc
  have z0 : (0 : Int32).toInt = 0 := rfl
  have z1 : (127 : Int32).toInt = 127 := rfl
  unfold sp_b
  simp only [Int32.lt_iff_toInt_lt, Int32.le_iff_toInt_le, ← Int32.toInt_inj]
  by_cases h : (n : Int) % (256 : Nat) < ((256 : Nat) + 1) / 2
  · rw [if_pos h] at hc
    refine ⟨Or.inl ⟨by omega, by omega, by omega⟩, by omega⟩
  · rw [if_neg h] at hc
    refine ⟨Or.inr ⟨by omega, by omega⟩, by omega⟩
def sp_tc (n : Nat) (c f : Nat → Int32) : Prop := ∀ i, i < n → sp_b (c i) (f i) ∧ 0 ≤ f i
theorem sp_b_eq {c f v : Int32} (h : sp_b c f) (h0 : 0 ≤ v) (h1 : v ≤ 127) : c = v ↔ f = v := by
  rcases h with ⟨e, _, _⟩ | ⟨a, b⟩
  · rw [e]
  · constructor
    · intro e
      rw [e] at a
      exact absurd a (Int32.not_lt.mpr h0)
    · intro e
      rw [e] at b
      exact absurd b (Int32.not_lt.mpr h1)
theorem sp_b_rng {c f a b : Int32} (h : sp_b c f) (h0 : 0 ≤ a) (h1 : b ≤ 127) : (a ≤ c ∧ c ≤ b) ↔ (a ≤ f ∧ f ≤ b) := by
  rcases h with ⟨e, _, _⟩ | ⟨x, y⟩
  · rw [e]
  · constructor
    · intro z
      exact absurd x (Int32.not_lt.mpr (Int32.le_trans h0 z.1))
    · intro z
      exact absurd y (Int32.not_lt.mpr (Int32.le_trans z.2 h1))
theorem sp_run_cf {p : Int32 → Bool} {c f : Nat → Int32} {n : Nat} (h : ∀ i, i < n → p (c i) = p (f i)) : ∀ d i : Nat, i + d ≤ n → sp_run p c d i = sp_run p f d i := by
  intro d
  induction d with
  | zero => intro i _; exact (rfl : i = i)
  | succ d ih =>
    intro i hi
    unfold sp_run
    rw [h i (by omega), ih (i + 1) (by omega)]
theorem sp_num_cf {c f : Nat → Int32} {n : Nat} (h : sp_tc n c f) : ∀ (d i : Nat) (v : Int32), i + d ≤ n → sp_num c d i v = sp_num f d i v := by
  intro d
  induction d with
  | zero => intro i v _; exact (rfl : v = v)
  | succ d ih =>
    intro i v hi
    have hb := (h i (by omega)).1
    unfold sp_num
    have e1 : sp_dig (c i) = sp_dig (f i) := by
      unfold sp_dig
      exact decide_eq_decide.mpr (sp_b_rng hb (by decide) (by decide))
    rw [e1]
    by_cases q : sp_dig (f i) = true
    · rw [if_pos q, if_pos q]
      have q2 := sp_digT.mp q
      have e2 : c i = f i := by
        rcases hb with ⟨e, _, _⟩ | ⟨_, y⟩
        · exact e
        · exact absurd y (Int32.not_lt.mpr (Int32.le_trans q2.2 (by decide)))
      rw [e2, ih _ _ (by omega)]
    · rw [if_neg q, if_neg q]
theorem sp_wd_rng : ∀ i : Nat, i < 89 → 0 ≤ sp_wd i ∧ sp_wd i ≤ 127 := by decide +kernel
theorem sp_wF_cf {c f : Nat → Int32} {n : Nat} (h : sp_tc n c f) (s l : Nat) (va : Int32) : sp_wFold c s l n va 89 = sp_wFold f s l n va 89 := am_fold_congr 89 (fun i hi X => by
  have hw := sp_wd_rng i hi
  have e : decide (sp_wd i = (if s + i - X.2.2.2.1 < n then c (s + i - X.2.2.2.1) else -1)) = decide (sp_wd i = (if s + i - X.2.2.2.1 < n then f (s + i - X.2.2.2.1) else -1)) := by
    by_cases q : s + i - X.2.2.2.1 < n
    · rw [if_pos q, if_pos q]
      have := sp_b_eq (h _ q).1 hw.1 hw.2
      exact decide_eq_decide.mpr ⟨fun z => (this.mp z.symm).symm, fun z => (this.mpr z.symm).symm⟩
    · rw [if_neg q, if_neg q]
  unfold sp_wOne
  rw [e]) _
theorem sp_t_cf {c f : Nat → Int32} {n : Nat} (h : sp_tc n c f) (i : Nat) : sp_t c n i = sp_t f n i := by
  have h32 : ∀ j, j < n → sp_sp (c j) = sp_sp (f j) := fun j hj => by
    unfold sp_sp
    exact decide_eq_decide.mpr (sp_b_eq (h j hj).1 (by decide) (by decide))
  have hdg : ∀ j, j < n → sp_dig (c j) = sp_dig (f j) := fun j hj => by
    unfold sp_dig
    exact decide_eq_decide.mpr (sp_b_rng (h j hj).1 (by decide) (by decide))
  have hlt : ∀ j, j < n → sp_let (c j) = sp_let (f j) := fun j hj => by
    unfold sp_let
    exact decide_eq_decide.mpr (sp_b_rng (h j hj).1 (by decide) (by decide))
  unfold sp_t sp_tok
  have e0 : sp_run sp_sp c (n - i) i = sp_run sp_sp f (n - i) i := by
    by_cases q : i ≤ n
    · exact sp_run_cf h32 (n - i) i (by omega)
    · rw [show n - i = 0 by omega]
      exact (rfl : i = i)
  rw [e0]
  generalize sp_run sp_sp f (n - i) i = s
  unfold sp_tokAt
  by_cases q : n ≤ s
  · rw [if_pos q, if_pos q]
  · rw [if_neg q, if_neg q]
    have hs := h s (by omega)
    have e59 : (c s = 59) = (f s = 59) := propext (sp_b_eq hs.1 (by decide) (by decide))
    have e48 : (c s = 48) = (f s = 48) := propext (sp_b_eq hs.1 (by decide) (by decide))
    have r1 := sp_run_cf hdg (n - s) s (by omega)
    have r2 := sp_run_cf hlt (n - s) s (by omega)
    have r3 := sp_num_cf h (n - s) s 0 (by omega)
    rw [r1, r2, r3, hdg s (by omega), hlt s (by omega), sp_wF_cf h]
    have ek : ∀ e v, sp_nkind c s e v = sp_nkind f s e v := fun e v => by
      unfold sp_nkind
      by_cases q1 : 99 < v ∨ (f s = 48 ∧ 1 < e - s)
      · rw [if_pos q1, if_pos (q1.imp id (fun z => ⟨e48.mpr z.1, z.2⟩))]
      · rw [if_neg q1, if_neg (fun z => q1 (z.imp id (fun z => ⟨e48.mp z.1, z.2⟩)))]
    rw [ek]
    by_cases q59 : f s = 59
    · rw [if_pos q59, if_pos (e59.mpr q59)]
    · rw [if_neg q59, if_neg (fun z => q59 (e59.mp z))]
theorem sp_nums_h {c f : Nat → Int32} {n : Nat} (h : ∀ i, sp_t c n i = sp_t f n i) : ∀ (k q i : Nat) (nu : Nat → Int32), sp_nums c n k q i nu = sp_nums f n k q i nu := by
  intro k
  induction k with
  | zero => intro q i nu; exact (rfl : (Sum.inr (nu, i) : Nat ⊕ (Nat → Int32) × Nat) = Sum.inr (nu, i))
  | succ k ih =>
    intro q i nu
    unfold sp_nums
    rw [h i, ih]
theorem sp_pTail_h {c f : Nat → Int32} {n : Nat} (h : ∀ i, sp_t c n i = sp_t f n i) (i : Nat) (law me : Int32) : sp_pTail c n i law me = sp_pTail f n i law me := by
  unfold sp_pTail
  rw [h i, h]
theorem sp_pers_h {c f : Nat → Int32} {n : Nat} (h : ∀ i, sp_t c n i = sp_t f n i) (i : Nat) : sp_pers c n i = sp_pers f n i := by
  unfold sp_pers
  rw [h i, sp_pTail_h h, sp_pTail_h h, h (sp_t f n i).2.2.2]
theorem sp_rule_h {c f : Nat → Int32} {n : Nat} (h : ∀ i, sp_t c n i = sp_t f n i) (w i p0 : Nat) (tw : Int32) (nu : Nat → Int32) : sp_rule c n w i p0 tw nu = sp_rule f n w i p0 tw nu := by
  unfold sp_rule
  rw [sp_nums_h h]
theorem sp_stop_h {c f : Nat → Int32} {n : Nat} (h : ∀ i, sp_t c n i = sp_t f n i) (i : Nat) (D : sp_DR) (tw : Int32) : sp_stop c n i D tw = sp_stop f n i D tw := by
  unfold sp_stop
  rw [h i]
theorem sp_item_h {c f : Nat → Int32} {n : Nat} (h : ∀ i, sp_t c n i = sp_t f n i) (i : Nat) (tw : Int32) (D : sp_DR) : sp_item c n i tw D = sp_item f n i tw D := by
  have h1 : ∀ S, sp_itPer c n tw D S = sp_itPer f n tw D S := by
    intro S
    cases S with
    | inl p => exact (rfl : (Sum.inl p : Nat ⊕ sp_DR × Int32 × Nat) = Sum.inl p)
    | inr X => exact sp_stop_h h _ _ _
  have h2 : ∀ tw S, sp_itRule c n tw D S = sp_itRule f n tw D S := by
    intro tw S
    cases S with
    | inl p => exact (rfl : (Sum.inl p : Nat ⊕ sp_DR × Int32 × Nat) = Sum.inl p)
    | inr X => exact sp_stop_h h _ _ _
  unfold sp_item
  rw [h i, h1, h2, sp_pers_h h, sp_rule_h h]
theorem sp_items_h {c f : Nat → Int32} {n : Nat} (h : ∀ i, sp_t c n i = sp_t f n i) : ∀ (k i : Nat) (tw : Int32) (D : sp_DR) (it : Nat), sp_items c n k i tw D it = sp_items f n k i tw D it := by
  intro k
  induction k with
  | zero => intro i tw D it; exact (rfl : (Sum.inr (D, it) : Nat ⊕ sp_DR × Nat) = Sum.inr (D, it))
  | succ k ih =>
    intro i tw D it
    unfold sp_items
    rw [h i, sp_item_h h]
    by_cases q : (sp_t f n i).2.1 = 1
    · rw [if_pos q, if_pos q]
    · rw [if_neg q, if_neg q]
      cases sp_item f n i tw D with
      | inl p => exact (rfl : (Sum.inl p : Nat ⊕ sp_DR × Nat) = Sum.inl p)
      | inr X => exact ih _ _ _ _
/-! two drafts that tell the same -/
def sp_nn (a b : Nat → Int32) : Prop := (∀ k, k < 10 → k ≠ 4 → a k = b k ∧ sp_low k ≤ a k ∧ a k ≤ sp_most k) ∧ ((a 4 = b 4 ∧ 1 ≤ a 4) ∨ (a 4 = 0 ∧ b 4 = -9))
def sp_laOk (x : Int32) : Prop := x = 0 ∨ x = 1 ∨ x = 2 ∨ x = 3 ∨ x = 4
def sp_dd (D E : sp_DR) : Prop := sp_nn D.1 E.1 ∧ D.2.2.2.2.2 = E.2.2.2.2.2 ∧ D.2.2.2.2.2 ≤ 9 ∧ sp_eqN D.2.2.2.2.2 D.2.1 E.2.1 ∧ sp_eqN D.2.2.2.2.2 D.2.2.1 E.2.2.1 ∧ sp_eqN D.2.2.2.2.2 D.2.2.2.1 E.2.2.2.1 ∧ sp_eqN D.2.2.2.2.2 D.2.2.2.2.1 E.2.2.2.2.1 ∧ ∀ p, p < D.2.2.2.2.2 → sp_laOk (D.2.1 p)
theorem sp_nn_upd {a b : Nat → Int32} {q : Nat} {v : Int32} (h : sp_nn a b) (hq : q < 10) (h1 : sp_least q ≤ v) (h2 : v ≤ sp_most q) : sp_nn (upd a q v) (upd b q v) := by
  obtain ⟨g1, g2⟩ := h
  constructor
  · intro k hk hk4
    by_cases e : k = q
    · subst e
      rw [mp_upd_eq, mp_upd_eq]
      exact ⟨rfl, Int32.le_trans (sp_low_le k hk) h1, h2⟩
    · rw [mp_upd_ne _ _ e, mp_upd_ne _ _ e]
      exact g1 k hk hk4
  · by_cases e : 4 = q
    · subst e
      rw [mp_upd_eq, mp_upd_eq]
      exact Or.inl ⟨rfl, h1⟩
    · rw [mp_upd_ne _ _ e, mp_upd_ne _ _ e]
      exact g2
theorem sp_nums_nn {c : Nat → Int32} {n : Nat} : ∀ (k q i : Nat) (a b : Nat → Int32), q + k ≤ 10 → sp_nn a b → (∃ p, sp_nums c n k q i a = .inl p ∧ sp_nums c n k q i b = .inl p) ∨ (∃ x y j, sp_nums c n k q i a = .inr (x, j) ∧ sp_nums c n k q i b = .inr (y, j) ∧ sp_nn x y) := by
  intro k
  induction k with
  | zero => intro q i a b _ h; exact Or.inr ⟨a, b, i, rfl, rfl, h⟩
  | succ k ih =>
    intro q i a b hq h
    unfold sp_nums
    by_cases g : sp_okN (sp_t c n i) (sp_least q) (sp_most q) = true
    · rw [if_pos g, if_pos g]
      have g2 := of_decide_eq_true g
      exact ih (q + 1) _ _ _ (by omega) (sp_nn_upd h (by omega) g2.2.1 g2.2.2)
    · rw [if_neg g, if_neg g]
      exact Or.inl ⟨_, rfl, rfl⟩
theorem sp_pers_law {c : Nat → Int32} {n i : Nat} {X : Int32 × Int32 × Int32 × Int32 × Nat} (h : sp_pers c n i = .inr X) : sp_laOk X.1 := by
  have hT : ∀ (i : Nat) (law me : Int32) (X : Int32 × Int32 × Int32 × Int32 × Nat), sp_pTail c n i law me = .inr X → X.1 = law := by
    intro i law me X h
    unfold sp_pTail at h
    split at h
    · split at h
      · cases h; rfl
      · cases h
    · cases h
  unfold sp_pers at h
  split at h
  · next g =>
    obtain ⟨w, hw, hv⟩ := sp_t_word c n i g.1
    have hw10 : 10 ≤ w := by
      have := g.2
      rw [hv] at this
      exact (am_le (i := 10) (by omega) (by omega)).mp this
    have hl : sp_laOk ((sp_t c n i).2.2.1 - 10) := by
      rw [hv]
      rcases (show w = 10 ∨ w = 11 ∨ w = 12 ∨ w = 13 ∨ w = 14 by omega) with rfl | rfl | rfl | rfl | rfl <;> unfold sp_laOk <;> decide
    split at h
    · next g0 => rw [hT _ _ _ _ h]; exact Or.inl rfl
    · generalize (if (sp_t c n i).2.2.1 - 10 = 3 then (99 : Int32) else 9) = u at h
      split at h
      · rw [hT _ _ _ _ h]; exact hl
      · cases h
  · cases h
def sp_id (A B : Nat ⊕ sp_DR × Int32 × Nat) : Prop := (∃ p, A = .inl p ∧ B = .inl p) ∨ (∃ D E tw i, A = .inr (D, tw, i) ∧ B = .inr (E, tw, i) ∧ sp_dd D E)
theorem sp_stop_dd {c : Nat → Int32} {n i : Nat} {D E : sp_DR} {tw : Int32} (h : sp_dd D E) : sp_id (sp_stop c n i D tw) (sp_stop c n i E tw) := by
  unfold sp_stop
  by_cases g : (sp_t c n i).2.1 = 2
  · rw [if_pos g, if_pos g]
    exact Or.inr ⟨D, E, tw, _, rfl, rfl, h⟩
  · rw [if_neg g, if_neg g]
    exact Or.inl ⟨_, rfl, rfl⟩
theorem sp_eqN_snoc {P : Nat} {f g : Nat → Int32} (h : sp_eqN P f g) (v : Int32) : sp_eqN (P + 1) (upd f P v) (upd g P v) := by
  intro k hk
  by_cases e : k = P
  · rw [e, mp_upd_eq, mp_upd_eq]
  · rw [mp_upd_ne _ _ e, mp_upd_ne _ _ e]
    exact h k (by omega)
theorem sp_item_dd {c : Nat → Int32} {n i : Nat} {tw : Int32} {D E : sp_DR} (h : sp_dd D E) : sp_id (sp_item c n i tw D) (sp_item c n i tw E) := by
  obtain ⟨nu, la, me, tc, ts, P⟩ := D
  obtain ⟨nu', la', me', tc', ts', P'⟩ := E
  obtain ⟨h1, h2, h3, h4, h5, h6, h7, h8⟩ := h
  dsimp only at h1 h2 h3 h4 h5 h6 h7 h8
  subst h2
  unfold sp_item
  by_cases g4 : (sp_t c n i).2.1 = 4
  · rw [if_pos g4, if_pos g4]
    by_cases g9 : (sp_t c n i).2.2.1 = 9
    · rw [if_pos g9, if_pos g9]
      dsimp only
      by_cases gP : 9 ≤ P
      · rw [if_pos gP]
        exact Or.inl ⟨_, rfl, rfl⟩
      · rw [if_neg gP]
        rcases hS : sp_pers c n (sp_t c n i).2.2.2 with p | X
        · exact Or.inl ⟨p, rfl, rfl⟩
        · have hl := sp_pers_law hS
          refine sp_stop_dd (D := sp_perD (nu, la, me, tc, ts, P) X) (E := sp_perD (nu', la', me', tc', ts', P) X) ⟨h1, rfl, ?_, sp_eqN_snoc h4 _, sp_eqN_snoc h5 _, sp_eqN_snoc h6 _, sp_eqN_snoc h7 _, ?_⟩
          · show P + 1 ≤ 9
            omega
          · intro p hp
            show sp_laOk (upd la P X.1 p)
            by_cases e : p = P
            · rw [e, mp_upd_eq]; exact hl
            · rw [mp_upd_ne _ _ e]
              exact h8 p (by have : p < P + 1 := hp; omega)
    · rw [if_neg g9, if_neg g9]
      dsimp only
      obtain ⟨w, hw, hv⟩ := sp_t_word c n i g4
      have ew : (sp_t c n i).2.2.1.toNatClampNeg = w := by rw [hv]; exact am_tn w (by omega)
      rw [ew]
      unfold sp_rule
      by_cases gr : 9 ≤ w ∨ ¬ (tw >>> (Int32.ofNat w &&& 31)) &&& 1 = 0
      · rw [if_pos gr, if_pos gr]
        exact Or.inl ⟨_, rfl, rfl⟩
      · rw [if_neg gr, if_neg gr]
        have hw9 : w < 9 := Nat.lt_of_not_le (fun z => gr (Or.inl z))
        have hq : sp_rFirst w + sp_rMany w ≤ 10 := by
          unfold sp_rFirst sp_rMany
          split <;> split <;> omega
        rcases sp_nums_nn (c := c) (n := n) (sp_rMany w) (sp_rFirst w) (sp_t c n i).2.2.2 nu nu' hq h1 with ⟨p, e1, e2⟩ | ⟨x, y, j, e1, e2, e3⟩
        · rw [e1, e2]
          exact Or.inl ⟨p, rfl, rfl⟩
        · rw [e1, e2]
          exact sp_stop_dd (D := (x, la, me, tc, ts, P)) (E := (y, la', me', tc', ts', P)) ⟨e3, rfl, h3, h4, h5, h6, h7, h8⟩
  · rw [if_neg g4, if_neg g4]
    exact Or.inl ⟨_, rfl, rfl⟩
theorem sp_items_dd {c : Nat → Int32} {n : Nat} : ∀ (k i : Nat) (tw : Int32) (D E : sp_DR) (it : Nat), sp_dd D E → (∃ p, sp_items c n k i tw D it = .inl p ∧ sp_items c n k i tw E it = .inl p) ∨ (∃ X Y j, sp_items c n k i tw D it = .inr (X, j) ∧ sp_items c n k i tw E it = .inr (Y, j) ∧ sp_dd X Y) := by
  intro k
  induction k with
  | zero => intro i tw D E it h; exact Or.inr ⟨D, E, it, rfl, rfl, h⟩
  | succ k ih =>
    intro i tw D E it h
    unfold sp_items
    by_cases q : (sp_t c n i).2.1 = 1
    · rw [if_pos q, if_pos q]
      exact Or.inr ⟨D, E, it, rfl, rfl, h⟩
    · rw [if_neg q, if_neg q]
      rcases sp_item_dd (c := c) (n := n) (i := i) (tw := tw) h with ⟨p, e1, e2⟩ | ⟨D2, E2, tw2, i2, e1, e2, e3⟩
      · rw [e1, e2]
        exact Or.inl ⟨p, rfl, rfl⟩
      · rw [e1, e2]
        exact ih i2 tw2 D2 E2 (it + 1) e3
theorem sp_settle_c {a b nu nu' : Nat → Int32} (h : sp_nn a b) : sp_eqN 10 (sp_cp 10 (sp_settle a) nu) (sp_settleM (sp_cov 10 b nu')) ∧ sp_nuOk (sp_cp 10 (sp_settle a) nu) := by
  obtain ⟨h1, h2⟩ := h
  have hcb : ∀ k, k < 10 → sp_cov 10 b nu' k = b k := fun k hk => if_pos hk
  have hsa : ∀ k, k < 10 → k ≠ 4 → sp_settle a k = a k := fun k hk hk4 => by
    unfold sp_settle
    split
    · exact mp_upd_ne _ _ hk4
    · rfl
  have hsb : ∀ k, k < 10 → k ≠ 4 → sp_settleM (sp_cov 10 b nu') k = b k := fun k hk hk4 => by
    unfold sp_settleM
    split
    · rw [mp_upd_ne _ _ hk4]; exact hcb k hk
    · exact hcb k hk
  refine ⟨fun k hk => ?_, fun k hk hk4 => ?_⟩
  · rw [sp_cp_lt _ _ hk]
    by_cases k4 : k = 4
    · subst k4
      unfold sp_settle sp_settleM
      rw [hcb 4 (by omega)]
      rcases h2 with ⟨e, e1⟩ | ⟨e, e1⟩
      · rw [if_neg (fun z => by rw [z] at e1; exact absurd e1 (by decide)), if_neg (fun z => by rw [e, z] at e1; exact absurd e1 (by decide)), hcb 4 (by omega)]
        exact e
      · rw [if_pos e, if_pos e1, mp_upd_eq, mp_upd_eq]
        unfold sp_worth
        rw [hcb 0 (by omega), hcb 1 (by omega), hcb 2 (by omega), hcb 3 (by omega), (h1 0 (by omega) (by omega)).1, (h1 1 (by omega) (by omega)).1, (h1 2 (by omega) (by omega)).1, (h1 3 (by omega) (by omega)).1]
    · rw [hsa k hk k4, hsb k hk k4]
      exact (h1 k hk k4).1
  · rw [sp_cp_lt _ _ hk, hsa k hk hk4]
    exact (h1 k hk hk4).2
theorem sp_nn0 (nu dn : Nat → Int32) : sp_nn (sp_usual nu) (sp_cov 10 sp_usualM dn) := by
  have e1 : ∀ k, k < 10 → sp_usual nu k = [15, 1, 3, 0, 0, 0, 0, 0, 0, 5].getD k 0 := fun k hk => by
    have := sp_cp_lt (n := 10) (k := k) (fun j => [15, 1, 3, 0, 0, 0, 0, 0, 0, 5].getD j 0) nu hk
    exact this
  have e2 : ∀ k, k < 10 → sp_cov 10 sp_usualM dn k = sp_usualM k := fun k hk => if_pos hk
  constructor
  · intro k hk hk4
    rw [e1 k hk, e2 k hk]
    rcases (show k = 0 ∨ k = 1 ∨ k = 2 ∨ k = 3 ∨ k = 5 ∨ k = 6 ∨ k = 7 ∨ k = 8 ∨ k = 9 by omega) with rfl | rfl | rfl | rfl | rfl | rfl | rfl | rfl | rfl <;> exact ⟨rfl, by decide, by decide⟩
  · rw [e1 4 (by omega), e2 4 (by omega)]
    exact Or.inr ⟨rfl, rfl⟩
