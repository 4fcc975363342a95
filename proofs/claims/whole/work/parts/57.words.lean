/-! ===== words by numbers ===== -/
def sp_add (v : Int64) (c : Int32) : Int64 := if c = 0 then v else 256 * v + c.toInt64
def sp_w6 (a b c d e f : Int32) : Int64 := sp_add (sp_add (sp_add (sp_add (sp_add (sp_add 0 a) b) c) d) e) f
def sp_pak (f : Nat → Int32) (s t : Nat) : Int64 := am_fold t (fun j v => sp_add v (f (s + j))) 0
def sp_pakI (d : Nat → Int) (t : Nat) : Int := am_fold t (fun j v => 256 * v + d j) 0
def sp_L (f : Nat → Int32) (s l : Nat) : List Int32 := (List.range l).map (fun t => f (s + t))
def sp_W (q m : Nat) : List Int32 := (List.range m).map (fun t => sp_wd (q + t))
theorem sp_LW {f : Nat → Int32} {s l q m : Nat} : sp_L f s l = sp_W q m ↔ (l = m ∧ ∀ t, t < m → f (s + t) = sp_wd (q + t)) := by
  unfold sp_L sp_W
  constructor
  · intro h
    have hl : l = m := by
      have := congrArg List.length h
      simpa using this
    subst hl
    refine ⟨rfl, fun t ht => ?_⟩
    have := congrArg (fun z => z[t]?) h
    simpa [ht] using this
  · rintro ⟨rfl, h⟩
    exact List.map_congr_left (fun t ht => h t (List.mem_range.mp ht))
theorem sp_pakI_eq {d w : Nat → Int} : ∀ l m : Nat, (∀ t, t < l → 97 ≤ d t ∧ d t ≤ 122) → (∀ t, t < m → 97 ≤ w t ∧ w t ≤ 122) → (sp_pakI d l = sp_pakI w m ↔ (l = m ∧ ∀ t, t < m → d t = w t)) := by
  intro l
  have hpos : ∀ (d : Nat → Int) (l : Nat), (∀ t, t < l → 97 ≤ d t ∧ d t ≤ 122) → 0 ≤ sp_pakI d l := by
    intro d l
    induction l with
    | zero => intro _; exact Int.le_refl 0
    | succ l ih =>
      intro h
      have h1 := ih (fun t ht => h t (by omega))
      have h2 := h l (by omega)
      show 0 ≤ 256 * sp_pakI d l + d l
      omega
  induction l with
  | zero =>
    intro m hd hw
    rcases m with _ | m
    · exact ⟨fun _ => ⟨rfl, fun t ht => absurd ht (Nat.not_lt_zero t)⟩, fun _ => rfl⟩
    · have h1 := hpos w m (fun t ht => hw t (by omega))
      have h2 := hw m (by omega)
      constructor
      · intro h
        have h' : (0 : Int) = 256 * sp_pakI w m + w m := h
        omega
      · rintro ⟨h, _⟩; omega
  | succ l ih =>
    intro m hd hw
    rcases m with _ | m
    · have h1 := hpos d l (fun t ht => hd t (by omega))
      have h2 := hd l (by omega)
      constructor
      · intro h
        have h' : 256 * sp_pakI d l + d l = 0 := h
        omega
      · rintro ⟨h, _⟩; omega
    · have ih := ih m (fun t ht => hd t (by omega)) (fun t ht => hw t (by omega))
      have a1 := hd l (by omega)
      have a2 := hw m (by omega)
      constructor
      · intro h
        have h' : 256 * sp_pakI d l + d l = 256 * sp_pakI w m + w m := h
        have e1 : sp_pakI d l = sp_pakI w m := by omega
        have e2 : d l = w m := by omega
        obtain ⟨rfl, e3⟩ := ih.mp e1
        refine ⟨rfl, fun t ht => ?_⟩
        by_cases q : t = l
        · rw [q]; exact e2
        · exact e3 t (by omega)
      · rintro ⟨h, e⟩
        have hl : l = m := by omega
        subst hl
        show 256 * sp_pakI d l + d l = 256 * sp_pakI w l + w l
        rw [ih.mpr ⟨rfl, fun t ht => e t (by omega)⟩, e l (by omega)]
theorem sp_pak_toInt {f : Nat → Int32} {s : Nat} : ∀ t : Nat, t ≤ 8 → (∀ j, j < t → 97 ≤ (f (s + j)).toInt ∧ (f (s + j)).toInt ≤ 122) → (sp_pak f s t).toInt = sp_pakI (fun j => (f (s + j)).toInt) t ∧ 0 ≤ sp_pakI (fun j => (f (s + j)).toInt) t ∧ 255 * sp_pakI (fun j => (f (s + j)).toInt) t ≤ 122 * (256 ^ t - 1) := by
  intro t
  induction t with
  | zero => intro _ _; exact ⟨rfl, Int.le_refl 0, by show 255 * (0 : Int) ≤ 122 * (256 ^ 0 - 1); decide⟩
  | succ t ih =>
    intro ht h
    obtain ⟨h1, h2, h3⟩ := ih (by omega) (fun j hj => h j (by omega))
    have hc := h t (by omega)
    have hne : ¬ f (s + t) = 0 := fun e => by
      rw [e] at hc
      have : (0 : Int32).toInt = 0 := rfl
      omega
    have e1 : sp_pak f s (t + 1) = 256 * sp_pak f s t + (f (s + t)).toInt64 := by
      show sp_add (sp_pak f s t) (f (s + t)) = _
      unfold sp_add
      rw [if_neg hne]
    have e2 : sp_pakI (fun j => (f (s + j)).toInt) (t + 1) = 256 * sp_pakI (fun j => (f (s + j)).toInt) t + (f (s + t)).toInt := rfl
    rw [e1, e2]
    generalize sp_pakI (fun j => (f (s + j)).toInt) t = p at h1 h2 h3
    have hp : (256 : Int) ^ (t + 1) = 256 * 256 ^ t := by rw [Int.pow_succ, Int.mul_comm]
    have hb : (256 : Int) ^ (t + 1) ≤ 256 ^ 8 := by
      rcases (show t = 0 ∨ t = 1 ∨ t = 2 ∨ t = 3 ∨ t = 4 ∨ t = 5 ∨ t = 6 ∨ t = 7 by omega) with q | q | q | q | q | q | q | q
      all_goals (rw [q]; decide)
    rw [hp] at hb ⊢
    generalize (256 : Int) ^ t = z at h3 hb ⊢
    have hb8 : (256 : Int) ^ 8 = 18446744073709551616 := by decide
    rw [hb8] at hb
    refine ⟨?_, by omega, by omega⟩
    rw [Int64.toInt_add, Int64.toInt_mul, h1, Int32.toInt_toInt64, show (256 : Int64).toInt = 256 from rfl]
    rw [Int.bmod_eq_of_le (n := 256 * p) (by omega) (by omega), Int.bmod_eq_of_le (by omega) (by omega)]
theorem sp_pak_word {f : Nat → Int32} {s l q m : Nat} {K : Int64} (hl : l ≤ 8) (h : ∀ j, j < l → 97 ≤ f (s + j) ∧ f (s + j) ≤ 122) (hw : ∀ j, j < m → 97 ≤ (sp_wd (q + j)).toInt ∧ (sp_wd (q + j)).toInt ≤ 122) (hK : K.toInt = sp_pakI (fun j => (sp_wd (q + j)).toInt) m) : sp_pak f s l = K ↔ sp_L f s l = sp_W q m := by
  have h' : ∀ j, j < l → 97 ≤ (f (s + j)).toInt ∧ (f (s + j)).toInt ≤ 122 := fun j hj => by
    have := h j hj
    rw [Int32.le_iff_toInt_le, Int32.le_iff_toInt_le] at this
    exact this
  rw [← Int64.toInt_inj, (sp_pak_toInt l hl h').1, hK, sp_pakI_eq l m h' hw, sp_LW]
  constructor
  · rintro ⟨e, h2⟩; exact ⟨e, fun t ht => Int32.toInt_inj.mp (h2 t ht)⟩
  · rintro ⟨e, h2⟩; exact ⟨e, fun t ht => congrArg Int32.toInt (h2 t ht)⟩
def sp_sameN (f : Nat → Int32) (s n q m : Nat) : Bool := am_fold m (fun t b => b && decide (sp_wd (q + t) = (if s + (q + t) - q < n then f (s + (q + t) - q) else -1))) true
theorem sp_sameN_iff {f : Nat → Int32} {s n q : Nat} : ∀ m : Nat, s + m ≤ n → (sp_sameN f s n q m = true ↔ ∀ t, t < m → f (s + t) = sp_wd (q + t)) := by
  intro m
  induction m with
  | zero => intro _; exact ⟨fun _ t ht => absurd ht (Nat.not_lt_zero t), fun _ => rfl⟩
  | succ m ih =>
    intro h
    have ih := ih (by omega)
    show ((sp_sameN f s n q m && decide (sp_wd (q + m) = (if s + (q + m) - q < n then f (s + (q + m) - q) else -1))) = true) ↔ _
    rw [Bool.and_eq_true, decide_eq_true_eq, ih, if_pos (by omega), show s + (q + m) - q = s + m by omega]
    constructor
    · rintro ⟨h1, h2⟩ t ht
      by_cases e : t = m
      · rw [e]; exact h2.symm
      · exact h1 t (by omega)
    · intro h1
      exact ⟨fun t ht => h1 t (by omega), (h1 m (by omega)).symm⟩
theorem sp_bj {f : Nat → Int32} {s l n q m : Nat} (hs : s + l ≤ n) : (sp_sameN f s n q m = true ∧ m = l) ↔ sp_L f s l = sp_W q m := by
  rw [sp_LW]
  constructor
  · rintro ⟨h1, rfl⟩; exact ⟨rfl, (sp_sameN_iff m hs).mp h1⟩
  · rintro ⟨rfl, h1⟩; exact ⟨(sp_sameN_iff l hs).mpr h1, rfl⟩
theorem sp_wch0 {f : Nat → Int32} {s l n : Nat} {X0 : sp_WS} {k v : Int32} (h : am_fold 0 (sp_wOne f s l n) X0 = (k, v, 0, 0, true)) : am_fold 7 (sp_wOne f s l n) X0 = (if (sp_sameN f s n 0 6 = true ∧ 6 = l) then 4 else k, if (sp_sameN f s n 0 6 = true ∧ 6 = l) then Int32.ofNat 0 else v, 1, 7, true) := by
  show sp_wOne f s l n 6 (sp_wOne f s l n 5 (sp_wOne f s l n 4 (sp_wOne f s l n 3 (sp_wOne f s l n 2 (sp_wOne f s l n 1 (sp_wOne f s l n 0 (am_fold 0 (sp_wOne f s l n) X0))))))) = _
  rw [h]
  rfl
theorem sp_wch1 {f : Nat → Int32} {s l n : Nat} {X0 : sp_WS} {k v : Int32} (h : am_fold 7 (sp_wOne f s l n) X0 = (k, v, 1, 7, true)) : am_fold 12 (sp_wOne f s l n) X0 = (if (sp_sameN f s n 7 4 = true ∧ 4 = l) then 4 else k, if (sp_sameN f s n 7 4 = true ∧ 4 = l) then Int32.ofNat 1 else v, 2, 12, true) := by
  show sp_wOne f s l n 11 (sp_wOne f s l n 10 (sp_wOne f s l n 9 (sp_wOne f s l n 8 (sp_wOne f s l n 7 (am_fold 7 (sp_wOne f s l n) X0))))) = _
  rw [h]
  rfl
theorem sp_wch2 {f : Nat → Int32} {s l n : Nat} {X0 : sp_WS} {k v : Int32} (h : am_fold 12 (sp_wOne f s l n) X0 = (k, v, 2, 12, true)) : am_fold 16 (sp_wOne f s l n) X0 = (if (sp_sameN f s n 12 3 = true ∧ 3 = l) then 4 else k, if (sp_sameN f s n 12 3 = true ∧ 3 = l) then Int32.ofNat 2 else v, 3, 16, true) := by
  show sp_wOne f s l n 15 (sp_wOne f s l n 14 (sp_wOne f s l n 13 (sp_wOne f s l n 12 (am_fold 12 (sp_wOne f s l n) X0)))) = _
  rw [h]
  rfl
theorem sp_wch3 {f : Nat → Int32} {s l n : Nat} {X0 : sp_WS} {k v : Int32} (h : am_fold 16 (sp_wOne f s l n) X0 = (k, v, 3, 16, true)) : am_fold 22 (sp_wOne f s l n) X0 = (if (sp_sameN f s n 16 5 = true ∧ 5 = l) then 4 else k, if (sp_sameN f s n 16 5 = true ∧ 5 = l) then Int32.ofNat 3 else v, 4, 22, true) := by
  show sp_wOne f s l n 21 (sp_wOne f s l n 20 (sp_wOne f s l n 19 (sp_wOne f s l n 18 (sp_wOne f s l n 17 (sp_wOne f s l n 16 (am_fold 16 (sp_wOne f s l n) X0)))))) = _
  rw [h]
  rfl
theorem sp_wch4 {f : Nat → Int32} {s l n : Nat} {X0 : sp_WS} {k v : Int32} (h : am_fold 22 (sp_wOne f s l n) X0 = (k, v, 4, 22, true)) : am_fold 27 (sp_wOne f s l n) X0 = (if (sp_sameN f s n 22 4 = true ∧ 4 = l) then 4 else k, if (sp_sameN f s n 22 4 = true ∧ 4 = l) then Int32.ofNat 4 else v, 5, 27, true) := by
  show sp_wOne f s l n 26 (sp_wOne f s l n 25 (sp_wOne f s l n 24 (sp_wOne f s l n 23 (sp_wOne f s l n 22 (am_fold 22 (sp_wOne f s l n) X0))))) = _
  rw [h]
  rfl
theorem sp_wch5 {f : Nat → Int32} {s l n : Nat} {X0 : sp_WS} {k v : Int32} (h : am_fold 27 (sp_wOne f s l n) X0 = (k, v, 5, 27, true)) : am_fold 33 (sp_wOne f s l n) X0 = (if (sp_sameN f s n 27 5 = true ∧ 5 = l) then 4 else k, if (sp_sameN f s n 27 5 = true ∧ 5 = l) then Int32.ofNat 5 else v, 6, 33, true) := by
  show sp_wOne f s l n 32 (sp_wOne f s l n 31 (sp_wOne f s l n 30 (sp_wOne f s l n 29 (sp_wOne f s l n 28 (sp_wOne f s l n 27 (am_fold 27 (sp_wOne f s l n) X0)))))) = _
  rw [h]
  rfl
theorem sp_wch6 {f : Nat → Int32} {s l n : Nat} {X0 : sp_WS} {k v : Int32} (h : am_fold 33 (sp_wOne f s l n) X0 = (k, v, 6, 33, true)) : am_fold 37 (sp_wOne f s l n) X0 = (if (sp_sameN f s n 33 3 = true ∧ 3 = l) then 4 else k, if (sp_sameN f s n 33 3 = true ∧ 3 = l) then Int32.ofNat 6 else v, 7, 37, true) := by
  show sp_wOne f s l n 36 (sp_wOne f s l n 35 (sp_wOne f s l n 34 (sp_wOne f s l n 33 (am_fold 33 (sp_wOne f s l n) X0)))) = _
  rw [h]
  rfl
theorem sp_wch7 {f : Nat → Int32} {s l n : Nat} {X0 : sp_WS} {k v : Int32} (h : am_fold 37 (sp_wOne f s l n) X0 = (k, v, 7, 37, true)) : am_fold 41 (sp_wOne f s l n) X0 = (if (sp_sameN f s n 37 3 = true ∧ 3 = l) then 4 else k, if (sp_sameN f s n 37 3 = true ∧ 3 = l) then Int32.ofNat 7 else v, 8, 41, true) := by
  show sp_wOne f s l n 40 (sp_wOne f s l n 39 (sp_wOne f s l n 38 (sp_wOne f s l n 37 (am_fold 37 (sp_wOne f s l n) X0)))) = _
  rw [h]
  rfl
theorem sp_wch8 {f : Nat → Int32} {s l n : Nat} {X0 : sp_WS} {k v : Int32} (h : am_fold 41 (sp_wOne f s l n) X0 = (k, v, 8, 41, true)) : am_fold 47 (sp_wOne f s l n) X0 = (if (sp_sameN f s n 41 5 = true ∧ 5 = l) then 4 else k, if (sp_sameN f s n 41 5 = true ∧ 5 = l) then Int32.ofNat 8 else v, 9, 47, true) := by
  show sp_wOne f s l n 46 (sp_wOne f s l n 45 (sp_wOne f s l n 44 (sp_wOne f s l n 43 (sp_wOne f s l n 42 (sp_wOne f s l n 41 (am_fold 41 (sp_wOne f s l n) X0)))))) = _
  rw [h]
  rfl
theorem sp_wch9 {f : Nat → Int32} {s l n : Nat} {X0 : sp_WS} {k v : Int32} (h : am_fold 47 (sp_wOne f s l n) X0 = (k, v, 9, 47, true)) : am_fold 54 (sp_wOne f s l n) X0 = (if (sp_sameN f s n 47 6 = true ∧ 6 = l) then 4 else k, if (sp_sameN f s n 47 6 = true ∧ 6 = l) then Int32.ofNat 9 else v, 10, 54, true) := by
  show sp_wOne f s l n 53 (sp_wOne f s l n 52 (sp_wOne f s l n 51 (sp_wOne f s l n 50 (sp_wOne f s l n 49 (sp_wOne f s l n 48 (sp_wOne f s l n 47 (am_fold 47 (sp_wOne f s l n) X0))))))) = _
  rw [h]
  rfl
theorem sp_wch10 {f : Nat → Int32} {s l n : Nat} {X0 : sp_WS} {k v : Int32} (h : am_fold 54 (sp_wOne f s l n) X0 = (k, v, 10, 54, true)) : am_fold 60 (sp_wOne f s l n) X0 = (if (sp_sameN f s n 54 5 = true ∧ 5 = l) then 4 else k, if (sp_sameN f s n 54 5 = true ∧ 5 = l) then Int32.ofNat 10 else v, 11, 60, true) := by
  show sp_wOne f s l n 59 (sp_wOne f s l n 58 (sp_wOne f s l n 57 (sp_wOne f s l n 56 (sp_wOne f s l n 55 (sp_wOne f s l n 54 (am_fold 54 (sp_wOne f s l n) X0)))))) = _
  rw [h]
  rfl
theorem sp_wch11 {f : Nat → Int32} {s l n : Nat} {X0 : sp_WS} {k v : Int32} (h : am_fold 60 (sp_wOne f s l n) X0 = (k, v, 11, 60, true)) : am_fold 67 (sp_wOne f s l n) X0 = (if (sp_sameN f s n 60 6 = true ∧ 6 = l) then 4 else k, if (sp_sameN f s n 60 6 = true ∧ 6 = l) then Int32.ofNat 11 else v, 12, 67, true) := by
  show sp_wOne f s l n 66 (sp_wOne f s l n 65 (sp_wOne f s l n 64 (sp_wOne f s l n 63 (sp_wOne f s l n 62 (sp_wOne f s l n 61 (sp_wOne f s l n 60 (am_fold 60 (sp_wOne f s l n) X0))))))) = _
  rw [h]
  rfl
theorem sp_wch12 {f : Nat → Int32} {s l n : Nat} {X0 : sp_WS} {k v : Int32} (h : am_fold 67 (sp_wOne f s l n) X0 = (k, v, 12, 67, true)) : am_fold 74 (sp_wOne f s l n) X0 = (if (sp_sameN f s n 67 6 = true ∧ 6 = l) then 4 else k, if (sp_sameN f s n 67 6 = true ∧ 6 = l) then Int32.ofNat 12 else v, 13, 74, true) := by
  show sp_wOne f s l n 73 (sp_wOne f s l n 72 (sp_wOne f s l n 71 (sp_wOne f s l n 70 (sp_wOne f s l n 69 (sp_wOne f s l n 68 (sp_wOne f s l n 67 (am_fold 67 (sp_wOne f s l n) X0))))))) = _
  rw [h]
  rfl
theorem sp_wch13 {f : Nat → Int32} {s l n : Nat} {X0 : sp_WS} {k v : Int32} (h : am_fold 74 (sp_wOne f s l n) X0 = (k, v, 13, 74, true)) : am_fold 83 (sp_wOne f s l n) X0 = (if (sp_sameN f s n 74 8 = true ∧ 8 = l) then 4 else k, if (sp_sameN f s n 74 8 = true ∧ 8 = l) then Int32.ofNat 13 else v, 14, 83, true) := by
  show sp_wOne f s l n 82 (sp_wOne f s l n 81 (sp_wOne f s l n 80 (sp_wOne f s l n 79 (sp_wOne f s l n 78 (sp_wOne f s l n 77 (sp_wOne f s l n 76 (sp_wOne f s l n 75 (sp_wOne f s l n 74 (am_fold 74 (sp_wOne f s l n) X0))))))))) = _
  rw [h]
  rfl
theorem sp_wch14 {f : Nat → Int32} {s l n : Nat} {X0 : sp_WS} {k v : Int32} (h : am_fold 83 (sp_wOne f s l n) X0 = (k, v, 14, 83, true)) : am_fold 89 (sp_wOne f s l n) X0 = (if (sp_sameN f s n 83 5 = true ∧ 5 = l) then 4 else k, if (sp_sameN f s n 83 5 = true ∧ 5 = l) then Int32.ofNat 14 else v, 15, 89, true) := by
  show sp_wOne f s l n 88 (sp_wOne f s l n 87 (sp_wOne f s l n 86 (sp_wOne f s l n 85 (sp_wOne f s l n 84 (sp_wOne f s l n 83 (am_fold 83 (sp_wOne f s l n) X0)))))) = _
  rw [h]
  rfl
def sp_xk (L : List Int32) : Int32 := if L = sp_W 83 5 then 4 else (if L = sp_W 74 8 then 4 else (if L = sp_W 67 6 then 4 else (if L = sp_W 60 6 then 4 else (if L = sp_W 54 5 then 4 else (if L = sp_W 47 6 then 4 else (if L = sp_W 41 5 then 4 else (if L = sp_W 37 3 then 4 else (if L = sp_W 33 3 then 4 else (if L = sp_W 27 5 then 4 else (if L = sp_W 22 4 then 4 else (if L = sp_W 16 5 then 4 else (if L = sp_W 12 3 then 4 else (if L = sp_W 7 4 then 4 else (if L = sp_W 0 6 then 4 else (0)))))))))))))))
def sp_xv (L : List Int32) : Int32 := if L = sp_W 83 5 then Int32.ofNat 14 else (if L = sp_W 74 8 then Int32.ofNat 13 else (if L = sp_W 67 6 then Int32.ofNat 12 else (if L = sp_W 60 6 then Int32.ofNat 11 else (if L = sp_W 54 5 then Int32.ofNat 10 else (if L = sp_W 47 6 then Int32.ofNat 9 else (if L = sp_W 41 5 then Int32.ofNat 8 else (if L = sp_W 37 3 then Int32.ofNat 7 else (if L = sp_W 33 3 then Int32.ofNat 6 else (if L = sp_W 27 5 then Int32.ofNat 5 else (if L = sp_W 22 4 then Int32.ofNat 4 else (if L = sp_W 16 5 then Int32.ofNat 3 else (if L = sp_W 12 3 then Int32.ofNat 2 else (if L = sp_W 7 4 then Int32.ofNat 1 else (if L = sp_W 0 6 then Int32.ofNat 0 else (0)))))))))))))))
def sp_mw (L : List Int32) : Int32 := if L = sp_W 0 6 then 0 else (if L = sp_W 7 4 then 1 else (if L = sp_W 12 3 then 2 else (if L = sp_W 16 5 then 3 else (if L = sp_W 22 4 then 4 else (if L = sp_W 27 5 then 5 else (if L = sp_W 33 3 then 6 else (if L = sp_W 37 3 then 7 else (if L = sp_W 41 5 then 8 else (if L = sp_W 47 6 then 9 else (if L = sp_W 54 5 then 10 else (if L = sp_W 60 6 then 11 else (if L = sp_W 67 6 then 12 else (if L = sp_W 74 8 then 13 else (if L = sp_W 83 5 then 14 else (-9)))))))))))))))
theorem sp_wFold_L {f : Nat → Int32} {s l n : Nat} (hs : s + l ≤ n) : (sp_wFold f s l n 0 89).1 = sp_xk (sp_L f s l) ∧ (sp_wFold f s l n 0 89).2.1 = sp_xv (sp_L f s l) := by
  unfold sp_wFold
  have h0 : am_fold 0 (sp_wOne f s l n) (0, 0, 0, 0, true) = (0, 0, 0, 0, true) := rfl
  have h1 := sp_wch0 h0
  have h2 := sp_wch1 h1
  have h3 := sp_wch2 h2
  have h4 := sp_wch3 h3
  have h5 := sp_wch4 h4
  have h6 := sp_wch5 h5
  have h7 := sp_wch6 h6
  have h8 := sp_wch7 h7
  have h9 := sp_wch8 h8
  have h10 := sp_wch9 h9
  have h11 := sp_wch10 h10
  have h12 := sp_wch11 h11
  have h13 := sp_wch12 h12
  have h14 := sp_wch13 h13
  have h15 := sp_wch14 h14
  rw [h15]
  unfold sp_xk sp_xv
  simp only [sp_bj hs]
  exact ⟨trivial, trivial⟩
theorem sp_Wl0 : sp_W 0 6 = [114, 111, 117, 110, 100, 115] := by decide +kernel
theorem sp_Wl1 : sp_W 7 4 = [112, 97, 121, 115] := by decide +kernel
theorem sp_Wl2 : sp_W 12 3 = [101, 110, 100] := by decide +kernel
theorem sp_Wl3 : sp_W 16 5 = [115, 116, 97, 114, 116] := by decide +kernel
theorem sp_Wl4 : sp_W 22 4 = [108, 101, 110, 116] := by decide +kernel
theorem sp_Wl5 : sp_W 27 5 = [115, 104, 111, 114, 116] := by decide +kernel
theorem sp_Wl6 : sp_W 33 3 = [108, 105, 100] := by decide +kernel
theorem sp_Wl7 : sp_W 37 3 = [102, 101, 101] := by decide +kernel
theorem sp_Wl8 : sp_W 41 5 = [115, 97, 108, 101, 115] := by decide +kernel
theorem sp_Wl9 : sp_W 47 6 = [112, 101, 114, 115, 111, 110] := by decide +kernel
theorem sp_Wl10 : sp_W 54 5 = [119, 111, 114, 116, 104] := by decide +kernel
theorem sp_Wl11 : sp_W 60 6 = [114, 105, 115, 105, 110, 103] := by decide +kernel
theorem sp_Wl12 : sp_W 67 6 = [114, 105, 100, 105, 110, 103] := by decide +kernel
theorem sp_Wl13 : sp_W 74 8 = [109, 105, 115, 116, 97, 107, 101, 110] := by decide +kernel
theorem sp_Wl14 : sp_W 83 5 = [102, 114, 101, 115, 104] := by decide +kernel
set_option maxHeartbeats 2000000 in
theorem sp_xm (L : List Int32) : sp_xk L = (if sp_mw L = -9 then 0 else 4) ∧ (¬ sp_mw L = -9 → sp_xv L = sp_mw L) := by
  unfold sp_xk sp_xv sp_mw
  rw [sp_Wl0, sp_Wl1, sp_Wl2, sp_Wl3, sp_Wl4, sp_Wl5, sp_Wl6, sp_Wl7, sp_Wl8, sp_Wl9, sp_Wl10, sp_Wl11, sp_Wl12, sp_Wl13, sp_Wl14]
  by_cases h0 : L = [114, 111, 117, 110, 100, 115]
  · subst h0
    decide +kernel
  by_cases h1 : L = [112, 97, 121, 115]
  · subst h1
    decide +kernel
  by_cases h2 : L = [101, 110, 100]
  · subst h2
    decide +kernel
  by_cases h3 : L = [115, 116, 97, 114, 116]
  · subst h3
    decide +kernel
  by_cases h4 : L = [108, 101, 110, 116]
  · subst h4
    decide +kernel
  by_cases h5 : L = [115, 104, 111, 114, 116]
  · subst h5
    decide +kernel
  by_cases h6 : L = [108, 105, 100]
  · subst h6
    decide +kernel
  by_cases h7 : L = [102, 101, 101]
  · subst h7
    decide +kernel
  by_cases h8 : L = [115, 97, 108, 101, 115]
  · subst h8
    decide +kernel
  by_cases h9 : L = [112, 101, 114, 115, 111, 110]
  · subst h9
    decide +kernel
  by_cases h10 : L = [119, 111, 114, 116, 104]
  · subst h10
    decide +kernel
  by_cases h11 : L = [114, 105, 115, 105, 110, 103]
  · subst h11
    decide +kernel
  by_cases h12 : L = [114, 105, 100, 105, 110, 103]
  · subst h12
    decide +kernel
  by_cases h13 : L = [109, 105, 115, 116, 97, 107, 101, 110]
  · subst h13
    decide +kernel
  by_cases h14 : L = [102, 114, 101, 115, 104]
  · subst h14
    decide +kernel
  simp only [h0, h1, h2, h3, h4, h5, h6, h7, h8, h9, h10, h11, h12, h13, h14, if_false]
  decide
def sp_f1 (v : Int64) : Int32 := if v = sp_w6 114 111 117 110 100 115 then 0 else (if v = sp_w6 112 97 121 115 0 0 then 1 else (if v = sp_w6 101 110 100 0 0 0 then 2 else (if v = sp_w6 115 116 97 114 116 0 then 3 else (if v = sp_w6 108 101 110 116 0 0 then 4 else (-9)))))
def sp_f2 (v : Int64) : Int32 := if v = sp_w6 115 104 111 114 116 0 then 5 else (if v = sp_w6 108 105 100 0 0 0 then 6 else (if v = sp_w6 102 101 101 0 0 0 then 7 else (if v = sp_w6 115 97 108 101 115 0 then 8 else (if v = sp_w6 112 101 114 115 111 110 then 9 else (-9)))))
def sp_f3 (v : Int64) : Int32 := if v = sp_w6 119 111 114 116 104 0 then 10 else (if v = sp_w6 114 105 115 105 110 103 then 11 else (if v = sp_w6 114 105 100 105 110 103 then 12 else (if v = sp_w6 102 114 101 115 104 0 then 14 else (-9))))
def sp_f123 (v : Int64) : Int32 := if sp_f1 v = -9 then (if sp_f2 v = -9 then sp_f3 v else sp_f2 v) else sp_f1 v
def sp_wordOf (v : Int64) (l : Int32) : Int32 := if l = 8 then (if v = sp_add (sp_add (sp_w6 109 105 115 116 97 107) 101) 110 then 13 else -9) else if 6 < l then -9 else sp_f123 v
theorem sp_Ki0 : (sp_w6 114 111 117 110 100 115 : Int64).toInt = sp_pakI (fun j => (sp_wd (0 + j)).toInt) 6 := by decide +kernel
theorem sp_Kr0 : ∀ j, j < 6 → 97 ≤ (sp_wd (0 + j)).toInt ∧ (sp_wd (0 + j)).toInt ≤ 122 := by decide +kernel
theorem sp_Ki1 : (sp_w6 112 97 121 115 0 0 : Int64).toInt = sp_pakI (fun j => (sp_wd (7 + j)).toInt) 4 := by decide +kernel
theorem sp_Kr1 : ∀ j, j < 4 → 97 ≤ (sp_wd (7 + j)).toInt ∧ (sp_wd (7 + j)).toInt ≤ 122 := by decide +kernel
theorem sp_Ki2 : (sp_w6 101 110 100 0 0 0 : Int64).toInt = sp_pakI (fun j => (sp_wd (12 + j)).toInt) 3 := by decide +kernel
theorem sp_Kr2 : ∀ j, j < 3 → 97 ≤ (sp_wd (12 + j)).toInt ∧ (sp_wd (12 + j)).toInt ≤ 122 := by decide +kernel
theorem sp_Ki3 : (sp_w6 115 116 97 114 116 0 : Int64).toInt = sp_pakI (fun j => (sp_wd (16 + j)).toInt) 5 := by decide +kernel
theorem sp_Kr3 : ∀ j, j < 5 → 97 ≤ (sp_wd (16 + j)).toInt ∧ (sp_wd (16 + j)).toInt ≤ 122 := by decide +kernel
theorem sp_Ki4 : (sp_w6 108 101 110 116 0 0 : Int64).toInt = sp_pakI (fun j => (sp_wd (22 + j)).toInt) 4 := by decide +kernel
theorem sp_Kr4 : ∀ j, j < 4 → 97 ≤ (sp_wd (22 + j)).toInt ∧ (sp_wd (22 + j)).toInt ≤ 122 := by decide +kernel
theorem sp_Ki5 : (sp_w6 115 104 111 114 116 0 : Int64).toInt = sp_pakI (fun j => (sp_wd (27 + j)).toInt) 5 := by decide +kernel
theorem sp_Kr5 : ∀ j, j < 5 → 97 ≤ (sp_wd (27 + j)).toInt ∧ (sp_wd (27 + j)).toInt ≤ 122 := by decide +kernel
theorem sp_Ki6 : (sp_w6 108 105 100 0 0 0 : Int64).toInt = sp_pakI (fun j => (sp_wd (33 + j)).toInt) 3 := by decide +kernel
theorem sp_Kr6 : ∀ j, j < 3 → 97 ≤ (sp_wd (33 + j)).toInt ∧ (sp_wd (33 + j)).toInt ≤ 122 := by decide +kernel
theorem sp_Ki7 : (sp_w6 102 101 101 0 0 0 : Int64).toInt = sp_pakI (fun j => (sp_wd (37 + j)).toInt) 3 := by decide +kernel
theorem sp_Kr7 : ∀ j, j < 3 → 97 ≤ (sp_wd (37 + j)).toInt ∧ (sp_wd (37 + j)).toInt ≤ 122 := by decide +kernel
theorem sp_Ki8 : (sp_w6 115 97 108 101 115 0 : Int64).toInt = sp_pakI (fun j => (sp_wd (41 + j)).toInt) 5 := by decide +kernel
theorem sp_Kr8 : ∀ j, j < 5 → 97 ≤ (sp_wd (41 + j)).toInt ∧ (sp_wd (41 + j)).toInt ≤ 122 := by decide +kernel
theorem sp_Ki9 : (sp_w6 112 101 114 115 111 110 : Int64).toInt = sp_pakI (fun j => (sp_wd (47 + j)).toInt) 6 := by decide +kernel
theorem sp_Kr9 : ∀ j, j < 6 → 97 ≤ (sp_wd (47 + j)).toInt ∧ (sp_wd (47 + j)).toInt ≤ 122 := by decide +kernel
theorem sp_Ki10 : (sp_w6 119 111 114 116 104 0 : Int64).toInt = sp_pakI (fun j => (sp_wd (54 + j)).toInt) 5 := by decide +kernel
theorem sp_Kr10 : ∀ j, j < 5 → 97 ≤ (sp_wd (54 + j)).toInt ∧ (sp_wd (54 + j)).toInt ≤ 122 := by decide +kernel
theorem sp_Ki11 : (sp_w6 114 105 115 105 110 103 : Int64).toInt = sp_pakI (fun j => (sp_wd (60 + j)).toInt) 6 := by decide +kernel
theorem sp_Kr11 : ∀ j, j < 6 → 97 ≤ (sp_wd (60 + j)).toInt ∧ (sp_wd (60 + j)).toInt ≤ 122 := by decide +kernel
theorem sp_Ki12 : (sp_w6 114 105 100 105 110 103 : Int64).toInt = sp_pakI (fun j => (sp_wd (67 + j)).toInt) 6 := by decide +kernel
theorem sp_Kr12 : ∀ j, j < 6 → 97 ≤ (sp_wd (67 + j)).toInt ∧ (sp_wd (67 + j)).toInt ≤ 122 := by decide +kernel
theorem sp_Ki13 : (sp_add (sp_add (sp_w6 109 105 115 116 97 107) 101) 110 : Int64).toInt = sp_pakI (fun j => (sp_wd (74 + j)).toInt) 8 := by decide +kernel
theorem sp_Kr13 : ∀ j, j < 8 → 97 ≤ (sp_wd (74 + j)).toInt ∧ (sp_wd (74 + j)).toInt ≤ 122 := by decide +kernel
theorem sp_Ki14 : (sp_w6 102 114 101 115 104 0 : Int64).toInt = sp_pakI (fun j => (sp_wd (83 + j)).toInt) 5 := by decide +kernel
theorem sp_Kr14 : ∀ j, j < 5 → 97 ≤ (sp_wd (83 + j)).toInt ∧ (sp_wd (83 + j)).toInt ≤ 122 := by decide +kernel
set_option maxHeartbeats 2000000 in
theorem sp_wordOf_L {f : Nat → Int32} {s l : Nat} {v : Int64} (h : ∀ j, j < l → 97 ≤ f (s + j) ∧ f (s + j) ≤ 122) (hv : l ≤ 8 → v = sp_pak f s l) (hl4 : l ≤ 400) : sp_wordOf v (Int32.ofNat l) = sp_mw (sp_L f s l) := by
  have hne : ∀ q m, ¬ l = m → ¬ sp_L f s l = sp_W q m := fun q m e z => e (sp_LW.mp z).1
  unfold sp_wordOf
  by_cases h8 : l = 8
  · subst h8
    rw [if_pos (show Int32.ofNat 8 = 8 from rfl), hv (by omega)]
    unfold sp_mw
    rw [if_neg (hne 0 6 (by omega))]
    rw [if_neg (hne 7 4 (by omega))]
    rw [if_neg (hne 12 3 (by omega))]
    rw [if_neg (hne 16 5 (by omega))]
    rw [if_neg (hne 22 4 (by omega))]
    rw [if_neg (hne 27 5 (by omega))]
    rw [if_neg (hne 33 3 (by omega))]
    rw [if_neg (hne 37 3 (by omega))]
    rw [if_neg (hne 41 5 (by omega))]
    rw [if_neg (hne 47 6 (by omega))]
    rw [if_neg (hne 54 5 (by omega))]
    rw [if_neg (hne 60 6 (by omega))]
    rw [if_neg (hne 67 6 (by omega))]
    simp only [sp_pak_word (q := 74) (m := 8) (by omega) h sp_Kr13 sp_Ki13]
    have e14 : ¬ sp_L f s 8 = sp_W 83 5 := hne _ _ (by omega)
    rw [if_neg e14]
  · rw [if_neg (show ¬ Int32.ofNat l = 8 from fun z => h8 ((am_eqi (j := 8) (by omega) (by omega)).mp z))]
    by_cases h6 : 6 < l
    · rw [if_pos (show 6 < Int32.ofNat l from (am_lt (i := 6) (by omega) (by omega)).mpr h6)]
      unfold sp_mw
      rw [if_neg (hne 0 6 (by omega)), if_neg (hne 7 4 (by omega)), if_neg (hne 12 3 (by omega)), if_neg (hne 16 5 (by omega)), if_neg (hne 22 4 (by omega)), if_neg (hne 27 5 (by omega)), if_neg (hne 33 3 (by omega)), if_neg (hne 37 3 (by omega)), if_neg (hne 41 5 (by omega)), if_neg (hne 47 6 (by omega)), if_neg (hne 54 5 (by omega)), if_neg (hne 60 6 (by omega)), if_neg (hne 67 6 (by omega)), if_neg (hne 74 8 (by omega)), if_neg (hne 83 5 (by omega))]
    · rw [if_neg (show ¬ 6 < Int32.ofNat l from fun z => h6 ((am_lt (i := 6) (by omega) (by omega)).mp z)), hv (by omega)]
      unfold sp_f123 sp_f1 sp_f2 sp_f3 sp_mw
      have e13 : ¬ sp_L f s l = sp_W 74 8 := hne _ _ (by omega)
      have e0 := sp_pak_word (f := f) (s := s) (l := l) (q := 0) (m := 6) (by omega) h sp_Kr0 sp_Ki0
      have e1 := sp_pak_word (f := f) (s := s) (l := l) (q := 7) (m := 4) (by omega) h sp_Kr1 sp_Ki1
      have e2 := sp_pak_word (f := f) (s := s) (l := l) (q := 12) (m := 3) (by omega) h sp_Kr2 sp_Ki2
      have e3 := sp_pak_word (f := f) (s := s) (l := l) (q := 16) (m := 5) (by omega) h sp_Kr3 sp_Ki3
      have e4 := sp_pak_word (f := f) (s := s) (l := l) (q := 22) (m := 4) (by omega) h sp_Kr4 sp_Ki4
      have e5 := sp_pak_word (f := f) (s := s) (l := l) (q := 27) (m := 5) (by omega) h sp_Kr5 sp_Ki5
      have e6 := sp_pak_word (f := f) (s := s) (l := l) (q := 33) (m := 3) (by omega) h sp_Kr6 sp_Ki6
      have e7 := sp_pak_word (f := f) (s := s) (l := l) (q := 37) (m := 3) (by omega) h sp_Kr7 sp_Ki7
      have e8 := sp_pak_word (f := f) (s := s) (l := l) (q := 41) (m := 5) (by omega) h sp_Kr8 sp_Ki8
      have e9 := sp_pak_word (f := f) (s := s) (l := l) (q := 47) (m := 6) (by omega) h sp_Kr9 sp_Ki9
      have e10 := sp_pak_word (f := f) (s := s) (l := l) (q := 54) (m := 5) (by omega) h sp_Kr10 sp_Ki10
      have e11 := sp_pak_word (f := f) (s := s) (l := l) (q := 60) (m := 6) (by omega) h sp_Kr11 sp_Ki11
      have e12 := sp_pak_word (f := f) (s := s) (l := l) (q := 67) (m := 6) (by omega) h sp_Kr12 sp_Ki12
      have e14 := sp_pak_word (f := f) (s := s) (l := l) (q := 83) (m := 5) (by omega) h sp_Kr14 sp_Ki14
      simp only [e0, e1, e2, e3, e4, e5, e6, e7, e8, e9, e10, e11, e12, e14, e13, if_false]
      clear e0 e1 e2 e3 e4 e5 e6 e7 e8 e9 e10 e11 e12 e14 hv h hne
      generalize sp_L f s l = L at *
      rw [sp_Wl0, sp_Wl1, sp_Wl2, sp_Wl3, sp_Wl4, sp_Wl5, sp_Wl6, sp_Wl7, sp_Wl8, sp_Wl9, sp_Wl10, sp_Wl11, sp_Wl12, sp_Wl14]
      by_cases h100 : L = [114, 111, 117, 110, 100, 115]
      · subst h100
        decide +kernel
      by_cases h101 : L = [112, 97, 121, 115]
      · subst h101
        decide +kernel
      by_cases h102 : L = [101, 110, 100]
      · subst h102
        decide +kernel
      by_cases h103 : L = [115, 116, 97, 114, 116]
      · subst h103
        decide +kernel
      by_cases h104 : L = [108, 101, 110, 116]
      · subst h104
        decide +kernel
      by_cases h105 : L = [115, 104, 111, 114, 116]
      · subst h105
        decide +kernel
      by_cases h106 : L = [108, 105, 100]
      · subst h106
        decide +kernel
      by_cases h107 : L = [102, 101, 101]
      · subst h107
        decide +kernel
      by_cases h108 : L = [115, 97, 108, 101, 115]
      · subst h108
        decide +kernel
      by_cases h109 : L = [112, 101, 114, 115, 111, 110]
      · subst h109
        decide +kernel
      by_cases h110 : L = [119, 111, 114, 116, 104]
      · subst h110
        decide +kernel
      by_cases h111 : L = [114, 105, 115, 105, 110, 103]
      · subst h111
        decide +kernel
      by_cases h112 : L = [114, 105, 100, 105, 110, 103]
      · subst h112
        decide +kernel
      by_cases h114 : L = [102, 114, 101, 115, 104]
      · subst h114
        decide +kernel
      simp only [h100, h101, h102, h103, h104, h105, h106, h107, h108, h109, h110, h111, h112, h114, if_false]
      decide
