/-! ===== soundness: memory ===== -/
section
variable {sc : am_Sc} {sp : Nat → Value} {z0 : Nat} {cy : Nat → ClassId} {D : va_G} {n0 m0 k : Nat} {p : Program} {l : Launch} {e : Env} {R : Room} {s : State} {m : MethodId} {args : Array Value} {below : List Frame} {meth : Method} {c : Code} {Q : State → Prop}
variable {j pc : Nat} {ls : am_L} {st : List Value} {M : am_M} {H : Heap} {locs : List Loc} {cells slots : Nat}
theorem am_sized {g : JFrame} (kk : H.size ≤ s.heap.size + cells → W p l e R s m args below meth c H locs cells slots Q g) : W p l e R s m args below meth c H locs cells slots Q g := fun T hT X => kk (by rw [← hT]; exact X.heapSize) T hT X
theorem am_S_self {A : Nat → Prop} {H0 : Heap} (h : va_S A H0 H locs) : va_S A H H locs := ⟨Nat.le_refl _, fun _ _ _ => rfl, h.2.2⟩
theorem am_S_trans {A : Nat → Prop} {H0 H1 : Heap} {locs1 : List Loc} (h : va_S A H0 H locs) (h1 : va_S A H H1 locs1) : va_S A H0 H1 locs1 := ⟨Nat.le_trans h.1 h1.1, fun q a b => (h1.2.1 q (Nat.lt_of_lt_of_le a h.1) b).trans (h.2.1 q a b), h1.2.2⟩
theorem am_cv_lt {n : Nat} (h : n < 1000) : am_cv z0 sp (.ref n) = .ref (am_ad z0 n) := by
  have hb : Nat.ble 1000 n = false := by
    cases hq : Nat.ble 1000 n with
    | false => rfl
    | true => have := Nat.le_of_ble_eq_true hq; omega
  simp only [am_cv, hb]
theorem am_cv_ge {n : Nat} (h : 1000 ≤ n) : am_cv z0 sp (.ref n) = sp n := by
  have hb : Nat.ble 1000 n = true := Nat.ble_eq_true_of_le h
  simp only [am_cv, hb]
theorem am_stored (hz : s.heap.size = z0 + n0) (hW : am_Wd sp z0 cy D M s H locs) (hc : cells + n0 = am_tot M) (hs : slots + m0 = am_sl M) {n : Nat} {e0 e' : am_E} (hg : am_get M n = some e0) (he : am_esl e' = am_esl e0) {q0 : Nat} (hq : ∀ e', am_cm z0 sp cy 0 (am_set M n e') = (am_cm z0 sp cy 0 M).set q0 (am_ad z0 n, am_ce z0 sp cy e')) {H1 : Heap} {locs1 : List Loc} (hP1 : va_P D vwCl ((am_cm z0 sp cy 0 M).set q0 (am_ad z0 n, am_ce z0 sp cy e')) H1) (hD1 : va_D (am_A z0) ((am_cm z0 sp cy 0 M).set q0 (am_ad z0 n, am_ce z0 sp cy e'))) (hS1 : va_S (am_A z0) H H1 locs1) {lsv : Array Slot} (hl : am_lv sp z0 lsv (am_ml k) ls) {pc' : Nat} (hpc : am_pc k j = pc')
    (kk : am_W sp z0 cy D n0 m0 k p l e R s m args below meth c Q (j, ls, st, am_set M n e')) : W p l e R s m args below meth c H1 locs1 cells slots Q (F0 m pc' lsv (st.map (am_cv z0 sp))) := am_sized (fun hsz => by
  have hH : H1.size = H.size := by have := hS1.1; have := hW.1; omega
  have ht := am_set_tot hg he
  have h := kk H1 locs1 lsv cells slots ⟨by rw [hH, ht.1]; exact hW.1, by rw [hq]; exact hP1, by rw [hq]; exact hD1, am_S_trans hW.2.2.2 hS1⟩ (by rw [ht.1]; exact hc) (by rw [ht.2]; exact hs) hl
  dsimp only at h
  rw [hpc] at h
  exact h)
/-- a field's link: class number a, slot b -/
def am_Lf (k i a b : Nat) : Prop := ∃ q : vw_C, vwCl[a]? = some q ∧ b < q.2.2 ∧ Cond.fieldLink (am_cn (am_ow k)) i (q.2.1 b).1 (q.2.1 b).2.1 (q.2.1 b).2.2.1 ∈ xw_tw
theorem am_s_getf (hF : am_F sc sp z0 cy D k p R s m args meth c) {i a b n : Nat} {fs : List Value} {v : Value} (hL : am_Lf k i a b) (hcl : ∀ q, vwCl[a]? = some q → ∃ ty, am_Cl a q ty) (hdg : decode (am_cd k) pc = .ok (.getfield i, 3)) (hpc : am_pc k j = pc) (hnx : am_pc k (j + 1) = pc + 3) (hg : am_get M n = some (.inr (a, fs))) (hv : fs[b]? = some v)
    (kk : am_W sp z0 cy D n0 m0 k p l e R s m args below meth c Q (j + 1, ls, v :: st, M)) : am_W sp z0 cy D n0 m0 k p l e R s m args below meth c Q (j, ls, .ref n :: st, M) := fun H locs lsv cells slots hW hc hs hl => by
  have h := kk H locs lsv cells slots hW hc hs hl
  dsimp only at h ⊢
  obtain ⟨q, hq, hb, hlk⟩ := hL
  obtain ⟨ty, hci, hty, hnm, -⟩ := hcl q hq
  obtain ⟨hn, q0, h1, -⟩ := am_get_at (z0 := z0) (sp := sp) (cy := cy) hg
  rw [hpc, List.map_cons, am_cv_lt hn]
  rw [hnx] at h
  exact va_get hF.1 hF.2.1 hF.2.2.2.2.1 hci hF.2.2.2.1 hF.2.2.2.2.2.1 hW.2.1 q0 h1 hq b hb (hF.2.2.2.2.1 _ hlk) (fun _ x => x) (by rw [List.getElem?_map, hv]; rfl) hdg h
/-- what a kind of field takes -/
def am_Fk (k : Nat) (q : vw_C) (b kd : Nat) : Prop := match kd with
  | 0 => (q.2.1 b).2.2.2 = false ∧ parseFieldDescriptor (q.2.1 b).2.2.1 = some .int
  | 1 => (q.2.1 b).2.2.2 = false ∧ parseFieldDescriptor (q.2.1 b).2.2.1 = some .boolean
  | 2 => (q.2.1 b).2.2.2 = false ∧ parseFieldDescriptor (q.2.1 b).2.2.1 = some .long
  | _ => (q.2.1 b).2.2.2 = true ∧ am_isI k = true ∧ (q.2.1 b).1 = am_cn (am_ow k) ∧ ((∃ C, parseFieldDescriptor (q.2.1 b).2.2.1 = some (.object C)) ∨ ∃ t, parseFieldDescriptor (q.2.1 b).2.2.1 = some (.array t))
theorem am_s_putf (hF : am_F sc sp z0 cy D k p R s m args meth c) (hz : s.heap.size = z0 + n0) {i a b n kd : Nat} {fs : List Value} {v : Value} {P : Prop} (hL : am_Lf k i a b) (hcl : ∀ q, vwCl[a]? = some q → (∃ ty, am_Cl a q ty) ∧ am_Fk k q b kd) (hdg : decode (am_cd k) pc = .ok (.putfield i, 3)) (hpc : am_pc k j = pc) (hnx : am_pc k (j + 1) = pc + 3) (hg : am_get M n = some (.inr (a, fs))) (hb2 : b < fs.length) (hk : am_pfk kd v = some P) (hP : P)
    (kk : am_W sp z0 cy D n0 m0 k p l e R s m args below meth c Q (j + 1, ls, st, am_set M n (.inr (a, fs.set b v)))) : am_W sp z0 cy D n0 m0 k p l e R s m args below meth c Q (j, ls, v :: .ref n :: st, M) := fun H locs lsv cells slots hW hc hs hl => by
  dsimp only at hW hc hs hl ⊢
  obtain ⟨q, hq, hb, hlk⟩ := hL
  obtain ⟨⟨ty, hci, hty, hnm, -⟩, hfk⟩ := hcl q hq
  obtain ⟨hn, q0, h1, h2⟩ := am_get_at (z0 := z0) (sp := sp) (cy := cy) hg
  rw [hpc, List.map_cons, List.map_cons, am_cv_lt hn]
  have fin : ∀ (H1 : Heap) (locs1 : List Loc), va_P D vwCl ((am_cm z0 sp cy 0 M).set q0 (am_ad z0 n, .inr (a, (fs.map (am_cv z0 sp)).set b (am_cv z0 sp v)))) H1 → va_D (am_A z0) ((am_cm z0 sp cy 0 M).set q0 (am_ad z0 n, .inr (a, (fs.map (am_cv z0 sp)).set b (am_cv z0 sp v)))) → va_S (am_A z0) H H1 locs1 → W p l e R s m args below meth c H1 locs1 cells slots Q (F0 m (pc + 3) lsv (st.map (am_cv z0 sp))) := by
    intro H1 locs1 g1 g2 g3
    rw [← List.map_set] at g1 g2
    exact am_stored hz hW hc hs (e' := .inr (a, fs.set b v)) hg (by simp [am_esl]) h2 g1 g2 g3 hl hnx kk
  have plain : ∀ t : FieldType, (q.2.1 b).2.2.2 = false → parseFieldDescriptor (q.2.1 b).2.2.1 = some t → narrow t (am_cv z0 sp v) = am_cv z0 sp v → fits t (am_cv z0 sp v) = true → W p l e R s m args below meth c H locs cells slots Q (F0 m pc lsv (am_cv z0 sp v :: .ref (am_ad z0 n) :: st.map (am_cv z0 sp))) := fun t g1 g2 g3 g4 =>
    va_put hF.1 hF.2.1 hF.2.2.2.2.1 hci ty hty hnm hF.2.2.2.1 hF.2.2.2.2.2.1 hW.2.1 hW.2.2.1 (am_S_self hW.2.2.2) q0 h1 hq b hb (hF.2.2.2.2.1 _ hlk) (fun _ x => x) g1 g2 g3 g4 (by simpa using hb2) hdg fin
  unfold am_pfk at hk
  split at hk
  · exact plain .int hfk.1 hfk.2 rfl rfl
  · next x =>
    cases hk
    rcases hP with rfl | rfl
    · exact plain .boolean hfk.1 hfk.2 rfl rfl
    · exact plain .boolean hfk.1 hfk.2 rfl rfl
  · exact plain .long hfk.1 hfk.2 rfl rfl
  · next o =>
    split at hk
    · cases hk
    · next ho =>
      have ho : o < 1000 := by
        rcases Nat.lt_or_ge o 1000 with x | x
        · exact x
        · rw [Nat.ble_eq_true_of_le x] at ho; cases ho
      obtain ⟨f1, f2, f3, f4⟩ := hfk
      rw [am_cv_lt ho] at fin ⊢
      rcases f4 with ⟨C, f4⟩ | ⟨t, f4⟩
      · exact va_putF hF.1 hF.2.1 hF.2.2.2.2.1 hci ty hty hnm hF.2.2.2.1 hF.2.2.2.2.2.1 hW.2.1 hW.2.2.1 (am_S_self hW.2.2.2) q0 h1 hq b hb (hF.2.2.2.2.1 _ hlk) (fun _ x => x) f1 (hF.2.2.2.2.2.2.2.1 f2) f3 f4 rfl rfl (by simpa using hb2) hdg fin
      · exact va_putF hF.1 hF.2.1 hF.2.2.2.2.1 hci ty hty hnm hF.2.2.2.1 hF.2.2.2.2.2.1 hW.2.1 hW.2.2.1 (am_S_self hW.2.2.2) q0 h1 hq b hb (hF.2.2.2.2.1 _ hlk) (fun _ x => x) f1 (hF.2.2.2.2.2.2.2.1 f2) f3 f4 rfl rfl (by simpa using hb2) hdg fin
  · cases hk
theorem am_s_gets (hF : am_F sc sp z0 cy D k p R s m args meth c) {i : Nat} {q : String × String × String × Value} (hq : q ∈ am_gs) (hL : Cond.fieldLink (am_cn (am_ow k)) i q.1 q.2.1 q.2.2.1 ∈ xw_tw ∨ ∃ h, Cond.fieldLinkNest (am_cn (am_ow k)) i q.1 q.2.1 q.2.2.1 h ∈ am_nw) (hdg : decode (am_cd k) pc = .ok (.getstatic i, 3)) (hpc : am_pc k j = pc) (hnx : am_pc k (j + 1) = pc + 3)
    (kk : am_W sp z0 cy D n0 m0 k p l e R s m args below meth c Q (j + 1, ls, q.2.2.2 :: st, M)) : am_W sp z0 cy D n0 m0 k p l e R s m args below meth c Q (j, ls, st, M) := fun H locs lsv cells slots hW hc hs hl => by
  have h := kk H locs lsv cells slots hW hc hs hl
  dsimp only at h ⊢
  rw [hpc]
  rw [hnx] at h
  have hX := hF.2.2.2.2.2.2.1
  rcases hL with g | ⟨ho, g⟩
  · exact va_gets hF.1 hF.2.1 (hX.1 q hq) hW.2.2.2 hF.2.2.2.1 (hF.2.2.2.2.1 _ g) (fun _ x => x) hdg h
  · exact va_getsN hF.1 hF.2.1 (hX.1 q hq) hW.2.2.2 hF.2.2.2.1 (va_Nw.use rfl (hX.2.2.1 _ g)) (fun _ x => x) hdg h
theorem am_s_ldcS (hF : am_F sc sp z0 cy D k p R s m args meth c) (hk : am_ow k = 2) (hdg : decode (am_cd k) pc = .ok (.ldc 118, 2)) (hpc : am_pc k j = pc) (hnx : am_pc k (j + 1) = pc + 2)
    (kk : am_W sp z0 cy D n0 m0 k p l e R s m args below meth c Q (j + 1, ls, .ref 1010 :: st, M)) : am_W sp z0 cy D n0 m0 k p l e R s m args below meth c Q (j, ls, st, M) := fun H locs lsv cells slots hW hc hs hl => by
  have h := kk H locs lsv cells slots hW hc hs hl
  dsimp only at h ⊢
  rw [hpc]
  rw [hnx, List.map_cons, am_cv_ge (by omega)] at h
  obtain ⟨a, t, e1, e2, hR, -⟩ := hF.2.2.2.2.2.2.1.2.2.2
  rw [e1] at h
  have ho := hF.2.2.2.1
  rw [hk] at ho
  exact va_ldcS hF.1 hF.2.1 ho hR hdg h
theorem am_s_getSv (hF : am_F sc sp z0 cy D k p R s m args meth c) {i : Nat} (g : Cond.fieldLink (am_cn (am_ow k)) i "java/lang/String" "value" "[B" ∈ xw_tw) (hdg : decode (am_cd k) pc = .ok (.getfield i, 3)) (hpc : am_pc k j = pc) (hnx : am_pc k (j + 1) = pc + 3)
    (kk : am_W sp z0 cy D n0 m0 k p l e R s m args below meth c Q (j + 1, ls, .ref 1011 :: st, M)) : am_W sp z0 cy D n0 m0 k p l e R s m args below meth c Q (j, ls, .ref 1010 :: st, M) := fun H locs lsv cells slots hW hc hs hl => by
  have h := kk H locs lsv cells slots hW hc hs hl
  dsimp only at h ⊢
  obtain ⟨a, t, e1, e2, hR, hO, hC, hV⟩ := hF.2.2.2.2.2.2.1.2.2.2
  rw [hpc, List.map_cons, am_cv_ge (by omega), e1]
  rw [hnx, List.map_cons, am_cv_ge (by omega), e2] at h
  exact vk_getf hF.1 hF.2.1 hV hW.2.2.2 hF.2.2.2.1 (hF.2.2.2.2.1 _ g) (fun _ x => x) hdg h
theorem am_s_getSc (hF : am_F sc sp z0 cy D k p R s m args meth c) {i : Nat} (g : Cond.fieldLink (am_cn (am_ow k)) i "java/lang/String" "coder" "B" ∈ xw_tw) (hdg : decode (am_cd k) pc = .ok (.getfield i, 3)) (hpc : am_pc k j = pc) (hnx : am_pc k (j + 1) = pc + 3)
    (kk : am_W sp z0 cy D n0 m0 k p l e R s m args below meth c Q (j + 1, ls, .int 0 :: st, M)) : am_W sp z0 cy D n0 m0 k p l e R s m args below meth c Q (j, ls, .ref 1010 :: st, M) := fun H locs lsv cells slots hW hc hs hl => by
  have h := kk H locs lsv cells slots hW hc hs hl
  dsimp only at h ⊢
  obtain ⟨a, t, e1, e2, hR, hO, hC, hV⟩ := hF.2.2.2.2.2.2.1.2.2.2
  rw [hpc, List.map_cons, am_cv_ge (by omega), e1]
  rw [hnx] at h
  exact vk_getf hF.1 hF.2.1 hC hW.2.2.2 hF.2.2.2.1 (hF.2.2.2.2.1 _ g) (fun _ x => x) hdg h
theorem am_get_lt {M : am_M} {n : Nat} {e : am_E} (h : am_get M n = some e) : n < 1000 := (am_get_at (z0 := 0) (sp := fun _ => .null) (cy := fun _ => default) h).1
/-- an array: of the memory, or one that was there before -/
theorem am_arr_spec {n ty len : Nat} {f : Nat → Int32} (h : am_arr sc M n = some (ty, len, f)) : (n < 1000 ∧ am_get M n = some (.inl (ty, len, .inl f))) ∨ (1000 ≤ n ∧ am_old sc n = some (ty, len, f)) := by
  unfold am_arr at h
  split at h
  · next hb => exact Or.inr ⟨Nat.le_of_ble_eq_true hb, h⟩
  · split at h
    · next hg => cases h; exact Or.inl ⟨am_get_lt hg, hg⟩
    · cases h
theorem am_old_ty {n ty len : Nat} {f : Nat → Int32} (h : am_old sc n = some (ty, len, f)) : ty = 0 ∨ ty = 1 := by
  unfold am_old at h
  split at h
  · cases h; exact Or.inl rfl
  · split at h
    · cases h; exact Or.inl rfl
    · cases h; exact Or.inr rfl
    · cases h
theorem am_s_iald (hF : am_F sc sp z0 cy D k p R s m args meth c) {n len : Nat} {f : Nat → Int32} {i : Int32} (ha : am_arr sc M n = some (0, len, f)) (hin : am_inb i len) (hdg : decode (am_cd k) pc = .ok (.iaload, 1)) (hpc : am_pc k j = pc) (hnx : am_pc k (j + 1) = pc + 1)
    (kk : am_W sp z0 cy D n0 m0 k p l e R s m args below meth c Q (j + 1, ls, .int (f i.toNatClampNeg) :: st, M)) : am_W sp z0 cy D n0 m0 k p l e R s m args below meth c Q (j, ls, .int i :: .ref n :: st, M) := fun H locs lsv cells slots hW hc hs hl => by
  have h := kk H locs lsv cells slots hW hc hs hl
  dsimp only at h ⊢
  rw [hpc, List.map_cons, List.map_cons]
  rw [hnx] at h
  rcases am_arr_spec ha with ⟨hn, hg⟩ | ⟨hn, hg⟩
  · obtain ⟨-, q0, h1, -⟩ := am_get_at (z0 := z0) (sp := sp) (cy := cy) hg
    rw [am_cv_lt hn]
    exact va_iald hF.1 hF.2.1 hF.2.2.2.2.2.1 hW.2.1 q0 0 h1 rfl hin hdg h
  · obtain ⟨t, e1, hT⟩ := hF.2.2.2.2.2.2.1.2.1 n _ hn hg
    rw [am_cv_ge hn, e1]
    exact va_ti hF.1 hF.2.1 hT hW.2.2.2 hin rfl hdg h
theorem am_s_bald (hF : am_F sc sp z0 cy D k p R s m args meth c) {n len ty : Nat} {f : Nat → Int32} {i : Int32} (ha : am_arr sc M n = some (ty, len, f)) (hty : ty = 1 ∨ ty = 2) (hin : am_inb i len) (hdg : decode (am_cd k) pc = .ok (.baload, 1)) (hpc : am_pc k j = pc) (hnx : am_pc k (j + 1) = pc + 1)
    (kk : am_W sp z0 cy D n0 m0 k p l e R s m args below meth c Q (j + 1, ls, .int (f i.toNatClampNeg) :: st, M)) : am_W sp z0 cy D n0 m0 k p l e R s m args below meth c Q (j, ls, .int i :: .ref n :: st, M) := fun H locs lsv cells slots hW hc hs hl => by
  have h := kk H locs lsv cells slots hW hc hs hl
  dsimp only at h ⊢
  rw [hpc, List.map_cons, List.map_cons]
  rw [hnx] at h
  rcases am_arr_spec ha with ⟨hn, hg⟩ | ⟨hn, hg⟩
  · obtain ⟨-, q0, h1, -⟩ := am_get_at (z0 := z0) (sp := sp) (cy := cy) hg
    rw [am_cv_lt hn]
    rcases hty with rfl | rfl
    · exact va_bald hF.1 hF.2.1 hF.2.2.2.2.2.1 hW.2.1 q0 1 h1 rfl hin hdg h
    · exact va_zald hF.1 hF.2.1 hF.2.2.2.2.2.1 hW.2.1 q0 2 h1 rfl hin hdg h
  · obtain ⟨t, e1, hT⟩ := hF.2.2.2.2.2.2.1.2.1 n _ hn hg
    rw [am_cv_ge hn, e1]
    rcases am_old_ty hg with rfl | rfl
    · omega
    · exact va_tb hF.1 hF.2.1 hT hW.2.2.2 hin rfl hdg h
theorem am_s_alen (hF : am_F sc sp z0 cy D k p R s m args meth c) {n len ty : Nat} {f : Nat → Int32} (ha : am_arr sc M n = some (ty, len, f)) (hty : ty < 3) (hdg : decode (am_cd k) pc = .ok (.arraylength, 1)) (hpc : am_pc k j = pc) (hnx : am_pc k (j + 1) = pc + 1)
    (kk : am_W sp z0 cy D n0 m0 k p l e R s m args below meth c Q (j + 1, ls, .int (Int32.ofNat len) :: st, M)) : am_W sp z0 cy D n0 m0 k p l e R s m args below meth c Q (j, ls, .ref n :: st, M) := fun H locs lsv cells slots hW hc hs hl => by
  have h := kk H locs lsv cells slots hW hc hs hl
  dsimp only at h ⊢
  rw [hpc, List.map_cons]
  rw [hnx] at h
  rcases am_arr_spec ha with ⟨hn, hg⟩ | ⟨hn, hg⟩
  · obtain ⟨-, q0, h1, -⟩ := am_get_at (z0 := z0) (sp := sp) (cy := cy) hg
    rw [am_cv_lt hn]
    have hq : ∃ t : FieldType, (am_tys cy)[ty]? = some (cy ty, t) := by
      rcases (show ty = 0 ∨ ty = 1 ∨ ty = 2 by omega) with rfl | rfl | rfl <;> exact ⟨_, rfl⟩
    obtain ⟨t, hq⟩ := hq
    exact va_alen hF.1 hF.2.1 hF.2.2.2.2.2.1 hW.2.1 q0 ty h1 hq rfl hdg h
  · obtain ⟨t, e1, hT⟩ := hF.2.2.2.2.2.2.1.2.1 n _ hn hg
    rw [am_cv_ge hn, e1]
    exact va_tlen hF.1 hF.2.1 hT hW.2.2.2 rfl hdg h
theorem am_s_iast (hF : am_F sc sp z0 cy D k p R s m args meth c) (hz : s.heap.size = z0 + n0) {n len : Nat} {f : Nat → Int32} {i x : Int32} (ha : am_get M n = some (.inl (0, len, .inl f))) (hin : am_inb i len) (hdg : decode (am_cd k) pc = .ok (.iastore, 1)) (hpc : am_pc k j = pc) (hnx : am_pc k (j + 1) = pc + 1)
    (kk : am_W sp z0 cy D n0 m0 k p l e R s m args below meth c Q (j + 1, ls, st, am_set M n (.inl (0, len, .inl (upd f i.toNatClampNeg x))))) : am_W sp z0 cy D n0 m0 k p l e R s m args below meth c Q (j, ls, .int x :: .int i :: .ref n :: st, M) := fun H locs lsv cells slots hW hc hs hl => by
  dsimp only at hW hc hs hl ⊢
  obtain ⟨hn, q0, h1, h2⟩ := am_get_at (z0 := z0) (sp := sp) (cy := cy) ha
  rw [hpc, List.map_cons, List.map_cons, List.map_cons, am_cv_lt hn]
  exact va_iast hF.1 hF.2.1 hF.2.2.2.2.2.1 hW.2.1 hW.2.2.1 (am_S_self hW.2.2.2) q0 0 h1 rfl hin hdg (fun H1 locs1 g1 g2 g3 => am_stored hz hW hc hs (e' := .inl (0, len, .inl (upd f i.toNatClampNeg x))) ha rfl h2 g1 g2 g3 hl hnx kk)
theorem am_s_bast (hF : am_F sc sp z0 cy D k p R s m args meth c) (hz : s.heap.size = z0 + n0) {n len : Nat} {f : Nat → Int32} {i x : Int32} (ha : am_get M n = some (.inl (1, len, .inl f))) (hin : am_inb i len) (hdg : decode (am_cd k) pc = .ok (.bastore, 1)) (hpc : am_pc k j = pc) (hnx : am_pc k (j + 1) = pc + 1)
    (kk : am_W sp z0 cy D n0 m0 k p l e R s m args below meth c Q (j + 1, ls, st, am_set M n (.inl (1, len, .inl (upd f i.toNatClampNeg (vp_nar .byte x)))))) : am_W sp z0 cy D n0 m0 k p l e R s m args below meth c Q (j, ls, .int x :: .int i :: .ref n :: st, M) := fun H locs lsv cells slots hW hc hs hl => by
  dsimp only at hW hc hs hl ⊢
  obtain ⟨hn, q0, h1, h2⟩ := am_get_at (z0 := z0) (sp := sp) (cy := cy) ha
  rw [hpc, List.map_cons, List.map_cons, List.map_cons, am_cv_lt hn]
  exact va_bast hF.1 hF.2.1 hF.2.2.2.2.2.1 hW.2.1 hW.2.2.1 (am_S_self hW.2.2.2) q0 1 h1 rfl hin hdg (fun H1 locs1 g1 g2 g3 => am_stored hz hW hc hs (e' := .inl (1, len, .inl (upd f i.toNatClampNeg (vp_nar .byte x)))) ha rfl h2 g1 g2 g3 hl hnx kk)
theorem am_s_zast (hF : am_F sc sp z0 cy D k p R s m args meth c) (hz : s.heap.size = z0 + n0) {n len : Nat} {f : Nat → Int32} {i x : Int32} (ha : am_get M n = some (.inl (2, len, .inl f))) (hin : am_inb i len) (hdg : decode (am_cd k) pc = .ok (.bastore, 1)) (hpc : am_pc k j = pc) (hnx : am_pc k (j + 1) = pc + 1)
    (kk : am_W sp z0 cy D n0 m0 k p l e R s m args below meth c Q (j + 1, ls, st, am_set M n (.inl (2, len, .inl (upd f i.toNatClampNeg (vp_nar .boolean x)))))) : am_W sp z0 cy D n0 m0 k p l e R s m args below meth c Q (j, ls, .int x :: .int i :: .ref n :: st, M) := fun H locs lsv cells slots hW hc hs hl => by
  dsimp only at hW hc hs hl ⊢
  obtain ⟨hn, q0, h1, h2⟩ := am_get_at (z0 := z0) (sp := sp) (cy := cy) ha
  rw [hpc, List.map_cons, List.map_cons, List.map_cons, am_cv_lt hn]
  exact va_zast hF.1 hF.2.1 hF.2.2.2.2.2.1 hW.2.1 hW.2.2.1 (am_S_self hW.2.2.2) q0 2 h1 rfl hin hdg (fun H1 locs1 g1 g2 g3 => am_stored hz hW hc hs (e' := .inl (2, len, .inl (upd f i.toNatClampNeg (vp_nar .boolean x)))) ha rfl h2 g1 g2 g3 hl hnx kk)
end
