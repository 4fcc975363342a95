/-! ===== soundness: what is made, the JDK's own, switches ===== -/
section
variable {sc : am_Sc} {sp : Nat → Value} {z0 : Nat} {cy : Nat → ClassId} {D : va_G} {n0 m0 k : Nat} {p : Program} {l : Launch} {e : Env} {R : Room} {s : State} {m : MethodId} {args : Array Value} {below : List Frame} {meth : Method} {c : Code} {Q : State → Prop}
variable {j pc : Nat} {ls : am_L} {st : List Value} {M : am_M} {H : Heap} {locs : List Loc} {cells slots : Nat}
/-- the words of a static method of the JDK -/
def am_Lm (k i : Nat) (y : MethodName) : Prop := Cond.methodLink (am_cn (am_ow k)) i y ∈ xw_tw ∧ Cond.static y ∈ xw_tw ∧ Cond.initialized y.cls ∈ xw_tw
theorem am_s_max (hF : am_F sc sp z0 cy D k p R s m args meth c) (hsp : ∀ n, sp n = .null ∨ ∃ t, sp n = .ref t) {i : Nat} {x y : Int32} (hL : am_Lm k i Lib.Math.max.name ∧ Cond.code Lib.Math.max.name Lib.Math.max.code 2 (some .int) ∈ xw_tw) (hr : 1 ≤ am_fr k ∧ 26 ≤ am_lo k) (hlim : am_tot M ≤ n0 + R.cells ∧ am_sl M ≤ m0 + R.slots) (h8 : am_cats st ≤ 8) (hdg : decode (am_cd k) pc = .ok (.invokestatic i, 3)) (hpc : am_pc k j = pc) (hnx : am_pc k (j + 1) = pc + 3)
    (kk : am_W sp z0 cy D n0 m0 k p l e R s m args below meth c Q (j + 1, ls, .int (if x < y then y else x) :: st, M)) : am_W sp z0 cy D n0 m0 k p l e R s m args below meth c Q (j, ls, .int y :: .int x :: st, M) := fun H locs lsv cells slots hW hc hs hl => by
  have h := kk H locs lsv cells slots hW hc hs hl
  dsimp only at h hc hs hl ⊢
  rw [hpc]
  rw [hnx] at h
  have h3 := am_cats_map (z0 := z0) (am_sp_cat hsp) st
  have hf := hF.2.2.2.2.2.2.2.2.1
  have ho := hF.2.2.2.2.2.2.2.2.2.1
  exact va_mmax hF.1 hF.2.1 (hF.2.2.1.trans hl.2.1.symm) hF.2.2.2.1 (hF.2.2.2.2.1 _ hL.1.1) (hF.2.2.2.2.1 _ hL.1.2.1) (hF.2.2.2.2.1 _ hL.1.2.2) (hF.2.2.2.2.1 _ hL.2) (by omega) (by rw [h3]; omega) (by omega) (by omega) hdg h
theorem am_s_min (hF : am_F sc sp z0 cy D k p R s m args meth c) (hsp : ∀ n, sp n = .null ∨ ∃ t, sp n = .ref t) {i : Nat} {x y : Int32} (hL : am_Lm k i Lib.Math.min.name ∧ Cond.code Lib.Math.min.name Lib.Math.min.code 2 (some .int) ∈ xw_tw) (hr : 1 ≤ am_fr k ∧ 26 ≤ am_lo k) (hlim : am_tot M ≤ n0 + R.cells ∧ am_sl M ≤ m0 + R.slots) (h8 : am_cats st ≤ 8) (hdg : decode (am_cd k) pc = .ok (.invokestatic i, 3)) (hpc : am_pc k j = pc) (hnx : am_pc k (j + 1) = pc + 3)
    (kk : am_W sp z0 cy D n0 m0 k p l e R s m args below meth c Q (j + 1, ls, .int (if y < x then y else x) :: st, M)) : am_W sp z0 cy D n0 m0 k p l e R s m args below meth c Q (j, ls, .int y :: .int x :: st, M) := fun H locs lsv cells slots hW hc hs hl => by
  have h := kk H locs lsv cells slots hW hc hs hl
  dsimp only at h hc hs hl ⊢
  rw [hpc]
  rw [hnx] at h
  have h3 := am_cats_map (z0 := z0) (am_sp_cat hsp) st
  have hf := hF.2.2.2.2.2.2.2.2.1
  have ho := hF.2.2.2.2.2.2.2.2.2.1
  exact va_mmin hF.1 hF.2.1 (hF.2.2.1.trans hl.2.1.symm) hF.2.2.2.1 (hF.2.2.2.2.1 _ hL.1.1) (hF.2.2.2.2.1 _ hL.1.2.1) (hF.2.2.2.2.1 _ hL.1.2.2) (hF.2.2.2.2.1 _ hL.2) (by omega) (by rw [h3]; omega) (by omega) (by omega) hdg h
theorem am_s_abs (hF : am_F sc sp z0 cy D k p R s m args meth c) (hsp : ∀ n, sp n = .null ∨ ∃ t, sp n = .ref t) {i : Nat} {x : Int32} (hL : am_Lm k i Lib.Math.abs.name ∧ Cond.code Lib.Math.abs.name Lib.Math.abs.code 1 (some .int) ∈ xw_tw) (hr : 1 ≤ am_fr k ∧ 26 ≤ am_lo k) (hlim : am_tot M ≤ n0 + R.cells ∧ am_sl M ≤ m0 + R.slots) (h8 : am_cats st ≤ 8) (hdg : decode (am_cd k) pc = .ok (.invokestatic i, 3)) (hpc : am_pc k j = pc) (hnx : am_pc k (j + 1) = pc + 3)
    (kk : am_W sp z0 cy D n0 m0 k p l e R s m args below meth c Q (j + 1, ls, .int (if 0 ≤ x then x else 0 - x) :: st, M)) : am_W sp z0 cy D n0 m0 k p l e R s m args below meth c Q (j, ls, .int x :: st, M) := fun H locs lsv cells slots hW hc hs hl => by
  have h := kk H locs lsv cells slots hW hc hs hl
  dsimp only at h hc hs hl ⊢
  rw [hpc]
  rw [hnx] at h
  have h3 := am_cats_map (z0 := z0) (am_sp_cat hsp) st
  have hf := hF.2.2.2.2.2.2.2.2.1
  have ho := hF.2.2.2.2.2.2.2.2.2.1
  exact va_mabs hF.1 hF.2.1 (hF.2.2.1.trans hl.2.1.symm) hF.2.2.2.1 (hF.2.2.2.2.1 _ hL.1.1) (hF.2.2.2.2.1 _ hL.1.2.1) (hF.2.2.2.2.1 _ hL.1.2.2) (hF.2.2.2.2.1 _ hL.2) (by omega) (by rw [h3]; omega) (by omega) (by omega) hdg h
theorem am_copyt {cc : ByteArray} {ls : Array Slot} {rest : List Value} {cl : List vw_C} {A : Nat → Prop} {tys : List (ClassId × FieldType)} {ws : va_W} {H0 : Heap} (hexec : p.tables.exec = Jvm.exec) (hb : c.code = cc) (hml : c.maxLocals = ls.size) {own : String} {index : Nat} (hown : s.vm.findClass own = some m.cls) (hlink : (Cond.methodLink own index arraycopyName).before args s = true) (hnat : (Cond.native arraycopyName).before args s = true) (hstat : (Cond.static arraycopyName).before args s = true) (hini : (Cond.initialized "java/lang/System").before args s = true)
    (hK : va_K D cl tys s) (hP : va_P D cl ws H) (hD : va_D A ws) (hS : va_S A H0 H locs) {a b0 n0 n1 : Nat} {f g : Nat → Int32} (hX : va_T .int b0 n0 (fun j => .int (f j)) A s H) (q1 t1 : Nat) {c1 : ClassId} (ha1 : ws[q1]? = some (a, .inl (c1, n1, .inl g))) (ht1 : tys[t1]? = some (c1, .int))
    {u v n : Int32} (hu : ¬ u < 0) (hv : ¬ v < 0) (hn : ¬ n < 0) (h4 : u.toNatClampNeg + n.toNatClampNeg ≤ n0) (h5 : v.toNatClampNeg + n.toNatClampNeg ≤ n1)
    (hfr : 1 ≤ R.frames) (hlo : (rest.map fun v => v.category).sum + (nativeFrameWords "java/lang/System" "arraycopy" 5 + 11) ≤ R.locals) (hdg : decode cc pc = .ok (.invokestatic index, 3))
    (kk : ∀ (H1 : Heap) (locs1 : List Loc), va_P D cl (ws.set q1 (a, .inl (c1, n1, .inl (va_cpy f g u.toNatClampNeg v.toNatClampNeg n.toNatClampNeg)))) H1 → va_D A (ws.set q1 (a, .inl (c1, n1, .inl (va_cpy f g u.toNatClampNeg v.toNatClampNeg n.toNatClampNeg)))) → va_S A H0 H1 locs1 → W p l e R s m args below meth c H1 locs1 cells slots Q (F0 m (pc + 3) ls rest)) : W p l e R s m args below meth c H locs cells slots Q (F0 m pc ls (.int n :: .int v :: .ref a :: .int u :: .ref b0 :: rest)) := by
  have nn : ∀ z : Int32, ¬ z < 0 → z.toInt = (z.toNatClampNeg : Int) := by
    intro z hz
    have hz0 : (0 : Int) ≤ z.toInt := by simpa using Int32.le_iff_toInt_le.mp (Int32.not_lt.mp hz)
    show z.toInt = ((z.toInt.toNat : Nat) : Int)
    omega
  have e0 := nn u hu
  have e2 := nn v hv
  have e3 := nn n hn
  generalize hN : va_cpy f g u.toNatClampNeg v.toNatClampNeg n.toNatClampNeg = fg at kk
  intro T hT X
  obtain ⟨old, o1, ⟨o2, kO, o3, cO, o4⟩, o5, o6, -, o7, -⟩ := hX
  have hc1 : H[a]? = some (vp_cell c1 (n1, .inl g)) := hP q1 _ ha1
  obtain ⟨-, kN, y1, cN, y2⟩ := (hK.2 t1 _ ht1).1 n1 (fun j => .int (g j))
  have hsz : ((vp_cell c1 (n1, .inl g)).slots.size : Int) = n1 := by
    show ((arrV c1 n1 (fun j => .int (g j))).slots.size : Int) = n1
    rw [arrV_size]
  obtain ⟨vm', X', step⟩ := X.arraycopy hexec hown hlink hnat hstat hini (src := b0) (dst := a) (cs := old) (cd := vp_cell c1 (n1, .inl g)) (srcPos := u) (destPos := v) (n := n) (by rw [hT]; exact o1) (by rw [hT]; exact hc1)
    o2 (fun _ h => by cases h) o5 (fun h => by cases h) o3 y1 o4 y2 (by simp [refKind]) hu hv hn
    (by omega) (by omega)
    (fun vm₁ _ i hi => by
      have ei : old.slots.getD (u.toNatClampNeg + i) .null = .int (f (u.toNatClampNeg + i)) := by
        rw [Array.getD_eq_getD_getElem?, o7 _ (by omega)]
        rfl
      rw [ei]
      exact ⟨rfl, trivial⟩)
    (g := F0 m pc ls (.int n :: .int v :: .ref a :: .int u :: .ref b0 :: rest)) rfl (by rw [hml]) (rest := rest) rfl (by rw [hb]; exact hdg) hfr (by show 2 * 0 + _ + _ ≤ _; omega)
  have eC : copied old (vp_cell c1 (n1, .inl g)) u v n = vp_cell c1 (n1, .inl fg) := by
    rw [← hN]
    exact va_copiedX (fun z => .int z) old c1 f g o7 h4
  rw [eC] at X' step
  have hl : a < H.size := (Array.getElem?_eq_some_iff.mp hc1).1
  have hA : A a := hD.2 q1 _ ha1
  have hh : ((T.setVm vm').setCell a (vp_cell c1 (n1, .inl fg))).heap = H.setIfInBounds a (vp_cell c1 (n1, .inl fg)) := by rw [← hT]; rfl
  have oq : ∀ q : Nat, q ≠ a → (H.setIfInBounds a (vp_cell c1 (n1, .inl fg)))[q]? = H[q]? := fun q hq => by simp [Array.getElem?_setIfInBounds, Ne.symm hq]
  have hS1 : H0.size ≤ (H.setIfInBounds a (vp_cell c1 (n1, .inl fg))).size ∧ ∀ q : Nat, q < H0.size → ¬ A q → (H.setIfInBounds a (vp_cell c1 (n1, .inl fg)))[q]? = H0[q]? := ⟨by simp; exact hS.1, fun q w1 w2 => by
    rw [oq q (fun z => w2 (by rw [z]; exact hA))]
    exact hS.2.1 q w1 w2⟩
  obtain ⟨t, k1, k2⟩ := kk _ _ (hP.set hD ha1 (show (H.setIfInBounds a _)[a]? = some _ by simp [Array.getElem?_setIfInBounds, hl]) oq) (hD.set ha1) ⟨hS1.1, hS1.2, fun q hq => by
    rcases List.mem_append.mp hq with h | h
    · exact hS.2.2 q h
    · obtain ⟨z, -, hz⟩ := List.mem_map.mp h
      rw [← hz]
      exact hA⟩ _ hh X'
  exact ⟨t, step t k1, k2⟩
theorem am_s_copy (hF : am_F sc sp z0 cy D k p R s m args meth c) (hsp : ∀ n, sp n = .null ∨ ∃ t, sp n = .ref t) (hz : s.heap.size = z0 + n0) {i a a0 ln0 ln1 : Nat} {f g : Nat → Int32} {n dp sps : Int32} (hL : am_Lm k i arraycopyName ∧ Cond.native arraycopyName ∈ xw_tw) (hr : 1 ≤ am_fr k ∧ 26 ≤ am_lo k) (h8 : am_cats st ≤ 8) (hg0 : am_arr sc M a0 = some (0, ln0, f)) (hg1 : am_get M a = some (.inl (0, ln1, .inl g))) (hP : (¬ sps < 0 ∧ ¬ dp < 0 ∧ ¬ n < 0) ∧ sps.toNatClampNeg + n.toNatClampNeg ≤ ln0 ∧ dp.toNatClampNeg + n.toNatClampNeg ≤ ln1) (hdg : decode (am_cd k) pc = .ok (.invokestatic i, 3)) (hpc : am_pc k j = pc) (hnx : am_pc k (j + 1) = pc + 3)
    (kk : am_W sp z0 cy D n0 m0 k p l e R s m args below meth c Q (j + 1, ls, st, am_set M a (.inl (0, ln1, .inl (va_cpy f g sps.toNatClampNeg dp.toNatClampNeg n.toNatClampNeg))))) : am_W sp z0 cy D n0 m0 k p l e R s m args below meth c Q (j, ls, .int n :: .int dp :: .ref a :: .int sps :: .ref a0 :: st, M) := fun H locs lsv cells slots hW hc hs hl => by
  dsimp only at hW hc hs hl ⊢
  obtain ⟨hn, q1, h2, h3⟩ := am_get_at (z0 := z0) (sp := sp) (cy := cy) hg1
  have h4 := am_cats_map (z0 := z0) (am_sp_cat hsp) st
  have hf := hF.2.2.2.2.2.2.2.2.1
  have ho := hF.2.2.2.2.2.2.2.2.2.1
  have hw : nativeFrameWords "java/lang/System" "arraycopy" 5 = 7 := by decide +kernel
  rcases am_arr_spec hg0 with ⟨hn0, hg⟩ | ⟨hn0, hg⟩
  · obtain ⟨-, q0, h1, -⟩ := am_get_at (z0 := z0) (sp := sp) (cy := cy) hg
    rw [hpc, List.map_cons, List.map_cons, List.map_cons, List.map_cons, List.map_cons, am_cv_lt hn, am_cv_lt hn0]
    exact va_copyi hF.1 hF.2.1 (hF.2.2.1.trans hl.2.1.symm) hF.2.2.2.1 (hF.2.2.2.2.1 _ hL.1.1) (hF.2.2.2.2.1 _ hL.2) (hF.2.2.2.2.1 _ hL.1.2.1) (hF.2.2.2.2.1 _ hL.1.2.2) hF.2.2.2.2.2.1 hW.2.1 hW.2.2.1 (am_S_self hW.2.2.2) q0 q1 0 0 h1 h2 rfl rfl rfl hP.1.1 hP.1.2.1 hP.1.2.2 hP.2.1 hP.2.2 (fun _ _ => rfl) (by omega) (by rw [h4, hw]; omega) hdg
      (fun H1 locs1 g1 g2 g3 => am_stored hz hW hc hs (e' := .inl (0, ln1, .inl (va_cpy f g sps.toNatClampNeg dp.toNatClampNeg n.toNatClampNeg))) hg1 rfl h3 g1 g2 g3 hl hnx kk)
  · obtain ⟨t, e1, hT⟩ := hF.2.2.2.2.2.2.1.2.1 a0 _ hn0 hg
    rw [hpc, List.map_cons, List.map_cons, List.map_cons, List.map_cons, List.map_cons, am_cv_lt hn, am_cv_ge hn0, e1]
    exact am_copyt hF.1 hF.2.1 (hF.2.2.1.trans hl.2.1.symm) hF.2.2.2.1 (hF.2.2.2.2.1 _ hL.1.1) (hF.2.2.2.2.1 _ hL.2) (hF.2.2.2.2.1 _ hL.1.2.1) (hF.2.2.2.2.1 _ hL.1.2.2) hF.2.2.2.2.2.1 hW.2.1 hW.2.2.1 (am_S_self hW.2.2.2) (hT.kept (fun q w1 w2 => hW.2.2.2.2.1 q w1 w2)) q1 0 h2 rfl hP.1.1 hP.1.2.1 hP.1.2.2 hP.2.1 hP.2.2 (by omega) (by rw [h4, hw]; omega) hdg
      (fun H1 locs1 g1 g2 g3 => am_stored hz hW hc hs (e' := .inl (0, ln1, .inl (va_cpy f g sps.toNatClampNeg dp.toNatClampNeg n.toNatClampNeg))) hg1 rfl h3 g1 g2 g3 hl hnx kk)
theorem am_s_objI (hF : am_F sc sp z0 cy D k p R s m args meth c) (hsp : ∀ n, sp n = .null ∨ ∃ t, sp n = .ref t) {i n : Nat} (hL : Cond.methodLink (am_cn (am_ow k)) i Lib.objectInit ∈ xw_tw ∧ Cond.instanceMethod Lib.objectInit ∈ xw_tw ∧ Cond.code Lib.objectInit ⟨#[0xb1]⟩ 1 none ∈ xw_tw) (hr : 1 ≤ am_fr k ∧ 20 ≤ am_lo k) (h8 : am_cats st ≤ 8) (hg : n < 1000) (hdg : decode (am_cd k) pc = .ok (.invokespecial i, 3)) (hpc : am_pc k j = pc) (hnx : am_pc k (j + 1) = pc + 3)
    (kk : am_W sp z0 cy D n0 m0 k p l e R s m args below meth c Q (j + 1, ls, st, M)) : am_W sp z0 cy D n0 m0 k p l e R s m args below meth c Q (j, ls, .ref n :: st, M) := fun H locs lsv cells slots hW hc hs hl => by
  have h := kk H locs lsv cells slots hW hc hs hl
  dsimp only at h hc hs hl ⊢
  rw [hpc, List.map_cons, am_cv_lt hg]
  rw [hnx] at h
  have h4 := am_cats_map (z0 := z0) (am_sp_cat hsp) st
  have hf := hF.2.2.2.2.2.2.2.2.1
  have ho := hF.2.2.2.2.2.2.2.2.2.1
  exact W.objInit hF.1 hF.2.1 hF.2.2.2.1 (hF.2.2.2.2.1 _ hL.1) (hF.2.2.2.2.1 _ hL.2.1) (hF.2.2.2.2.1 _ hL.2.2) (g := F0 m pc lsv (.ref (am_ad z0 n) :: st.map (am_cv z0 sp))) rfl (hl.2.1.trans hF.2.2.1.symm) rfl hdg (by omega) (by show 2 * 0 + _ + 12 ≤ _; rw [h4]; omega) h
theorem am_ad_at {b i : Nat} (hi : i < 32) : am_ad z0 (32 * b + i) = z0 + am_of b + i := by
  unfold am_ad
  rw [show (32 * b + i) / 32 = b by omega, show (32 * b + i) % 32 = i by omega]
theorem am_s_newa (hF : am_F sc sp z0 cy D k p R s m args meth c) {t : ArrayType} {ty : Nat} {n : Int32} (hty : am_aty t = some ty) (hL : Cond.arrayClass (newarray.typeOf t) ∈ xw_tw) (hlim : am_tot (am_push M (.inl (ty, n.toNatClampNeg, .inl (fun _ => 0)))) ≤ n0 + R.cells ∧ am_sl (am_push M (.inl (ty, n.toNatClampNeg, .inl (fun _ => 0)))) ≤ m0 + R.slots) (hA : am_tot M = am_of (am_last M).1 + (am_last M).2) (hM : 0 < M.length) (h32 : (am_last M).2 < 32) (h1000 : 32 * (am_last M).1 + (am_last M).2 < 1000) (hn1 : n.toNatClampNeg ≤ 1000) (hn : ¬ n < 0) (hdg : decode (am_cd k) pc = .ok (.newarray t, 2)) (hpc : am_pc k j = pc) (hnx : am_pc k (j + 1) = pc + 2)
    (kk : am_W sp z0 cy D n0 m0 k p l e R s m args below meth c Q (j + 1, ls, .ref (32 * (am_last M).1 + (am_last M).2) :: st, am_push M (.inl (ty, n.toNatClampNeg, .inl (fun _ => 0))))) : am_W sp z0 cy D n0 m0 k p l e R s m args below meth c Q (j, ls, .int n :: st, M) := fun H locs lsv cells slots hW hc hs hl => by
  dsimp only at hW hc hs hl ⊢
  have ht := am_tot_push (.inl (ty, n.toNatClampNeg, .inl (fun _ => 0))) M hM
  have hsl := am_sl_push (.inl (ty, n.toNatClampNeg, .inl (fun _ => 0))) M hM
  have hes : am_esl (.inl (ty, n.toNatClampNeg, .inl (fun _ => 0))) = n.toNatClampNeg := rfl
  rw [hes] at hsl
  rw [ht, hsl] at hlim
  have htyp : ty < 3 ∧ newarray.typeOf t = am_ty ty ∧ componentBytes (newarray.typeOf t) ≤ 4 ∧ (∀ x : ClassId, va_RA s x (newarray.typeOf t) → s.vm.findClass ("[" ++ (newarray.typeOf t).toString) = some x) ∧ ∀ cA N, vp_cell cA (N, .inl (fun _ => 0)) = arrV cA N (fun _ => defaultValue (newarray.typeOf t)) := by
    cases t <;> simp only [am_aty] at hty <;> first | (cases hty; done) | (cases hty; exact ⟨by decide, rfl, by decide, fun _ h => h, fun _ _ => rfl⟩)
  obtain ⟨h3, hte, h4, hra, hce⟩ := htyp
  have hK := hF.2.2.2.2.2.1
  have hq : (am_tys cy)[ty]? = some (cy ty, newarray.typeOf t) := by
    rw [hte]
    rcases (show ty = 0 ∨ ty = 1 ∨ ty = 2 by omega) with rfl | rfl | rfl <;> rfl
  rw [hpc, List.map_cons]
  refine va_newaK (N := n.toNatClampNeg) (g := F0 m pc lsv (.int n :: st.map (am_cv z0 sp))) hF.1 hF.2.1 (hF.2.2.2.2.1 _ hL) rfl hdg rfl hn rfl (Nat.le_trans (Nat.mul_le_mul hn1 h4) (by decide)) (by omega) (by omega) rfl fun H1 cA e1 z1 o1 hAr hNm => ?_
  have hcA : cA = cy ty := Option.some.inj (hNm.symm.trans (hra _ (hK.2 ty _ hq).2))
  subst hcA
  have hk : ∀ (k : Nat) (x : Nat × va_E), (am_cm z0 sp cy 0 M)[k]? = some x → H1[x.1]? = H[x.1]? := fun k x hx => o1 x.1 ((hW.2.1 k x hx).lt)
  have hH : H.size = z0 + am_of (am_last M).1 + (am_last M).2 := by have := hW.1; omega
  have hcm : am_cm z0 sp cy 0 (am_push M (.inl (ty, n.toNatClampNeg, .inl (fun _ => 0)))) = am_cm z0 sp cy 0 M ++ [(H.size, .inl (cy ty, n.toNatClampNeg, .inl (fun _ => 0)))] := by
    rw [am_cm_push _ M 0 hM, Nat.zero_add, ← hH]
    rfl
  have h := kk H1 locs lsv (cells + 1) (slots + n.toNatClampNeg) ⟨by rw [z1, hW.1]; dsimp only; rw [ht]; omega, by
      dsimp only
      rw [hcm]
      refine (hW.2.1.kept hk).app (fun k x hx => ?_)
      have hz : k < 1 := (List.getElem?_eq_some_iff.mp hx).1
      rw [show k = 0 by omega] at hx
      cases hx
      show H1[H.size]? = some (vp_cell _ _)
      rw [hce]
      exact e1, by
      dsimp only
      rw [hcm]
      exact hW.2.2.1.push hW.2.1 rfl (by show z0 ≤ H.size; omega), Nat.le_trans hW.2.2.2.1 (by omega), fun x h1 h2 => (o1 x (Nat.lt_of_lt_of_le h1 hW.2.2.2.1)).trans (hW.2.2.2.2.1 x h1 h2), hW.2.2.2.2.2⟩ (by dsimp only; omega) (by dsimp only; omega) hl
  dsimp only at h
  rw [hnx, List.map_cons, am_cv_lt h1000, am_ad_at h32, ← hH] at h
  exact h
theorem am_s_new (hF : am_F sc sp z0 cy D k p R s m args meth c) {i a : Nat} {q : vw_C} {ty : Nat → FieldType} {fs : List Value} (hq : vwCl[a]? = some q) (hci : am_Cl a q ty) (hfs : am_df[a]? = some fs) (hL : Cond.classLink (am_cn (am_ow k)) i q.1 ∈ xw_tw ∧ Cond.instantiable q.1 q.2.2 ∈ xw_tw ∧ Cond.initialized q.1 ∈ xw_tw) (hlim : am_tot (M ++ [[.inr (a, fs)]]) ≤ n0 + R.cells ∧ am_sl (M ++ [[.inr (a, fs)]]) ≤ m0 + R.slots) (hA : am_tot M = am_of M.length) (h1000 : 32 * M.length < 1000) (hdg : decode (am_cd k) pc = .ok (.new i, 3)) (hpc : am_pc k j = pc) (hnx : am_pc k (j + 1) = pc + 3)
    (kk : am_W sp z0 cy D n0 m0 k p l e R s m args below meth c Q (j + 1, ls, .ref (32 * M.length) :: st, M ++ [[.inr (a, fs)]])) : am_W sp z0 cy D n0 m0 k p l e R s m args below meth c Q (j, ls, st, M) := fun H locs lsv cells slots hW hc hs hl => by
  dsimp only at hW hc hs hl ⊢
  obtain ⟨hw, hty, hnm, hdf⟩ := hci
  obtain ⟨hlen, hmap, hdv⟩ := hdf fs hfs
  have ht := am_tot_app (.inr (a, fs)) M
  have hsl := am_sl_app (.inr (a, fs)) M
  have hes : am_esl (.inr (a, fs)) = q.2.2 := hlen
  rw [hes] at hsl
  rw [ht, hsl] at hlim
  have hK := hF.2.2.2.2.2.1
  have hKn := hK.1 a q hq
  rw [hpc]
  refine W.newcK (g := F0 m pc lsv (st.map (am_cv z0 sp))) hF.1 hF.2.1 hF.2.2.2.1 (hF.2.2.2.2.1 _ hL.1) (hF.2.2.2.2.1 _ hL.2.1) (hF.2.2.2.2.1 _ hL.2.2) rfl hdg (by omega) (by omega) hKn.2.1 rfl fun H1 kC hkC e1 z1 o1 => ?_
  have hk : ∀ (k : Nat) (x : Nat × va_E), (am_cm z0 sp cy 0 M)[k]? = some x → H1[x.1]? = H[x.1]? := fun k x hx => o1 x.1 ((hW.2.1 k x hx).lt)
  have hH : H.size = z0 + am_of M.length := by have := hW.1; omega
  have hcm : am_cm z0 sp cy 0 (M ++ [[.inr (a, fs)]]) = am_cm z0 sp cy 0 M ++ [(H.size, .inr (a, fs))] := by
    rw [am_cm_app _ M 0, Nat.zero_add, ← hH]
    show _ = _
    simp only [am_ce, hmap]
  have h := kk H1 locs lsv (cells + 1) (slots + q.2.2) ⟨by rw [z1, hW.1]; dsimp only; rw [ht]; omega, by
      dsimp only
      rw [hcm]
      refine (hW.2.1.kept hk).app (fun k x hx => ?_)
      have hz : k < 1 := (List.getElem?_eq_some_iff.mp hx).1
      rw [show k = 0 by omega] at hx
      cases hx
      exact ⟨_, hq, (u_born ty hF.2.2.2.2.1 hw hKn hkC e1 hty).to hdv⟩, by
      dsimp only
      rw [hcm]
      exact hW.2.2.1.push hW.2.1 rfl (by show z0 ≤ H.size; omega), Nat.le_trans hW.2.2.2.1 (by omega), fun x h1 h2 => (o1 x (Nat.lt_of_lt_of_le h1 hW.2.2.2.1)).trans (hW.2.2.2.2.1 x h1 h2), hW.2.2.2.2.2⟩ (by dsimp only; omega) (by dsimp only; omega) hl
  dsimp only at h
  rw [hnx, List.map_cons, am_cv_lt h1000, show 32 * M.length = 32 * M.length + 0 from rfl, am_ad_at (by omega), Nat.add_zero, ← hH] at h
  exact h
/-- a switch: the first place whose number it is -/
theorem am_sw_hit {x : Int32} {d : Nat} : ∀ (L : List (Int32 × Nat)) (lo : Int), (∀ (i : Nat) (q : Int32 × Nat), L[i]? = some q → q.1.toInt = lo + (i : Nat)) → ∀ (i : Nat) (q : Int32 × Nat), L[i]? = some q → x.toInt = lo + (i : Nat) → am_sw L d x = q.2 := by
  intro L
  induction L with
  | nil => intro lo _ i q h; simp at h
  | cons a L ih =>
    intro lo hk i q h hx
    obtain ⟨v, n⟩ := a
    have h0 := hk 0 (v, n) rfl
    cases i with
    | zero =>
      simp at h
      subst h
      simp only [am_sw]
      rw [if_pos (Int32.toInt_inj.mp (by rw [hx, h0]))]
    | succ i =>
      simp at h
      simp only [am_sw]
      rw [if_neg (fun z => by rw [z, h0] at hx; omega)]
      exact ih (lo + 1) (fun i' q' h' => by have := hk (i' + 1) q' (by simpa using h'); rw [this]; push_cast; omega) i q h (by rw [hx]; push_cast; omega)
theorem am_sw_miss {x : Int32} {d : Nat} : ∀ (L : List (Int32 × Nat)), (∀ (i : Nat) (q : Int32 × Nat), L[i]? = some q → ¬ x = q.1) → am_sw L d x = d := by
  intro L
  induction L with
  | nil => intro _; rfl
  | cons a L ih =>
    intro hk
    obtain ⟨v, n⟩ := a
    simp only [am_sw]
    rw [if_neg (hk 0 (v, n) rfl)]
    exact ih (fun i q h => hk (i + 1) q (by simpa using h))
theorem am_s_tsw (hF : am_F sc sp z0 cy D k p R s m args meth c) {x : Int32} {d lo hi : Int} {offs : Array Int} {len dd : Nat} {L : List (Int32 × Nat)} (hdg : decode (am_cd k) pc = .ok (.tableswitch d lo hi offs, len)) (hpc : am_pc k j = pc) (hd : (pc : Int) + d = (am_pc k dd : Int)) (hlen : hi = lo + L.length - 1) (hL : ∀ (i : Nat) (q : Int32 × Nat), L[i]? = some q → q.1.toInt = lo + (i : Nat) ∧ ∃ off, offs[i]? = some off ∧ (pc : Int) + off = (am_pc k q.2 : Int))
    (kk : am_W sp z0 cy D n0 m0 k p l e R s m args below meth c Q (am_sw L dd x, ls, st, M)) : am_W sp z0 cy D n0 m0 k p l e R s m args below meth c Q (j, ls, .int x :: st, M) := fun H locs lsv cells slots hW hc hs hl => by
  have h := kk H locs lsv cells slots hW hc hs hl
  dsimp only at h ⊢
  rw [hpc]
  by_cases ho : x.toInt < lo ∨ hi < x.toInt
  · rw [am_sw_miss L (fun i q hq z => by have h1 := (hL i q hq).1; have h2 := (List.getElem?_eq_some_iff.mp hq).1; rw [← z] at h1; omega)] at h
    exact lv_tableOut hF.1 hF.2.1 hdg ho hd h
  · have hx : x.toInt = lo + ((x.toInt - lo).toNat : Nat) := by omega
    have hi : (x.toInt - lo).toNat < L.length := by omega
    obtain ⟨h1, off, h2, h3⟩ := hL _ _ (List.getElem?_eq_getElem hi)
    rw [am_sw_hit L lo (fun i q hq => (hL i q hq).1) _ _ (List.getElem?_eq_getElem hi) hx] at h
    exact lv_tableIn hF.1 hF.2.1 hdg (by omega) (by omega) h2 h3 h
theorem am_lsw {x : Int32} {d : Int} {dd : Nat} (hd : (pc : Int) + d = (am_pc k dd : Int)) : ∀ (L : List (Int32 × Nat)) (ps : List (Int × Int)), ps.length = L.length → (∀ (i : Nat) (q : Int32 × Nat) (r : Int × Int), L[i]? = some q → ps[i]? = some r → q.1.toInt = r.1 ∧ (pc : Int) + r.2 = (am_pc k q.2 : Int)) → (pc : Int) + Op.lookupswitch.offset ps d x.toInt = (am_pc k (am_sw L dd x) : Int) := by
  intro L
  induction L with
  | nil =>
    intro ps hl _
    have : ps = [] := List.length_eq_zero_iff.mp (by simpa using hl)
    subst this
    exact hd
  | cons a L ih =>
    intro ps hl hk
    cases ps with
    | nil => simp at hl
    | cons r ps =>
      obtain ⟨v, n⟩ := a
      obtain ⟨ra, ro⟩ := r
      have h0 := hk 0 (v, n) (ra, ro) rfl rfl
      simp only [am_sw, Op.lookupswitch.offset_cons]
      by_cases hx : x = v
      · rw [if_pos hx, if_pos (by rw [hx]; exact h0.1.symm)]
        exact h0.2
      · rw [if_neg hx, if_neg (fun z => hx (Int32.toInt_inj.mp (by rw [← z]; exact h0.1.symm)))]
        exact ih ps (by simpa using hl) (fun i q r h1 h2 => hk (i + 1) q r (by simpa using h1) (by simpa using h2))
theorem am_s_lsw (hF : am_F sc sp z0 cy D k p R s m args meth c) {x : Int32} {d : Int} {ps : Array (Int × Int)} {len dd : Nat} {L : List (Int32 × Nat)} (hdg : decode (am_cd k) pc = .ok (.lookupswitch d ps, len)) (hp : (ps.toList.zip (ps.toList.drop 1)).all (fun (a, next) => a.1 < next.1) = true) (hpc : am_pc k j = pc) (hd : (pc : Int) + d = (am_pc k dd : Int)) (hlen : ps.toList.length = L.length) (hL : ∀ (i : Nat) (q : Int32 × Nat) (r : Int × Int), L[i]? = some q → ps.toList[i]? = some r → q.1.toInt = r.1 ∧ (pc : Int) + r.2 = (am_pc k q.2 : Int))
    (kk : am_W sp z0 cy D n0 m0 k p l e R s m args below meth c Q (am_sw L dd x, ls, st, M)) : am_W sp z0 cy D n0 m0 k p l e R s m args below meth c Q (j, ls, .int x :: st, M) := fun H locs lsv cells slots hW hc hs hl => by
  have h := kk H locs lsv cells slots hW hc hs hl
  dsimp only at h ⊢
  rw [hpc]
  exact lv_lookup hF.1 hF.2.1 hdg hp rfl (am_lsw hd L ps.toList hlen hL) h
end
