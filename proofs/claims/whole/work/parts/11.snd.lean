/-! ===== soundness: what a frame has, what the world is ===== -/
def am_A (z0 : Nat) : Nat → Prop := fun q => z0 ≤ q
def am_ty (t : Nat) : FieldType := match t with
  | 0 => .int
  | 1 => .byte
  | _ => .boolean
abbrev am_tys (cy : Nat → ClassId) : List (ClassId × FieldType) := [(cy 0, .int), (cy 1, .byte), (cy 2, .boolean)]
def am_txt : String := "rounds pays end start lent short lid fee sales person worth rising riding mistaken fresh "
/-- what was there before and stays: statics, their arrays, the constant text -/
def am_X (sc : am_Sc) (sp : Nat → Value) (z0 : Nat) (U : State) (H : Heap) : Prop :=
  (∀ q ∈ am_gs, va_Z q.1 q.2.1 q.2.2.1 (am_cv z0 sp q.2.2.2) (am_A z0) U H) ∧
  (∀ (n : Nat) (q : Nat × Nat × (Nat → Int32)), 1000 ≤ n → am_old sc n = some q → ∃ t : Nat, sp n = .ref t ∧ va_T (am_ty q.1) t q.2.1 (fun j => .int (q.2.2 j)) (am_A z0) U H) ∧
  (∀ w ∈ am_nw, va_Nw w U) ∧
  (∃ a t : Nat, sp 1010 = .ref a ∧ sp 1011 = .ref t ∧ vk_R "PaperPays$Reader" 118 am_txt a U ∧ va_O "java/lang/String" a (am_A z0) U H ∧ va_OF "java/lang/String" "coder" "B" (.int 0) a (am_A z0) U H ∧ va_OF "java/lang/String" "value" "[B" (.ref t) a (am_A z0) U H)
/-- what a frame of method k has -/
def am_F (sc : am_Sc) (sp : Nat → Value) (z0 : Nat) (cy : Nat → ClassId) (D : va_G) (k : Nat) (p : Program) (R : Room) (s : State) (m : MethodId) (args : Array Value) (meth : Method) (c : Code) : Prop :=
  p.tables.exec = Jvm.exec ∧ c.code = am_cd k ∧ c.maxLocals = am_ml k ∧ s.vm.findClass (am_cn (am_ow k)) = some m.cls ∧ (∀ w ∈ xw_tw, w.before args s = true) ∧ va_K D vwCl (am_tys cy) s ∧ am_X sc sp z0 s s.heap ∧ (am_isI k = true → meth.name = "<init>") ∧ am_fr k ≤ R.frames ∧ am_lo k ≤ R.locals ∧ z0 ≤ s.heap.size
/-- the world: the abstract memory is what the heap holds -/
def am_Wd (sp : Nat → Value) (z0 : Nat) (cy : Nat → ClassId) (D : va_G) (M : am_M) (s : State) (H : Heap) (locs : List Loc) : Prop :=
  H.size = z0 + am_tot M ∧ va_P D vwCl (am_cm z0 sp cy 0 M) H ∧ va_D (am_A z0) (am_cm z0 sp cy 0 M) ∧ va_S (am_A z0) s.heap H locs
def am_lv (sp : Nat → Value) (z0 : Nat) (lsv : Array Slot) (nL : Nat) (ls : am_L) : Prop := ls.length = nL ∧ lsv.size = nL ∧ lv_wf lsv ∧ ∀ (i : Nat) (v : Value), ls[i]? = some (some v) → lsv[i]? = some (.val (am_cv z0 sp v))
/-- the limit of what comes: n0, m0 what was there at the method's begin, n1, m1 what is there at its end -/
def am_Lim (n0 m0 n1 m1 : Nat) (R : Room) : Prop := n1 ≤ n0 + R.cells ∧ m1 ≤ m0 + R.slots
def am_W (sp : Nat → Value) (z0 : Nat) (cy : Nat → ClassId) (D : va_G) (n0 m0 : Nat) (k : Nat) (p : Program) (l : Launch) (e : Env) (R : Room) (s : State) (m : MethodId) (args : Array Value) (below : List Frame) (meth : Method) (c : Code) (Q : State → Prop) (C : am_C) : Prop :=
  ∀ (H : Heap) (locs : List Loc) (lsv : Array Slot) (cells slots : Nat), am_Wd sp z0 cy D C.2.2.2 s H locs → cells + n0 = am_tot C.2.2.2 → slots + m0 = am_sl C.2.2.2 → am_lv sp z0 lsv (am_ml k) C.2.1 →
    W p l e R s m args below meth c H locs cells slots Q (F0 m (am_pc k C.1) lsv (C.2.2.1.map (am_cv z0 sp)))
section
variable {sc : am_Sc} {sp : Nat → Value} {z0 : Nat} {cy : Nat → ClassId} {D : va_G} {n0 m0 k : Nat} {p : Program} {l : Launch} {e : Env} {R : Room} {s : State} {m : MethodId} {args : Array Value} {below : List Frame} {meth : Method} {c : Code} {Q : State → Prop}
variable {j pc : Nat} {ls : am_L} {st : List Value} {M : am_M}

theorem am_s_iconst (hF : am_F sc sp z0 cy D k p R s m args meth c) {n : Int} {z : Int32} (hdg : decode (am_cd k) pc = .ok (.iconst n, 1)) (hpc : am_pc k j = pc) (hnx : am_pc k (j + 1) = pc + 1) (hz : Int32.ofInt n = z)
    (kk : am_W sp z0 cy D n0 m0 k p l e R s m args below meth c Q ((j + 1, ls, .int z :: st, M))) : am_W sp z0 cy D n0 m0 k p l e R s m args below meth c Q ((j, ls, st, M)) := fun H locs lsv cells slots hW hc hs hl => by
  have h := kk H locs lsv cells slots hW hc hs hl
  dsimp only at h ⊢
  rw [hnx] at h
  rw [hpc]
  exact lv_iconst hF.1 hF.2.1 hdg hz h
theorem am_s_bipush (hF : am_F sc sp z0 cy D k p R s m args meth c) {n : Int} {z : Int32} (hdg : decode (am_cd k) pc = .ok (.bipush n, 2)) (hpc : am_pc k j = pc) (hnx : am_pc k (j + 1) = pc + 2) (hz : (Int8.ofInt n).toInt32 = z)
    (kk : am_W sp z0 cy D n0 m0 k p l e R s m args below meth c Q ((j + 1, ls, .int z :: st, M))) : am_W sp z0 cy D n0 m0 k p l e R s m args below meth c Q ((j, ls, st, M)) := fun H locs lsv cells slots hW hc hs hl => by
  have h := kk H locs lsv cells slots hW hc hs hl
  dsimp only at h ⊢
  rw [hnx] at h
  rw [hpc]
  exact lv_bipush hF.1 hF.2.1 hdg hz h
theorem am_s_sipush (hF : am_F sc sp z0 cy D k p R s m args meth c) {n : Int} {z : Int32} (hdg : decode (am_cd k) pc = .ok (.sipush n, 3)) (hpc : am_pc k j = pc) (hnx : am_pc k (j + 1) = pc + 3) (hz : (Int16.ofInt n).toInt32 = z)
    (kk : am_W sp z0 cy D n0 m0 k p l e R s m args below meth c Q ((j + 1, ls, .int z :: st, M))) : am_W sp z0 cy D n0 m0 k p l e R s m args below meth c Q ((j, ls, st, M)) := fun H locs lsv cells slots hW hc hs hl => by
  have h := kk H locs lsv cells slots hW hc hs hl
  dsimp only at h ⊢
  rw [hnx] at h
  rw [hpc]
  exact lv_sipush hF.1 hF.2.1 hdg hz h
theorem am_s_lconst (hF : am_F sc sp z0 cy D k p R s m args meth c) {n : Fin 2} (hdg : decode (am_cd k) pc = .ok (.lconst n, 1)) (hpc : am_pc k j = pc) (hnx : am_pc k (j + 1) = pc + 1) 
    (kk : am_W sp z0 cy D n0 m0 k p l e R s m args below meth c Q ((j + 1, ls, .long (Int64.ofNat (n : Nat)) :: st, M))) : am_W sp z0 cy D n0 m0 k p l e R s m args below meth c Q ((j, ls, st, M)) := fun H locs lsv cells slots hW hc hs hl => by
  have h := kk H locs lsv cells slots hW hc hs hl
  dsimp only at h ⊢
  rw [hnx] at h
  rw [hpc]
  exact lv_lconst hF.1 hF.2.1 hdg rfl h
theorem am_s_ldc (hF : am_F sc sp z0 cy D k p R s m args meth c) {i : Nat} {z : Int32} (hdg : decode (am_cd k) pc = .ok (.ldc i, 2)) (hpc : am_pc k j = pc) (hnx : am_pc k (j + 1) = pc + 2) (hk : Cond.constant (am_cn (am_ow k)) i z ∈ xw_tw)
    (kk : am_W sp z0 cy D n0 m0 k p l e R s m args below meth c Q ((j + 1, ls, .int z :: st, M))) : am_W sp z0 cy D n0 m0 k p l e R s m args below meth c Q ((j, ls, st, M)) := fun H locs lsv cells slots hW hc hs hl => by
  have h := kk H locs lsv cells slots hW hc hs hl
  dsimp only at h ⊢
  rw [hnx] at h
  rw [hpc]
  exact lv_ldc hF.1 hF.2.1 hF.2.2.2.1 (hF.2.2.2.2.1 _ hk) hdg h
theorem am_s_ldc2 (hF : am_F sc sp z0 cy D k p R s m args meth c) {i : Nat} {z : Int64} (hdg : decode (am_cd k) pc = .ok (.ldc2_w i, 3)) (hpc : am_pc k j = pc) (hnx : am_pc k (j + 1) = pc + 3) (hk : Cond.constantLong (am_cn (am_ow k)) i z ∈ xw_tw)
    (kk : am_W sp z0 cy D n0 m0 k p l e R s m args below meth c Q ((j + 1, ls, .long z :: st, M))) : am_W sp z0 cy D n0 m0 k p l e R s m args below meth c Q ((j, ls, st, M)) := fun H locs lsv cells slots hW hc hs hl => by
  have h := kk H locs lsv cells slots hW hc hs hl
  dsimp only at h ⊢
  rw [hnx] at h
  rw [hpc]
  exact lv_ldc2 hF.1 hF.2.1 hF.2.2.2.1 (hF.2.2.2.2.1 _ hk) hdg h
theorem am_s_iadd (hF : am_F sc sp z0 cy D k p R s m args meth c) {x y : Int32} (hdg : decode (am_cd k) pc = .ok (.iadd, 1)) (hpc : am_pc k j = pc) (hnx : am_pc k (j + 1) = pc + 1) 
    (kk : am_W sp z0 cy D n0 m0 k p l e R s m args below meth c Q ((j + 1, ls, .int (x + y) :: st, M))) : am_W sp z0 cy D n0 m0 k p l e R s m args below meth c Q ((j, ls, .int y :: .int x :: st, M)) := fun H locs lsv cells slots hW hc hs hl => by
  have h := kk H locs lsv cells slots hW hc hs hl
  dsimp only at h ⊢
  rw [hnx] at h
  rw [hpc]
  exact lv_iadd hF.1 hF.2.1 hdg h
theorem am_s_isub (hF : am_F sc sp z0 cy D k p R s m args meth c) {x y : Int32} (hdg : decode (am_cd k) pc = .ok (.isub, 1)) (hpc : am_pc k j = pc) (hnx : am_pc k (j + 1) = pc + 1) 
    (kk : am_W sp z0 cy D n0 m0 k p l e R s m args below meth c Q ((j + 1, ls, .int (x - y) :: st, M))) : am_W sp z0 cy D n0 m0 k p l e R s m args below meth c Q ((j, ls, .int y :: .int x :: st, M)) := fun H locs lsv cells slots hW hc hs hl => by
  have h := kk H locs lsv cells slots hW hc hs hl
  dsimp only at h ⊢
  rw [hnx] at h
  rw [hpc]
  exact lv_isub hF.1 hF.2.1 hdg h
theorem am_s_imul (hF : am_F sc sp z0 cy D k p R s m args meth c) {x y : Int32} (hdg : decode (am_cd k) pc = .ok (.imul, 1)) (hpc : am_pc k j = pc) (hnx : am_pc k (j + 1) = pc + 1) 
    (kk : am_W sp z0 cy D n0 m0 k p l e R s m args below meth c Q ((j + 1, ls, .int (x * y) :: st, M))) : am_W sp z0 cy D n0 m0 k p l e R s m args below meth c Q ((j, ls, .int y :: .int x :: st, M)) := fun H locs lsv cells slots hW hc hs hl => by
  have h := kk H locs lsv cells slots hW hc hs hl
  dsimp only at h ⊢
  rw [hnx] at h
  rw [hpc]
  exact lv_imul hF.1 hF.2.1 hdg h
theorem am_s_iand (hF : am_F sc sp z0 cy D k p R s m args meth c) {x y : Int32} (hdg : decode (am_cd k) pc = .ok (.iand, 1)) (hpc : am_pc k j = pc) (hnx : am_pc k (j + 1) = pc + 1) 
    (kk : am_W sp z0 cy D n0 m0 k p l e R s m args below meth c Q ((j + 1, ls, .int (x &&& y) :: st, M))) : am_W sp z0 cy D n0 m0 k p l e R s m args below meth c Q ((j, ls, .int y :: .int x :: st, M)) := fun H locs lsv cells slots hW hc hs hl => by
  have h := kk H locs lsv cells slots hW hc hs hl
  dsimp only at h ⊢
  rw [hnx] at h
  rw [hpc]
  exact lv_iand hF.1 hF.2.1 hdg h
theorem am_s_ior (hF : am_F sc sp z0 cy D k p R s m args meth c) {x y : Int32} (hdg : decode (am_cd k) pc = .ok (.ior, 1)) (hpc : am_pc k j = pc) (hnx : am_pc k (j + 1) = pc + 1) 
    (kk : am_W sp z0 cy D n0 m0 k p l e R s m args below meth c Q ((j + 1, ls, .int (x ||| y) :: st, M))) : am_W sp z0 cy D n0 m0 k p l e R s m args below meth c Q ((j, ls, .int y :: .int x :: st, M)) := fun H locs lsv cells slots hW hc hs hl => by
  have h := kk H locs lsv cells slots hW hc hs hl
  dsimp only at h ⊢
  rw [hnx] at h
  rw [hpc]
  exact lv_ior hF.1 hF.2.1 hdg h
theorem am_s_ishl (hF : am_F sc sp z0 cy D k p R s m args meth c) {x y : Int32} (hdg : decode (am_cd k) pc = .ok (.ishl, 1)) (hpc : am_pc k j = pc) (hnx : am_pc k (j + 1) = pc + 1) 
    (kk : am_W sp z0 cy D n0 m0 k p l e R s m args below meth c Q ((j + 1, ls, .int (x <<< (y &&& 31)) :: st, M))) : am_W sp z0 cy D n0 m0 k p l e R s m args below meth c Q ((j, ls, .int y :: .int x :: st, M)) := fun H locs lsv cells slots hW hc hs hl => by
  have h := kk H locs lsv cells slots hW hc hs hl
  dsimp only at h ⊢
  rw [hnx] at h
  rw [hpc]
  exact lv_ishl hF.1 hF.2.1 hdg h
theorem am_s_ishr (hF : am_F sc sp z0 cy D k p R s m args meth c) {x y : Int32} (hdg : decode (am_cd k) pc = .ok (.ishr, 1)) (hpc : am_pc k j = pc) (hnx : am_pc k (j + 1) = pc + 1) 
    (kk : am_W sp z0 cy D n0 m0 k p l e R s m args below meth c Q ((j + 1, ls, .int (x >>> (y &&& 31)) :: st, M))) : am_W sp z0 cy D n0 m0 k p l e R s m args below meth c Q ((j, ls, .int y :: .int x :: st, M)) := fun H locs lsv cells slots hW hc hs hl => by
  have h := kk H locs lsv cells slots hW hc hs hl
  dsimp only at h ⊢
  rw [hnx] at h
  rw [hpc]
  exact lv_ishr hF.1 hF.2.1 hdg h
theorem am_s_iushr (hF : am_F sc sp z0 cy D k p R s m args meth c) {x y : Int32} (hdg : decode (am_cd k) pc = .ok (.iushr, 1)) (hpc : am_pc k j = pc) (hnx : am_pc k (j + 1) = pc + 1) 
    (kk : am_W sp z0 cy D n0 m0 k p l e R s m args below meth c Q ((j + 1, ls, .int (x.toUInt32 >>> (y.toUInt32 &&& Int32.toUInt32 31)).toInt32 :: st, M))) : am_W sp z0 cy D n0 m0 k p l e R s m args below meth c Q ((j, ls, .int y :: .int x :: st, M)) := fun H locs lsv cells slots hW hc hs hl => by
  have h := kk H locs lsv cells slots hW hc hs hl
  dsimp only at h ⊢
  rw [hnx] at h
  rw [hpc]
  exact lv_iushr hF.1 hF.2.1 hdg rfl h
theorem am_s_ineg (hF : am_F sc sp z0 cy D k p R s m args meth c) {x : Int32} (hdg : decode (am_cd k) pc = .ok (.ineg, 1)) (hpc : am_pc k j = pc) (hnx : am_pc k (j + 1) = pc + 1) 
    (kk : am_W sp z0 cy D n0 m0 k p l e R s m args below meth c Q ((j + 1, ls, .int (-x) :: st, M))) : am_W sp z0 cy D n0 m0 k p l e R s m args below meth c Q ((j, ls, .int x :: st, M)) := fun H locs lsv cells slots hW hc hs hl => by
  have h := kk H locs lsv cells slots hW hc hs hl
  dsimp only at h ⊢
  rw [hnx] at h
  rw [hpc]
  exact lv_ineg hF.1 hF.2.1 hdg h
theorem am_s_idiv (hF : am_F sc sp z0 cy D k p R s m args meth c) {x y : Int32} (hdg : decode (am_cd k) pc = .ok (.idiv, 1)) (hpc : am_pc k j = pc) (hnx : am_pc k (j + 1) = pc + 1) (hP : ¬ y = 0)
    (kk : am_W sp z0 cy D n0 m0 k p l e R s m args below meth c Q ((j + 1, ls, .int (x / y) :: st, M))) : am_W sp z0 cy D n0 m0 k p l e R s m args below meth c Q ((j, ls, .int y :: .int x :: st, M)) := fun H locs lsv cells slots hW hc hs hl => by
  have h := kk H locs lsv cells slots hW hc hs hl
  dsimp only at h ⊢
  rw [hnx] at h
  rw [hpc]
  exact lv_idiv hF.1 hF.2.1 hdg hP h
theorem am_s_irem (hF : am_F sc sp z0 cy D k p R s m args meth c) {x y : Int32} (hdg : decode (am_cd k) pc = .ok (.irem, 1)) (hpc : am_pc k j = pc) (hnx : am_pc k (j + 1) = pc + 1) (hP : ¬ y = 0)
    (kk : am_W sp z0 cy D n0 m0 k p l e R s m args below meth c Q ((j + 1, ls, .int (x - x / y * y) :: st, M))) : am_W sp z0 cy D n0 m0 k p l e R s m args below meth c Q ((j, ls, .int y :: .int x :: st, M)) := fun H locs lsv cells slots hW hc hs hl => by
  have h := kk H locs lsv cells slots hW hc hs hl
  dsimp only at h ⊢
  rw [hnx] at h
  rw [hpc]
  exact lv_irem hF.1 hF.2.1 hdg hP h
theorem am_s_ladd (hF : am_F sc sp z0 cy D k p R s m args meth c) {x y : Int64} (hdg : decode (am_cd k) pc = .ok (.ladd, 1)) (hpc : am_pc k j = pc) (hnx : am_pc k (j + 1) = pc + 1) 
    (kk : am_W sp z0 cy D n0 m0 k p l e R s m args below meth c Q ((j + 1, ls, .long (x + y) :: st, M))) : am_W sp z0 cy D n0 m0 k p l e R s m args below meth c Q ((j, ls, .long y :: .long x :: st, M)) := fun H locs lsv cells slots hW hc hs hl => by
  have h := kk H locs lsv cells slots hW hc hs hl
  dsimp only at h ⊢
  rw [hnx] at h
  rw [hpc]
  exact lv_ladd hF.1 hF.2.1 hdg h
theorem am_s_lmul (hF : am_F sc sp z0 cy D k p R s m args meth c) {x y : Int64} (hdg : decode (am_cd k) pc = .ok (.lmul, 1)) (hpc : am_pc k j = pc) (hnx : am_pc k (j + 1) = pc + 1) 
    (kk : am_W sp z0 cy D n0 m0 k p l e R s m args below meth c Q ((j + 1, ls, .long (x * y) :: st, M))) : am_W sp z0 cy D n0 m0 k p l e R s m args below meth c Q ((j, ls, .long y :: .long x :: st, M)) := fun H locs lsv cells slots hW hc hs hl => by
  have h := kk H locs lsv cells slots hW hc hs hl
  dsimp only at h ⊢
  rw [hnx] at h
  rw [hpc]
  exact lv_lmul hF.1 hF.2.1 hdg h
theorem am_s_land (hF : am_F sc sp z0 cy D k p R s m args meth c) {x y : Int64} (hdg : decode (am_cd k) pc = .ok (.land, 1)) (hpc : am_pc k j = pc) (hnx : am_pc k (j + 1) = pc + 1) 
    (kk : am_W sp z0 cy D n0 m0 k p l e R s m args below meth c Q ((j + 1, ls, .long (x &&& y) :: st, M))) : am_W sp z0 cy D n0 m0 k p l e R s m args below meth c Q ((j, ls, .long y :: .long x :: st, M)) := fun H locs lsv cells slots hW hc hs hl => by
  have h := kk H locs lsv cells slots hW hc hs hl
  dsimp only at h ⊢
  rw [hnx] at h
  rw [hpc]
  exact lv_land hF.1 hF.2.1 hdg h
theorem am_s_lor (hF : am_F sc sp z0 cy D k p R s m args meth c) {x y : Int64} (hdg : decode (am_cd k) pc = .ok (.lor, 1)) (hpc : am_pc k j = pc) (hnx : am_pc k (j + 1) = pc + 1) 
    (kk : am_W sp z0 cy D n0 m0 k p l e R s m args below meth c Q ((j + 1, ls, .long (x ||| y) :: st, M))) : am_W sp z0 cy D n0 m0 k p l e R s m args below meth c Q ((j, ls, .long y :: .long x :: st, M)) := fun H locs lsv cells slots hW hc hs hl => by
  have h := kk H locs lsv cells slots hW hc hs hl
  dsimp only at h ⊢
  rw [hnx] at h
  rw [hpc]
  exact lv_lor hF.1 hF.2.1 hdg h
theorem am_s_ldiv (hF : am_F sc sp z0 cy D k p R s m args meth c) {x y : Int64} (hdg : decode (am_cd k) pc = .ok (.ldiv, 1)) (hpc : am_pc k j = pc) (hnx : am_pc k (j + 1) = pc + 1) (hP : ¬ y = 0)
    (kk : am_W sp z0 cy D n0 m0 k p l e R s m args below meth c Q ((j + 1, ls, .long (x / y) :: st, M))) : am_W sp z0 cy D n0 m0 k p l e R s m args below meth c Q ((j, ls, .long y :: .long x :: st, M)) := fun H locs lsv cells slots hW hc hs hl => by
  have h := kk H locs lsv cells slots hW hc hs hl
  dsimp only at h ⊢
  rw [hnx] at h
  rw [hpc]
  exact lv_ldiv hF.1 hF.2.1 hdg hP h
theorem am_s_lshl (hF : am_F sc sp z0 cy D k p R s m args meth c) {x : Int64} {y : Int32} (hdg : decode (am_cd k) pc = .ok (.lshl, 1)) (hpc : am_pc k j = pc) (hnx : am_pc k (j + 1) = pc + 1) 
    (kk : am_W sp z0 cy D n0 m0 k p l e R s m args below meth c Q ((j + 1, ls, .long (x <<< (y.toInt64 &&& 63)) :: st, M))) : am_W sp z0 cy D n0 m0 k p l e R s m args below meth c Q ((j, ls, .int y :: .long x :: st, M)) := fun H locs lsv cells slots hW hc hs hl => by
  have h := kk H locs lsv cells slots hW hc hs hl
  dsimp only at h ⊢
  rw [hnx] at h
  rw [hpc]
  exact lv_lshl hF.1 hF.2.1 hdg rfl h
theorem am_s_lshr (hF : am_F sc sp z0 cy D k p R s m args meth c) {x : Int64} {y : Int32} (hdg : decode (am_cd k) pc = .ok (.lshr, 1)) (hpc : am_pc k j = pc) (hnx : am_pc k (j + 1) = pc + 1) 
    (kk : am_W sp z0 cy D n0 m0 k p l e R s m args below meth c Q ((j + 1, ls, .long (x >>> (y.toInt64 &&& 63)) :: st, M))) : am_W sp z0 cy D n0 m0 k p l e R s m args below meth c Q ((j, ls, .int y :: .long x :: st, M)) := fun H locs lsv cells slots hW hc hs hl => by
  have h := kk H locs lsv cells slots hW hc hs hl
  dsimp only at h ⊢
  rw [hnx] at h
  rw [hpc]
  exact lv_lshr hF.1 hF.2.1 hdg rfl h
theorem am_s_lcmp (hF : am_F sc sp z0 cy D k p R s m args meth c) {x y : Int64} (hdg : decode (am_cd k) pc = .ok (.lcmp, 1)) (hpc : am_pc k j = pc) (hnx : am_pc k (j + 1) = pc + 1) 
    (kk : am_W sp z0 cy D n0 m0 k p l e R s m args below meth c Q ((j + 1, ls, .int (lg_cmp x y) :: st, M))) : am_W sp z0 cy D n0 m0 k p l e R s m args below meth c Q ((j, ls, .long y :: .long x :: st, M)) := fun H locs lsv cells slots hW hc hs hl => by
  have h := kk H locs lsv cells slots hW hc hs hl
  dsimp only at h ⊢
  rw [hnx] at h
  rw [hpc]
  exact W.lcmp hF.1 hF.2.1 hdg h
theorem am_s_i2l (hF : am_F sc sp z0 cy D k p R s m args meth c) {x : Int32} (hdg : decode (am_cd k) pc = .ok (.i2l, 1)) (hpc : am_pc k j = pc) (hnx : am_pc k (j + 1) = pc + 1) 
    (kk : am_W sp z0 cy D n0 m0 k p l e R s m args below meth c Q ((j + 1, ls, .long x.toInt64 :: st, M))) : am_W sp z0 cy D n0 m0 k p l e R s m args below meth c Q ((j, ls, .int x :: st, M)) := fun H locs lsv cells slots hW hc hs hl => by
  have h := kk H locs lsv cells slots hW hc hs hl
  dsimp only at h ⊢
  rw [hnx] at h
  rw [hpc]
  exact lv_i2l hF.1 hF.2.1 hdg rfl h
theorem am_s_l2i (hF : am_F sc sp z0 cy D k p R s m args meth c) {x : Int64} (hdg : decode (am_cd k) pc = .ok (.l2i, 1)) (hpc : am_pc k j = pc) (hnx : am_pc k (j + 1) = pc + 1) 
    (kk : am_W sp z0 cy D n0 m0 k p l e R s m args below meth c Q ((j + 1, ls, .int x.toInt32 :: st, M))) : am_W sp z0 cy D n0 m0 k p l e R s m args below meth c Q ((j, ls, .long x :: st, M)) := fun H locs lsv cells slots hW hc hs hl => by
  have h := kk H locs lsv cells slots hW hc hs hl
  dsimp only at h ⊢
  rw [hnx] at h
  rw [hpc]
  exact lv_l2i hF.1 hF.2.1 hdg rfl h
theorem am_s_i2b (hF : am_F sc sp z0 cy D k p R s m args meth c) {x : Int32} (hdg : decode (am_cd k) pc = .ok (.i2b, 1)) (hpc : am_pc k j = pc) (hnx : am_pc k (j + 1) = pc + 1) 
    (kk : am_W sp z0 cy D n0 m0 k p l e R s m args below meth c Q ((j + 1, ls, .int x.toInt8.toInt32 :: st, M))) : am_W sp z0 cy D n0 m0 k p l e R s m args below meth c Q ((j, ls, .int x :: st, M)) := fun H locs lsv cells slots hW hc hs hl => by
  have h := kk H locs lsv cells slots hW hc hs hl
  dsimp only at h ⊢
  rw [hnx] at h
  rw [hpc]
  exact lv_i2b hF.1 hF.2.1 hdg rfl h
theorem am_s_i2c (hF : am_F sc sp z0 cy D k p R s m args meth c) {x : Int32} (hdg : decode (am_cd k) pc = .ok (.i2c, 1)) (hpc : am_pc k j = pc) (hnx : am_pc k (j + 1) = pc + 1) 
    (kk : am_W sp z0 cy D n0 m0 k p l e R s m args below meth c Q ((j + 1, ls, .int (x.toUInt32 % 65536).toInt32 :: st, M))) : am_W sp z0 cy D n0 m0 k p l e R s m args below meth c Q ((j, ls, .int x :: st, M)) := fun H locs lsv cells slots hW hc hs hl => by
  have h := kk H locs lsv cells slots hW hc hs hl
  dsimp only at h ⊢
  rw [hnx] at h
  rw [hpc]
  exact lv_i2c hF.1 hF.2.1 hdg rfl h
theorem am_cv_cat (hsp : ∀ n, (sp n).category = 1) (v : Value) : (am_cv z0 sp v).category = v.category := by
  unfold am_cv
  split
  · split
    · rw [hsp]; rfl
    · rfl
  · rfl
theorem am_cats_map (hsp : ∀ n, (sp n).category = 1) (st : List Value) : ((st.map (am_cv z0 sp)).map fun v => v.category).sum = am_cats st := by
  unfold am_cats
  rw [List.map_map]
  congr 2
  funext v
  exact am_cv_cat hsp v
theorem am_s_dup (hF : am_F sc sp z0 cy D k p R s m args meth c) {v : Value} (hdg : decode (am_cd k) pc = .ok (.dup, 1)) (hpc : am_pc k j = pc) (hnx : am_pc k (j + 1) = pc + 1) (hv : (am_cv z0 sp v).category = 1)
    (kk : am_W sp z0 cy D n0 m0 k p l e R s m args below meth c Q ((j + 1, ls, v :: v :: st, M))) : am_W sp z0 cy D n0 m0 k p l e R s m args below meth c Q ((j, ls, v :: st, M)) := fun H locs lsv cells slots hW hc hs hl => by
  have h := kk H locs lsv cells slots hW hc hs hl
  dsimp only at h ⊢
  rw [hnx] at h
  rw [hpc]
  exact lv_dup hF.1 hF.2.1 hdg hv h
theorem am_s_dup2 (hF : am_F sc sp z0 cy D k p R s m args meth c) {v u : Value} (hdg : decode (am_cd k) pc = .ok (.dup2, 1)) (hpc : am_pc k j = pc) (hnx : am_pc k (j + 1) = pc + 1) (hv : (am_cv z0 sp v).category = 1) (hu : (am_cv z0 sp u).category = 1)
    (kk : am_W sp z0 cy D n0 m0 k p l e R s m args below meth c Q ((j + 1, ls, v :: u :: v :: u :: st, M))) : am_W sp z0 cy D n0 m0 k p l e R s m args below meth c Q ((j, ls, v :: u :: st, M)) := fun H locs lsv cells slots hW hc hs hl => by
  have h := kk H locs lsv cells slots hW hc hs hl
  dsimp only at h ⊢
  rw [hnx] at h
  rw [hpc]
  exact lv_dup2_11 hF.1 hF.2.1 hdg hv hu h
theorem am_s_pop (hF : am_F sc sp z0 cy D k p R s m args meth c) {v : Value} (hdg : decode (am_cd k) pc = .ok (.pop, 1)) (hpc : am_pc k j = pc) (hnx : am_pc k (j + 1) = pc + 1) (hv : (am_cv z0 sp v).category = 1)
    (kk : am_W sp z0 cy D n0 m0 k p l e R s m args below meth c Q ((j + 1, ls, st, M))) : am_W sp z0 cy D n0 m0 k p l e R s m args below meth c Q ((j, ls, v :: st, M)) := fun H locs lsv cells slots hW hc hs hl => by
  have h := kk H locs lsv cells slots hW hc hs hl
  dsimp only at h ⊢
  rw [hnx] at h
  rw [hpc]
  exact lv_pop hF.1 hF.2.1 hdg hv h
theorem am_s_if_eq (hF : am_F sc sp z0 cy D k p R s m args meth c) {x : Int32} {off : Int} {t tp : Nat} (hdg : decode (am_cd k) pc = .ok (.ifCond .eq off, 3)) (hpc : am_pc k j = pc) (hnx : am_pc k (j + 1) = pc + 3) (ht : am_pc k t = tp) (hoff : (pc : Int) + off = (tp : Int))
    (kk : am_W sp z0 cy D n0 m0 k p l e R s m args below meth c Q (((if x = 0 then t else j + 1), ls, st, M))) : am_W sp z0 cy D n0 m0 k p l e R s m args below meth c Q ((j, ls, .int x :: st, M)) := fun H locs lsv cells slots hW hc hs hl => by
  have h := kk H locs lsv cells slots hW hc hs hl
  dsimp only at h ⊢
  rw [hpc]
  exact lv_if_eq hF.1 hF.2.1 hdg hoff (fun q => by rw [if_pos q] at h; rw [ht] at h; exact h) (fun q => by rw [if_neg q] at h; rw [hnx] at h; exact h)
theorem am_s_if_ne (hF : am_F sc sp z0 cy D k p R s m args meth c) {x : Int32} {off : Int} {t tp : Nat} (hdg : decode (am_cd k) pc = .ok (.ifCond .ne off, 3)) (hpc : am_pc k j = pc) (hnx : am_pc k (j + 1) = pc + 3) (ht : am_pc k t = tp) (hoff : (pc : Int) + off = (tp : Int))
    (kk : am_W sp z0 cy D n0 m0 k p l e R s m args below meth c Q (((if x = 0 then j + 1 else t), ls, st, M))) : am_W sp z0 cy D n0 m0 k p l e R s m args below meth c Q ((j, ls, .int x :: st, M)) := fun H locs lsv cells slots hW hc hs hl => by
  have h := kk H locs lsv cells slots hW hc hs hl
  dsimp only at h ⊢
  rw [hpc]
  exact lv_if_ne hF.1 hF.2.1 hdg hoff (fun q => by rw [if_neg q] at h; rw [ht] at h; exact h) (fun q => by rw [if_pos q] at h; rw [hnx] at h; exact h)
theorem am_s_if_lt (hF : am_F sc sp z0 cy D k p R s m args meth c) {x : Int32} {off : Int} {t tp : Nat} (hdg : decode (am_cd k) pc = .ok (.ifCond .lt off, 3)) (hpc : am_pc k j = pc) (hnx : am_pc k (j + 1) = pc + 3) (ht : am_pc k t = tp) (hoff : (pc : Int) + off = (tp : Int))
    (kk : am_W sp z0 cy D n0 m0 k p l e R s m args below meth c Q (((if x < 0 then t else j + 1), ls, st, M))) : am_W sp z0 cy D n0 m0 k p l e R s m args below meth c Q ((j, ls, .int x :: st, M)) := fun H locs lsv cells slots hW hc hs hl => by
  have h := kk H locs lsv cells slots hW hc hs hl
  dsimp only at h ⊢
  rw [hpc]
  exact lv_if_lt hF.1 hF.2.1 hdg hoff (fun q => by rw [if_pos q] at h; rw [ht] at h; exact h) (fun q => by rw [if_neg q] at h; rw [hnx] at h; exact h)
theorem am_s_if_ge (hF : am_F sc sp z0 cy D k p R s m args meth c) {x : Int32} {off : Int} {t tp : Nat} (hdg : decode (am_cd k) pc = .ok (.ifCond .ge off, 3)) (hpc : am_pc k j = pc) (hnx : am_pc k (j + 1) = pc + 3) (ht : am_pc k t = tp) (hoff : (pc : Int) + off = (tp : Int))
    (kk : am_W sp z0 cy D n0 m0 k p l e R s m args below meth c Q (((if 0 ≤ x then t else j + 1), ls, st, M))) : am_W sp z0 cy D n0 m0 k p l e R s m args below meth c Q ((j, ls, .int x :: st, M)) := fun H locs lsv cells slots hW hc hs hl => by
  have h := kk H locs lsv cells slots hW hc hs hl
  dsimp only at h ⊢
  rw [hpc]
  exact lv_if_ge hF.1 hF.2.1 hdg hoff (fun q => by rw [if_pos q] at h; rw [ht] at h; exact h) (fun q => by rw [if_neg q] at h; rw [hnx] at h; exact h)
theorem am_s_if_gt (hF : am_F sc sp z0 cy D k p R s m args meth c) {x : Int32} {off : Int} {t tp : Nat} (hdg : decode (am_cd k) pc = .ok (.ifCond .gt off, 3)) (hpc : am_pc k j = pc) (hnx : am_pc k (j + 1) = pc + 3) (ht : am_pc k t = tp) (hoff : (pc : Int) + off = (tp : Int))
    (kk : am_W sp z0 cy D n0 m0 k p l e R s m args below meth c Q (((if 0 < x then t else j + 1), ls, st, M))) : am_W sp z0 cy D n0 m0 k p l e R s m args below meth c Q ((j, ls, .int x :: st, M)) := fun H locs lsv cells slots hW hc hs hl => by
  have h := kk H locs lsv cells slots hW hc hs hl
  dsimp only at h ⊢
  rw [hpc]
  exact lv_if_gt hF.1 hF.2.1 hdg hoff (fun q => by rw [if_pos q] at h; rw [ht] at h; exact h) (fun q => by rw [if_neg q] at h; rw [hnx] at h; exact h)
theorem am_s_if_le (hF : am_F sc sp z0 cy D k p R s m args meth c) {x : Int32} {off : Int} {t tp : Nat} (hdg : decode (am_cd k) pc = .ok (.ifCond .le off, 3)) (hpc : am_pc k j = pc) (hnx : am_pc k (j + 1) = pc + 3) (ht : am_pc k t = tp) (hoff : (pc : Int) + off = (tp : Int))
    (kk : am_W sp z0 cy D n0 m0 k p l e R s m args below meth c Q (((if x ≤ 0 then t else j + 1), ls, st, M))) : am_W sp z0 cy D n0 m0 k p l e R s m args below meth c Q ((j, ls, .int x :: st, M)) := fun H locs lsv cells slots hW hc hs hl => by
  have h := kk H locs lsv cells slots hW hc hs hl
  dsimp only at h ⊢
  rw [hpc]
  exact lv_if_le hF.1 hF.2.1 hdg hoff (fun q => by rw [if_pos q] at h; rw [ht] at h; exact h) (fun q => by rw [if_neg q] at h; rw [hnx] at h; exact h)
theorem am_s_icmp_eq (hF : am_F sc sp z0 cy D k p R s m args meth c) {x y : Int32} {off : Int} {t tp : Nat} (hdg : decode (am_cd k) pc = .ok (.if_icmp .eq off, 3)) (hpc : am_pc k j = pc) (hnx : am_pc k (j + 1) = pc + 3) (ht : am_pc k t = tp) (hoff : (pc : Int) + off = (tp : Int))
    (kk : am_W sp z0 cy D n0 m0 k p l e R s m args below meth c Q (((if x = y then t else j + 1), ls, st, M))) : am_W sp z0 cy D n0 m0 k p l e R s m args below meth c Q ((j, ls, .int y :: .int x :: st, M)) := fun H locs lsv cells slots hW hc hs hl => by
  have h := kk H locs lsv cells slots hW hc hs hl
  dsimp only at h ⊢
  rw [hpc]
  exact lv_icmp_eq hF.1 hF.2.1 hdg hoff (fun q => by rw [if_pos q] at h; rw [ht] at h; exact h) (fun q => by rw [if_neg q] at h; rw [hnx] at h; exact h)
theorem am_s_icmp_ne (hF : am_F sc sp z0 cy D k p R s m args meth c) {x y : Int32} {off : Int} {t tp : Nat} (hdg : decode (am_cd k) pc = .ok (.if_icmp .ne off, 3)) (hpc : am_pc k j = pc) (hnx : am_pc k (j + 1) = pc + 3) (ht : am_pc k t = tp) (hoff : (pc : Int) + off = (tp : Int))
    (kk : am_W sp z0 cy D n0 m0 k p l e R s m args below meth c Q (((if x = y then j + 1 else t), ls, st, M))) : am_W sp z0 cy D n0 m0 k p l e R s m args below meth c Q ((j, ls, .int y :: .int x :: st, M)) := fun H locs lsv cells slots hW hc hs hl => by
  have h := kk H locs lsv cells slots hW hc hs hl
  dsimp only at h ⊢
  rw [hpc]
  exact lv_icmp_ne hF.1 hF.2.1 hdg hoff (fun q => by rw [if_neg q] at h; rw [ht] at h; exact h) (fun q => by rw [if_pos q] at h; rw [hnx] at h; exact h)
theorem am_s_icmp_lt (hF : am_F sc sp z0 cy D k p R s m args meth c) {x y : Int32} {off : Int} {t tp : Nat} (hdg : decode (am_cd k) pc = .ok (.if_icmp .lt off, 3)) (hpc : am_pc k j = pc) (hnx : am_pc k (j + 1) = pc + 3) (ht : am_pc k t = tp) (hoff : (pc : Int) + off = (tp : Int))
    (kk : am_W sp z0 cy D n0 m0 k p l e R s m args below meth c Q (((if x < y then t else j + 1), ls, st, M))) : am_W sp z0 cy D n0 m0 k p l e R s m args below meth c Q ((j, ls, .int y :: .int x :: st, M)) := fun H locs lsv cells slots hW hc hs hl => by
  have h := kk H locs lsv cells slots hW hc hs hl
  dsimp only at h ⊢
  rw [hpc]
  exact lv_icmp_lt hF.1 hF.2.1 hdg hoff (fun q => by rw [if_pos q] at h; rw [ht] at h; exact h) (fun q => by rw [if_neg q] at h; rw [hnx] at h; exact h)
theorem am_s_icmp_ge (hF : am_F sc sp z0 cy D k p R s m args meth c) {x y : Int32} {off : Int} {t tp : Nat} (hdg : decode (am_cd k) pc = .ok (.if_icmp .ge off, 3)) (hpc : am_pc k j = pc) (hnx : am_pc k (j + 1) = pc + 3) (ht : am_pc k t = tp) (hoff : (pc : Int) + off = (tp : Int))
    (kk : am_W sp z0 cy D n0 m0 k p l e R s m args below meth c Q (((if y ≤ x then t else j + 1), ls, st, M))) : am_W sp z0 cy D n0 m0 k p l e R s m args below meth c Q ((j, ls, .int y :: .int x :: st, M)) := fun H locs lsv cells slots hW hc hs hl => by
  have h := kk H locs lsv cells slots hW hc hs hl
  dsimp only at h ⊢
  rw [hpc]
  exact lv_icmp_ge hF.1 hF.2.1 hdg hoff (fun q => by rw [if_pos q] at h; rw [ht] at h; exact h) (fun q => by rw [if_neg q] at h; rw [hnx] at h; exact h)
theorem am_s_icmp_gt (hF : am_F sc sp z0 cy D k p R s m args meth c) {x y : Int32} {off : Int} {t tp : Nat} (hdg : decode (am_cd k) pc = .ok (.if_icmp .gt off, 3)) (hpc : am_pc k j = pc) (hnx : am_pc k (j + 1) = pc + 3) (ht : am_pc k t = tp) (hoff : (pc : Int) + off = (tp : Int))
    (kk : am_W sp z0 cy D n0 m0 k p l e R s m args below meth c Q (((if y < x then t else j + 1), ls, st, M))) : am_W sp z0 cy D n0 m0 k p l e R s m args below meth c Q ((j, ls, .int y :: .int x :: st, M)) := fun H locs lsv cells slots hW hc hs hl => by
  have h := kk H locs lsv cells slots hW hc hs hl
  dsimp only at h ⊢
  rw [hpc]
  exact lv_icmp_gt hF.1 hF.2.1 hdg hoff (fun q => by rw [if_pos q] at h; rw [ht] at h; exact h) (fun q => by rw [if_neg q] at h; rw [hnx] at h; exact h)
theorem am_s_icmp_le (hF : am_F sc sp z0 cy D k p R s m args meth c) {x y : Int32} {off : Int} {t tp : Nat} (hdg : decode (am_cd k) pc = .ok (.if_icmp .le off, 3)) (hpc : am_pc k j = pc) (hnx : am_pc k (j + 1) = pc + 3) (ht : am_pc k t = tp) (hoff : (pc : Int) + off = (tp : Int))
    (kk : am_W sp z0 cy D n0 m0 k p l e R s m args below meth c Q (((if x ≤ y then t else j + 1), ls, st, M))) : am_W sp z0 cy D n0 m0 k p l e R s m args below meth c Q ((j, ls, .int y :: .int x :: st, M)) := fun H locs lsv cells slots hW hc hs hl => by
  have h := kk H locs lsv cells slots hW hc hs hl
  dsimp only at h ⊢
  rw [hpc]
  exact lv_icmp_le hF.1 hF.2.1 hdg hoff (fun q => by rw [if_pos q] at h; rw [ht] at h; exact h) (fun q => by rw [if_neg q] at h; rw [hnx] at h; exact h)
theorem am_s_goto (hF : am_F sc sp z0 cy D k p R s m args meth c) {off : Int} {t tp : Nat} (hdg : decode (am_cd k) pc = .ok (.goto off, 3)) (hpc : am_pc k j = pc) (ht : am_pc k t = tp) (hoff : (pc : Int) + off = (tp : Int))
    (kk : am_W sp z0 cy D n0 m0 k p l e R s m args below meth c Q ((t, ls, st, M))) : am_W sp z0 cy D n0 m0 k p l e R s m args below meth c Q ((j, ls, st, M)) := fun H locs lsv cells slots hW hc hs hl => by
  have h := kk H locs lsv cells slots hW hc hs hl
  dsimp only at h ⊢
  rw [hpc]
  rw [ht] at h
  exact lv_goto hF.1 hF.2.1 hdg hoff h
theorem am_s_iload_n (hF : am_F sc sp z0 cy D k p R s m args meth c) {n : Fin 4} {x : Int32} (hdg : decode (am_cd k) pc = .ok (.iload_n n, 1)) (hpc : am_pc k j = pc) (hnx : am_pc k (j + 1) = pc + 1) (hi : ls[(n : Nat)]? = some (some (.int x)))
    (kk : am_W sp z0 cy D n0 m0 k p l e R s m args below meth c Q ((j + 1, ls, .int x :: st, M))) : am_W sp z0 cy D n0 m0 k p l e R s m args below meth c Q ((j, ls, st, M)) := fun H locs lsv cells slots hW hc hs hl => by
  have h := kk H locs lsv cells slots hW hc hs hl
  dsimp only at h ⊢
  rw [hnx] at h
  rw [hpc]
  exact lv_iload_n hF.1 hF.2.1 hdg rfl (hl.2.2.2 _ _ hi) h
theorem am_s_iload (hF : am_F sc sp z0 cy D k p R s m args meth c) {n : Nat} {x : Int32} (hdg : decode (am_cd k) pc = .ok (.iload n, 2)) (hpc : am_pc k j = pc) (hnx : am_pc k (j + 1) = pc + 2) (hi : ls[(n : Nat)]? = some (some (.int x)))
    (kk : am_W sp z0 cy D n0 m0 k p l e R s m args below meth c Q ((j + 1, ls, .int x :: st, M))) : am_W sp z0 cy D n0 m0 k p l e R s m args below meth c Q ((j, ls, st, M)) := fun H locs lsv cells slots hW hc hs hl => by
  have h := kk H locs lsv cells slots hW hc hs hl
  dsimp only at h ⊢
  rw [hnx] at h
  rw [hpc]
  exact lv_iload hF.1 hF.2.1 hdg (hl.2.2.2 _ _ hi) h
theorem am_s_lload_n (hF : am_F sc sp z0 cy D k p R s m args meth c) {n : Fin 4} {x : Int64} (hdg : decode (am_cd k) pc = .ok (.lload_n n, 1)) (hpc : am_pc k j = pc) (hnx : am_pc k (j + 1) = pc + 1) (hi : ls[(n : Nat)]? = some (some (.long x)))
    (kk : am_W sp z0 cy D n0 m0 k p l e R s m args below meth c Q ((j + 1, ls, .long x :: st, M))) : am_W sp z0 cy D n0 m0 k p l e R s m args below meth c Q ((j, ls, st, M)) := fun H locs lsv cells slots hW hc hs hl => by
  have h := kk H locs lsv cells slots hW hc hs hl
  dsimp only at h ⊢
  rw [hnx] at h
  rw [hpc]
  exact lv_lload_n hF.1 hF.2.1 hdg rfl (hl.2.2.2 _ _ hi) h
theorem am_s_lload (hF : am_F sc sp z0 cy D k p R s m args meth c) {n : Nat} {x : Int64} (hdg : decode (am_cd k) pc = .ok (.lload n, 2)) (hpc : am_pc k j = pc) (hnx : am_pc k (j + 1) = pc + 2) (hi : ls[(n : Nat)]? = some (some (.long x)))
    (kk : am_W sp z0 cy D n0 m0 k p l e R s m args below meth c Q ((j + 1, ls, .long x :: st, M))) : am_W sp z0 cy D n0 m0 k p l e R s m args below meth c Q ((j, ls, st, M)) := fun H locs lsv cells slots hW hc hs hl => by
  have h := kk H locs lsv cells slots hW hc hs hl
  dsimp only at h ⊢
  rw [hnx] at h
  rw [hpc]
  exact lv_lload hF.1 hF.2.1 hdg (hl.2.2.2 _ _ hi) h
theorem am_cv_ref (hsp : ∀ n, sp n = .null ∨ ∃ t, sp n = .ref t) (x : Nat) : am_cv z0 sp (.ref x) = .null ∨ ∃ t, am_cv z0 sp (.ref x) = .ref t := by
  unfold am_cv
  dsimp only
  split
  · exact hsp x
  · exact Or.inr ⟨_, rfl⟩
theorem am_sp_cat (hsp : ∀ n, sp n = .null ∨ ∃ t, sp n = .ref t) (n : Nat) : (sp n).category = 1 := by
  rcases hsp n with q | ⟨t, q⟩ <;> rw [q] <;> rfl
theorem am_s_aload_n (hF : am_F sc sp z0 cy D k p R s m args meth c) {n : Fin 4} {x : Nat} (hsp : ∀ n, sp n = .null ∨ ∃ t, sp n = .ref t) (hdg : decode (am_cd k) pc = .ok (.aload_n n, 1)) (hpc : am_pc k j = pc) (hnx : am_pc k (j + 1) = pc + 1) (hi : ls[(n : Nat)]? = some (some (.ref x)))
    (kk : am_W sp z0 cy D n0 m0 k p l e R s m args below meth c Q ((j + 1, ls, .ref x :: st, M))) : am_W sp z0 cy D n0 m0 k p l e R s m args below meth c Q ((j, ls, st, M)) := fun H locs lsv cells slots hW hc hs hl => by
  have h := kk H locs lsv cells slots hW hc hs hl
  dsimp only at h ⊢
  rw [hnx] at h
  rw [hpc]
  have hv := hl.2.2.2 _ _ hi
  rw [List.map_cons] at h
  rcases am_cv_ref (z0 := z0) hsp x with q | ⟨t, q⟩
  · rw [q] at h hv
    exact lv_aload_nN hF.1 hF.2.1 hdg rfl hv h
  · rw [q] at h hv
    exact lv_aload_n hF.1 hF.2.1 hdg rfl hv h
theorem am_s_aload (hF : am_F sc sp z0 cy D k p R s m args meth c) {n : Nat} {x : Nat} (hsp : ∀ n, sp n = .null ∨ ∃ t, sp n = .ref t) (hdg : decode (am_cd k) pc = .ok (.aload n, 2)) (hpc : am_pc k j = pc) (hnx : am_pc k (j + 1) = pc + 2) (hi : ls[(n : Nat)]? = some (some (.ref x)))
    (kk : am_W sp z0 cy D n0 m0 k p l e R s m args below meth c Q ((j + 1, ls, .ref x :: st, M))) : am_W sp z0 cy D n0 m0 k p l e R s m args below meth c Q ((j, ls, st, M)) := fun H locs lsv cells slots hW hc hs hl => by
  have h := kk H locs lsv cells slots hW hc hs hl
  dsimp only at h ⊢
  rw [hnx] at h
  rw [hpc]
  have hv := hl.2.2.2 _ _ hi
  rw [List.map_cons] at h
  rcases am_cv_ref (z0 := z0) hsp x with q | ⟨t, q⟩
  · rw [q] at h hv
    exact lv_aloadN hF.1 hF.2.1 hdg hv h
  · rw [q] at h hv
    exact lv_aload hF.1 hF.2.1 hdg hv h
/-- the kit's list of locals, out of ours -/
def am_al (sp : Nat → Value) (z0 : Nat) (i : Nat) (ls : am_L) : List (Nat × Value) := match ls with
  | [] => []
  | none :: ls => am_al sp z0 (i + 1) ls
  | some v :: ls => (i, am_cv z0 sp v) :: am_al sp z0 (i + 1) ls
theorem am_al_in : ∀ (ls : am_L) (i : Nat) (q : Nat × Value), q ∈ am_al sp z0 i ls ↔ ∃ (n : Nat) (v : Value), ls[n]? = some (some v) ∧ q = (i + n, am_cv z0 sp v) := by
  intro ls
  induction ls with
  | nil => intro i q; simp [am_al]
  | cons o ls ih =>
    intro i q
    cases o with
    | none =>
      simp only [am_al, ih]
      constructor
      · rintro ⟨n, v, h1, h2⟩
        exact ⟨n + 1, v, by simpa using h1, by rw [h2]; congr 1; omega⟩
      · rintro ⟨n, v, h1, h2⟩
        cases n with
        | zero => simp at h1
        | succ n => exact ⟨n, v, by simpa using h1, by rw [h2]; congr 1; omega⟩
    | some u =>
      simp only [am_al, List.mem_cons, ih]
      constructor
      · rintro (h | ⟨n, v, h1, h2⟩)
        · exact ⟨0, u, by simp, by rw [h]; rfl⟩
        · exact ⟨n + 1, v, by simpa using h1, by rw [h2]; congr 1; omega⟩
      · rintro ⟨n, v, h1, h2⟩
        cases n with
        | zero =>
          simp at h1
          subst h1
          exact Or.inl h2
        | succ n => exact Or.inr ⟨n, v, by simpa using h1, by rw [h2]; congr 1; omega⟩
theorem am_lv_has {lsv : Array Slot} {nL : Nat} (h : am_lv sp z0 lsv nL ls) : lv_has lsv nL (am_al sp z0 0 ls) := by
  refine ⟨h.2.1, h.2.2.1, fun q hq => ?_⟩
  obtain ⟨n, v, h1, rfl⟩ := (am_al_in ls 0 q).mp hq
  rw [Nat.zero_add]
  exact h.2.2.2 n v h1
theorem am_okst_spec {i : Nat} (h : am_okst ls i = true) : i < ls.length ∧ ∀ (n : Nat) (v : Value), n + 1 = i → ls[n]? = some (some v) → ¬ v.category = 2 := by
  unfold am_okst at h
  split at h
  · exact ⟨Nat.le_of_ble_eq_true h, fun n v q => by omega⟩
  · next i0 =>
    split at h
    · cases h
    · cases h
    · next h1 h2 =>
      refine ⟨by have := Nat.le_of_ble_eq_true h; omega, fun n v q hv => ?_⟩
      have : n = i0 := by omega
      subst this
      cases v with
      | long x => exact absurd hv (h1 x)
      | double x => exact absurd hv (h2 x)
      | _ => simp [Value.category]
theorem am_lv_st1 {lsv' : Array Slot} {nL i : Nat} {v : Value} (hlen : ls.length = nL) (hok : am_okst ls i = true) (hsp : ∀ n, (sp n).category = 1)
    (h : lv_has lsv' nL ((i, am_cv z0 sp v) :: (am_al sp z0 0 ls).filter (fun q => !(q.1 == i) && !(q.1 + 1 == i && q.2.category == 2)))) : am_lv sp z0 lsv' nL (ls.set i (some v)) := by
  obtain ⟨hi, hno⟩ := am_okst_spec hok
  refine ⟨by simp [hlen], h.1, h.2.1, fun n u hu => ?_⟩
  by_cases hn : n = i
  · subst hn
    rw [List.getElem?_set_self hi] at hu
    cases hu
    exact h.2.2 (n, am_cv z0 sp v) List.mem_cons_self
  · rw [List.getElem?_set_ne (fun q => hn q.symm)] at hu
    refine h.2.2 (n, am_cv z0 sp u) (List.mem_cons_of_mem _ (List.mem_filter.mpr ⟨(am_al_in ls 0 _).mpr ⟨n, u, hu, by simp⟩, ?_⟩))
    simp only [Bool.and_eq_true, Bool.not_eq_true', beq_eq_false_iff_ne, Bool.and_eq_false_iff]
    refine ⟨hn, ?_⟩
    by_cases hn1 : n + 1 = i
    · right
      rw [am_cv_cat hsp]
      exact hno n u hn1 hu
    · left; exact hn1
theorem am_lv_st2 {lsv' : Array Slot} {nL i : Nat} {v : Value} (hlen : ls.length = nL) (hok : am_okst2 ls i = true) (hsp : ∀ n, (sp n).category = 1)
    (h : lv_has lsv' nL ((i, am_cv z0 sp v) :: (am_al sp z0 0 ls).filter (fun q => !(q.1 == i) && (!(q.1 == i + 1) && !(q.1 + 1 == i && q.2.category == 2))))) : am_lv sp z0 lsv' nL ((ls.set i (some v)).set (i + 1) none) := by
  unfold am_okst2 at hok
  rw [Bool.and_eq_true] at hok
  obtain ⟨hi, hno⟩ := am_okst_spec hok.1
  refine ⟨by simp [hlen], h.1, h.2.1, fun n u hu => ?_⟩
  by_cases hn2 : n = i + 1
  · subst hn2
    rw [List.getElem?_set_self (by simp; have := Nat.le_of_ble_eq_true hok.2; omega)] at hu
    cases hu
  · rw [List.getElem?_set_ne (fun q => hn2 q.symm)] at hu
    by_cases hn : n = i
    · subst hn
      rw [List.getElem?_set_self hi] at hu
      cases hu
      exact h.2.2 (n, am_cv z0 sp v) List.mem_cons_self
    · rw [List.getElem?_set_ne (fun q => hn q.symm)] at hu
      refine h.2.2 (n, am_cv z0 sp u) (List.mem_cons_of_mem _ (List.mem_filter.mpr ⟨(am_al_in ls 0 _).mpr ⟨n, u, hu, by simp⟩, ?_⟩))
      simp only [Bool.and_eq_true, Bool.not_eq_true', beq_eq_false_iff_ne, Bool.and_eq_false_iff]
      refine ⟨hn, hn2, ?_⟩
      by_cases hn1 : n + 1 = i
      · right
        rw [am_cv_cat hsp]
        exact hno n u hn1 hu
      · left; exact hn1
theorem am_s_istore_n (hF : am_F sc sp z0 cy D k p R s m args meth c) {n : Fin 4} {x : Int32} (hsp : ∀ n, sp n = .null ∨ ∃ t, sp n = .ref t) (hdg : decode (am_cd k) pc = .ok (.istore_n n, 1)) (hpc : am_pc k j = pc) (hnx : am_pc k (j + 1) = pc + 1) (hi : am_okst ls ((n : Nat) : Nat) = true)
    (kk : am_W sp z0 cy D n0 m0 k p l e R s m args below meth c Q ((j + 1, ls.set (n : Nat) (some (.int x)), st, M))) : am_W sp z0 cy D n0 m0 k p l e R s m args below meth c Q ((j, ls, .int x :: st, M)) := fun H locs lsv cells slots hW hc hs hl => by
  dsimp only at hW hc hs hl ⊢
  rw [hpc]
  refine lv_istore_n hF.1 hF.2.1 hdg rfl (am_lv_has hl) (by have := (am_okst_spec hi).1; have := hl.1; omega) rfl (fun lsv' h' => ?_)
  have h := kk H locs lsv' cells slots hW hc hs (am_lv_st1 (v := .int x) hl.1 hi (am_sp_cat hsp) h')
  dsimp only at h
  rw [hnx] at h
  exact h
theorem am_s_istore (hF : am_F sc sp z0 cy D k p R s m args meth c) {n : Nat} {x : Int32} (hsp : ∀ n, sp n = .null ∨ ∃ t, sp n = .ref t) (hdg : decode (am_cd k) pc = .ok (.istore n, 2)) (hpc : am_pc k j = pc) (hnx : am_pc k (j + 1) = pc + 2) (hi : am_okst ls (n : Nat) = true)
    (kk : am_W sp z0 cy D n0 m0 k p l e R s m args below meth c Q ((j + 1, ls.set n (some (.int x)), st, M))) : am_W sp z0 cy D n0 m0 k p l e R s m args below meth c Q ((j, ls, .int x :: st, M)) := fun H locs lsv cells slots hW hc hs hl => by
  dsimp only at hW hc hs hl ⊢
  rw [hpc]
  refine lv_istore hF.1 hF.2.1 hdg (am_lv_has hl) (by have := (am_okst_spec hi).1; have := hl.1; omega) rfl (fun lsv' h' => ?_)
  have h := kk H locs lsv' cells slots hW hc hs (am_lv_st1 (v := .int x) hl.1 hi (am_sp_cat hsp) h')
  dsimp only at h
  rw [hnx] at h
  exact h
theorem am_s_lstore_n (hF : am_F sc sp z0 cy D k p R s m args meth c) {n : Fin 4} {x : Int64} (hsp : ∀ n, sp n = .null ∨ ∃ t, sp n = .ref t) (hdg : decode (am_cd k) pc = .ok (.lstore_n n, 1)) (hpc : am_pc k j = pc) (hnx : am_pc k (j + 1) = pc + 1) (hi : am_okst2 ls ((n : Nat) : Nat) = true)
    (kk : am_W sp z0 cy D n0 m0 k p l e R s m args below meth c Q ((j + 1, (ls.set (n : Nat) (some (.long x))).set ((n : Nat) + 1) none, st, M))) : am_W sp z0 cy D n0 m0 k p l e R s m args below meth c Q ((j, ls, .long x :: st, M)) := fun H locs lsv cells slots hW hc hs hl => by
  dsimp only at hW hc hs hl ⊢
  rw [hpc]
  refine lv_lstore_n hF.1 hF.2.1 hdg rfl (am_lv_has hl) (by have := Nat.le_of_ble_eq_true (Bool.and_eq_true_iff.mp hi).2; have := hl.1; omega) rfl (fun lsv' h' => ?_)
  have h := kk H locs lsv' cells slots hW hc hs (am_lv_st2 (v := .long x) hl.1 hi (am_sp_cat hsp) h')
  dsimp only at h
  rw [hnx] at h
  exact h
theorem am_s_lstore (hF : am_F sc sp z0 cy D k p R s m args meth c) {n : Nat} {x : Int64} (hsp : ∀ n, sp n = .null ∨ ∃ t, sp n = .ref t) (hdg : decode (am_cd k) pc = .ok (.lstore n, 2)) (hpc : am_pc k j = pc) (hnx : am_pc k (j + 1) = pc + 2) (hi : am_okst2 ls (n : Nat) = true)
    (kk : am_W sp z0 cy D n0 m0 k p l e R s m args below meth c Q ((j + 1, (ls.set n (some (.long x))).set (n + 1) none, st, M))) : am_W sp z0 cy D n0 m0 k p l e R s m args below meth c Q ((j, ls, .long x :: st, M)) := fun H locs lsv cells slots hW hc hs hl => by
  dsimp only at hW hc hs hl ⊢
  rw [hpc]
  refine lv_lstore hF.1 hF.2.1 hdg (am_lv_has hl) (by have := Nat.le_of_ble_eq_true (Bool.and_eq_true_iff.mp hi).2; have := hl.1; omega) rfl (fun lsv' h' => ?_)
  have h := kk H locs lsv' cells slots hW hc hs (am_lv_st2 (v := .long x) hl.1 hi (am_sp_cat hsp) h')
  dsimp only at h
  rw [hnx] at h
  exact h
theorem am_s_astore_n (hF : am_F sc sp z0 cy D k p R s m args meth c) {n : Fin 4} {x : Nat} (hsp : ∀ n, sp n = .null ∨ ∃ t, sp n = .ref t) (hdg : decode (am_cd k) pc = .ok (.astore_n n, 1)) (hpc : am_pc k j = pc) (hnx : am_pc k (j + 1) = pc + 1) (hi : am_okst ls ((n : Nat) : Nat) = true)
    (kk : am_W sp z0 cy D n0 m0 k p l e R s m args below meth c Q ((j + 1, ls.set (n : Nat) (some (.ref x)), st, M))) : am_W sp z0 cy D n0 m0 k p l e R s m args below meth c Q ((j, ls, .ref x :: st, M)) := fun H locs lsv cells slots hW hc hs hl => by
  dsimp only at hW hc hs hl ⊢
  rw [hpc, List.map_cons]
  have hb : ((n : Nat) : Nat) < am_ml k := by have := (am_okst_spec hi).1; have := hl.1; omega
  have go : ∀ lsv' : Array Slot, lv_has lsv' (am_ml k) (((n : Nat), am_cv z0 sp (.ref x)) :: (am_al sp z0 0 ls).filter (fun q => !(q.1 == (n : Nat)) && !(q.1 + 1 == (n : Nat) && q.2.category == 2))) → W p l e R s m args below meth c H locs cells slots Q (F0 m (pc + 1) lsv' (st.map (am_cv z0 sp))) := fun lsv' h' => by
    have h := kk H locs lsv' cells slots hW hc hs (am_lv_st1 (v := .ref x) hl.1 hi (am_sp_cat hsp) h')
    dsimp only at h
    rw [hnx] at h
    exact h
  rcases am_cv_ref (z0 := z0) hsp x with q | ⟨t, q⟩
  · rw [q] at go ⊢
    exact lv_astore_nN hF.1 hF.2.1 hdg rfl (am_lv_has hl) hb rfl go
  · rw [q] at go ⊢
    exact lv_astore_n hF.1 hF.2.1 hdg rfl (am_lv_has hl) hb rfl go
theorem am_s_astore (hF : am_F sc sp z0 cy D k p R s m args meth c) {n : Nat} {x : Nat} (hsp : ∀ n, sp n = .null ∨ ∃ t, sp n = .ref t) (hdg : decode (am_cd k) pc = .ok (.astore n, 2)) (hpc : am_pc k j = pc) (hnx : am_pc k (j + 1) = pc + 2) (hi : am_okst ls (n : Nat) = true)
    (kk : am_W sp z0 cy D n0 m0 k p l e R s m args below meth c Q ((j + 1, ls.set n (some (.ref x)), st, M))) : am_W sp z0 cy D n0 m0 k p l e R s m args below meth c Q ((j, ls, .ref x :: st, M)) := fun H locs lsv cells slots hW hc hs hl => by
  dsimp only at hW hc hs hl ⊢
  rw [hpc, List.map_cons]
  have hb : (n : Nat) < am_ml k := by have := (am_okst_spec hi).1; have := hl.1; omega
  have go : ∀ lsv' : Array Slot, lv_has lsv' (am_ml k) ((n, am_cv z0 sp (.ref x)) :: (am_al sp z0 0 ls).filter (fun q => !(q.1 == n) && !(q.1 + 1 == n && q.2.category == 2))) → W p l e R s m args below meth c H locs cells slots Q (F0 m (pc + 2) lsv' (st.map (am_cv z0 sp))) := fun lsv' h' => by
    have h := kk H locs lsv' cells slots hW hc hs (am_lv_st1 (v := .ref x) hl.1 hi (am_sp_cat hsp) h')
    dsimp only at h
    rw [hnx] at h
    exact h
  rcases am_cv_ref (z0 := z0) hsp x with q | ⟨t, q⟩
  · rw [q] at go ⊢
    exact lv_astoreN hF.1 hF.2.1 hdg (am_lv_has hl) hb rfl go
  · rw [q] at go ⊢
    exact lv_astore hF.1 hF.2.1 hdg (am_lv_has hl) hb rfl go
theorem am_s_iinc (hF : am_F sc sp z0 cy D k p R s m args meth c) {n : Nat} {d : Int} {x z : Int32} (hsp : ∀ n, sp n = .null ∨ ∃ t, sp n = .ref t) (hdg : decode (am_cd k) pc = .ok (.iinc n d, 3)) (hpc : am_pc k j = pc) (hnx : am_pc k (j + 1) = pc + 3) (hz : Int32.ofInt d = z) (hx : ls[n]? = some (some (.int x))) (hi : am_okst ls n = true)
    (kk : am_W sp z0 cy D n0 m0 k p l e R s m args below meth c Q ((j + 1, ls.set n (some (.int (x + z))), st, M))) : am_W sp z0 cy D n0 m0 k p l e R s m args below meth c Q ((j, ls, st, M)) := fun H locs lsv cells slots hW hc hs hl => by
  dsimp only at hW hc hs hl ⊢
  rw [hpc]
  obtain ⟨q, hq⟩ := List.mem_iff_getElem?.mp ((am_al_in (sp := sp) (z0 := z0) ls 0 (n, .int x)).mpr ⟨n, .int x, hx, by simp [am_cv]⟩)
  refine lv_iinc hF.1 hF.2.1 hdg (am_lv_has hl) hq (by rw [hz]) (by have := (am_okst_spec hi).1; have := hl.1; omega) rfl (fun lsv' h' => ?_)
  have h := kk H locs lsv' cells slots hW hc hs (am_lv_st1 (v := .int (x + z)) hl.1 hi (am_sp_cat hsp) h')
  dsimp only at h
  rw [hnx] at h
  exact h
end
