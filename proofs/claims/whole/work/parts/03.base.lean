/-! ===== words that tables and machine share ===== -/
def am_pc (k j : Nat) : Nat := match (am_tab k)[j]? with
  | some e => e.1
  | none => 0
def am_isI (k : Nat) : Bool := (am_mt k).name == "<init>"
def am_nw : List Cond := [.fieldLinkNest "PaperPays$Rules" 33 "PaperPays" "USUAL" "[I" "PaperPays", .fieldLinkNest "PaperPays$Reader" 67 "PaperPays" "LEAST" "[I" "PaperPays", .fieldLinkNest "PaperPays$Reader" 71 "PaperPays" "MOST" "[I" "PaperPays", .methodLinkNest "PaperPays" 18 ⟨"PaperPays$Reader", "<init>", "()V"⟩ "PaperPays", .methodLinkNest "PaperPays" 50 ⟨"PaperPays$Riders", "<init>", "()V"⟩ "PaperPays", .methodLinkNest "PaperPays" 57 ⟨"PaperPays$Clues", "<init>", "()V"⟩ "PaperPays"]
/-- where a bank begins: the banks' sizes are known ahead -/
def am_of (b : Nat) : Nat := (am_sizes.take b).sum
/-- where object number n lies -/
def am_ad (z0 n : Nat) : Nat := z0 + am_of (n / 32) + n % 32
def am_cv (z0 : Nat) (sp : Nat → Value) (v : Value) : Value := match v with
  | .ref n => match Nat.ble 1000 n with
    | true => sp n
    | false => .ref (am_ad z0 n)
  | v => v
/-- what the tables say of a class of ours -/
def am_Cl (a : Nat) (q : vw_C) (ty : Nat → FieldType) : Prop := (∀ w ∈ u_ws q.1 q.2.1 q.2.2, w ∈ xw_tw) ∧ (∀ k, k < q.2.2 → parseFieldDescriptor (q.2.1 k).2.2.1 = some (ty k)) ∧ (∀ a, a < q.2.2 → ∀ b, b < q.2.2 → a ≠ b → (q.2.1 a).2.1 ≠ (q.2.1 b).2.1) ∧ ∀ fs, am_df[a]? = some fs → fs.length = q.2.2 ∧ (∀ z0 sp, fs.map (am_cv z0 sp) = fs) ∧ ∀ j, j < q.2.2 → defaultValue (ty j) = vp_V fs j
