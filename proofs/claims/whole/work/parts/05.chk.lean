def am_pc (k j : Nat) : Nat := match (am_tab k)[j]? with
  | some e => e.1
  | none => 0
def am_isI (k : Nat) : Bool := (am_mt k).name == "<init>"
def am_nw : List Cond := [.fieldLinkNest "PaperPays$Rules" 33 "PaperPays" "USUAL" "[I" "PaperPays", .fieldLinkNest "PaperPays$Reader" 67 "PaperPays" "LEAST" "[I" "PaperPays", .fieldLinkNest "PaperPays$Reader" 71 "PaperPays" "MOST" "[I" "PaperPays", .methodLinkNest "PaperPays" 18 ⟨"PaperPays$Reader", "<init>", "()V"⟩ "PaperPays", .methodLinkNest "PaperPays" 50 ⟨"PaperPays$Riders", "<init>", "()V"⟩ "PaperPays", .methodLinkNest "PaperPays" 57 ⟨"PaperPays$Clues", "<init>", "()V"⟩ "PaperPays"]
