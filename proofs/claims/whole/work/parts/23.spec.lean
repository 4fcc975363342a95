/-! ===== a round ===== -/
abbrev sp_S : Type := (Nat → Int32) × (Nat → Int32) × (Nat → Int32) × (Nat → Int32) × Int32
abbrev sp_R : Type := Int32 × Int32 × Int32 × Int32 × Int32 × Int32 × (Nat → Int32) × (Nat → Int32) × (Nat → Int32) × (Nat → Int32) × (Nat → Int32) × (Nat → Int32) × (Nat → Int32) × (Nat → Int32) × (Nat → Int32) × (Nat → Int32)
def bkRoomT (o ru : Nat) (R : sp_R) : List am_E := match R with
  | (rd, pr, pv, sa, pd, lo, bo, co, sh, se, si, er, of_, bi, bt, so) => bkRoom o ru rd pr pv sa pd lo bo co sh se si er of_ bi bt so
/-- one sheet goes from s to b -/
def sp_deal (nu bi : Nat → Int32) (b s : Nat) (X : sp_S) : sp_S := match X with
  | (co, sh, bt, so, _) => (upd (upd co b (co b - ((bi b + (bi s + 1)) / 2 + nu 8))) s (upd co b (co b - ((bi b + (bi s + 1)) / 2 + nu 8)) s + (bi b + (bi s + 1)) / 2), upd (upd sh b (sh b + 1)) s (upd sh b (sh b + 1) s - 1), upd bt b (bt b + 1), upd so s (so s + 1), (bi b + (bi s + 1)) / 2)
def sp_sell (nu bi : Nat → Int32) (P : Nat) (X : sp_S) : Option sp_S := match am_fold P (sp_bestB (sp_mayB nu X.1 bi X.2.2.1) bi) none with
  | none => none
  | some b => match am_fold P (sp_bestS (sp_mayS nu X.2.1 X.2.2.2.1 (some b)) bi) none with
    | none => none
    | some s => if bi s + 1 ≤ bi b then some (sp_deal nu bi b s X) else none
def sp_sells (nu bi : Nat → Int32) (P : Nat) (k : Nat) (X : sp_S) : Nat × sp_S := match k with
  | 0 => (0, X)
  | k + 1 => match sp_sell nu bi P X with
    | none => (0, X)
    | some X' => ((sp_sells nu bi P k X').1 + 1, (sp_sells nu bi P k X').2)
def sp_abs (x : Int32) : Int32 := if 0 ≤ x then x else 0 - x
def sp_saidOne (pr : Int32) (p : Nat) (X : (Nat → Int32) × (Nat → Int32) × (Nat → Int32)) : (Nat → Int32) × (Nat → Int32) × (Nat → Int32) :=
  if X.1 p = -9 then X else (upd X.1 p (-9), upd X.2.1 p (X.2.1 p + sp_abs (pr - X.1 p)), upd X.2.2 p (X.2.2 p + 1))
def sp_bidOne (v : Nat → Int32) (p : Nat) (X : (Nat → Int32) × (Nat → Int32) × (Nat → Int32)) : (Nat → Int32) × (Nat → Int32) × (Nat → Int32) := (upd X.1 p (v p), upd X.2.1 p 0, upd X.2.2 p 0)
def sp_lot (lo : Int32) : Int32 := lo * 1103515245 + 12345
def sp_die (nu : Nat → Int32) (lo : Int32) : Int32 := if (lo.toUInt32 >>> (Int32.toUInt32 16 &&& Int32.toUInt32 31)).toInt32 &&& 1 = 0 then nu 1 else nu 2
