/-! ===== clues, riders ===== -/
def bkClues (cl : Nat → Int32) (cn bw br le : Int32) : List am_E := [.inr (0, [.ref 385, .int cn, .int bw, .int br, .int le]), .inl (0, 12, .inl cl)]
def bkRiders (nr ho ou : Nat → Int32) (rc fr : Int32) : List am_E := [.inr (3, [.ref 353, .ref 354, .ref 355, .int rc, .int fr]), .inl (0, 3, .inl nr), .inl (0, 10, .inl ho), .inl (0, 3, .inl ou)]
/-- from n down to 0 -/
def am_down {α : Type} (n : Nat) (f : Nat → α → α) (a : α) : α := match n with
  | 0 => f 0 a
  | n + 1 => am_down n f (f (n + 1) a)
theorem am_down_zero {α : Type} (f : Nat → α → α) (a : α) : am_down 0 f a = f 0 a := rfl
theorem am_decN (i : Nat) : Int32.ofNat (i + 1) + -1 = Int32.ofNat i := by
  have := dec_ofNat i
  rw [Int32.sub_eq_add_neg] at this
  exact this
def sp_errOne (nu cl : Nat → Int32) (a b v : Int32) (i : Nat) (s : Int32) : Int32 := if i < 2 then s else s + sp_abs (a * sp_worth nu (if nu 0 < Int32.ofNat i then nu 0 else Int32.ofNat i) + b * (2 * cl (i - 1) - cl (i - 2)) + (10 - a - b) * v - 10 * cl i)
theorem sp_errOne_ge {nu cl : Nat → Int32} {a b v : Int32} {i : Nat} {s : Int32} (h : 2 ≤ i) : sp_errOne nu cl a b v i s = s + sp_abs (a * sp_worth nu (if nu 0 < Int32.ofNat i then nu 0 else Int32.ofNat i) + b * (2 * cl (i - 1) - cl (i - 2)) + (10 - a - b) * v - 10 * cl i) := by
  unfold sp_errOne
  rw [if_neg (by omega)]
def sp_err (nu cl : Nat → Int32) (C : Nat) (a b v : Int32) : Int32 := am_fold C (sp_errOne nu cl a b v) 0
abbrev sp_F3 : Type := Int32 × Int32 × Int32
def sp_fitOne (nu cl : Nat → Int32) (C : Nat) (v : Int32) (A B : Nat) (X : sp_F3) : sp_F3 := if X.1 < 0 ∨ sp_err nu cl C (Int32.ofNat A) (Int32.ofNat B) v < X.1 then (sp_err nu cl C (Int32.ofNat A) (Int32.ofNat B) v, Int32.ofNat A, Int32.ofNat B) else X
theorem sp_fitOne_T {nu cl : Nat → Int32} {C : Nat} {v : Int32} {A B : Nat} {X : sp_F3} (h : X.1 < 0 ∨ sp_err nu cl C (Int32.ofNat A) (Int32.ofNat B) v < X.1) : sp_fitOne nu cl C v A B X = (sp_err nu cl C (Int32.ofNat A) (Int32.ofNat B) v, Int32.ofNat A, Int32.ofNat B) := if_pos h
theorem sp_fitOne_F {nu cl : Nat → Int32} {C : Nat} {v : Int32} {A B : Nat} {X : sp_F3} (h : ¬ (X.1 < 0 ∨ sp_err nu cl C (Int32.ofNat A) (Int32.ofNat B) v < X.1)) : sp_fitOne nu cl C v A B X = X := if_neg h
def sp_fitRow (nu cl : Nat → Int32) (C : Nat) (v : Int32) (A : Nat) (X : sp_F3) : sp_F3 := am_down (10 - A) (sp_fitOne nu cl C v A) X
/-! riders -/
def sp_price (nr : Nat → Int32) (f : Int32) : Int32 := nr 0 + nr 1 * f
def sp_minOne (ou : Nat → Int32) (i : Nat) (f : Int32) : Int32 := if ou i < f then ou i else f
def sp_togOne (ou : Nat → Int32) (f : Int32) (i : Nat) (t : Int32) : Int32 := t + (if ou i = f then 1 else 0)
def sp_first (ou : Nat → Int32) (m : Nat) (f : Int32) : Int32 := am_fold m (sp_minOne ou) f
def sp_tog (ou : Nat → Int32) (m : Nat) (f : Int32) : Int32 := am_fold m (sp_togOne ou f) 0
def sp_share (nr ou : Nat → Int32) (m w : Nat) : Int32 := if sp_first ou m (ou w) < ou w then nr 2 else (if 0 < sp_tog ou m (sp_first ou m (ou w)) then sp_price nr (sp_first ou m (ou w)) / sp_tog ou m (sp_first ou m (ou w)) else 0)
def sp_stayOne (nr ou : Nat → Int32) (m w : Nat) (has : Int32) (r : Nat) (s : Bool) : Bool := s && decide (sp_share nr (upd ou w (Int32.ofNat r)) m w ≤ has)
/-- the rider w stays: no round from 0 to l gives more -/
def sp_stays (nr ou : Nat → Int32) (m l w : Nat) : Bool := am_fold (l + 1) (sp_stayOne nr ou m w (sp_share nr ou m w)) true
def sp_restOne (nr ou : Nat → Int32) (m l w : Nat) (s : Bool) : Bool := s && sp_stays nr ou m l w
def sp_rest (nr ou : Nat → Int32) (m l : Nat) : Bool := am_fold m (sp_restOne nr ou m l) true
theorem sp_rest_mono {nr ou : Nat → Int32} {m l i : Nat} (h : am_fold i (sp_restOne nr ou m l) true = false) : ∀ d : Nat, am_fold (i + d) (sp_restOne nr ou m l) true = false := by
  intro d
  induction d with
  | zero => exact h
  | succ d ih =>
    show (am_fold (i + d) (sp_restOne nr ou m l) true && sp_stays nr ou m l (i + d)) = false
    rw [ih]
    rfl
theorem am_upd_upd (f : Nat → Int32) (i : Nat) (a b : Int32) : upd (upd f i a) i b = upd f i b := by
  funext k
  unfold upd
  split <;> rfl
theorem am_upd_self (f : Nat → Int32) (i : Nat) : upd f i (f i) = f := by
  funext k
  unfold upd
  split
  · next h => rw [h]
  · rfl
def sp_tri (a b c : Nat) : Nat → Int32 := fun k => if k = 0 then Int32.ofNat a else if k = 1 then Int32.ofNat b else Int32.ofNat c
def sp_fig (m a b c : Nat) : Int32 := if m ≤ 2 then 10 * Int32.ofNat a + Int32.ofNat b else 100 * Int32.ofNat a + 10 * Int32.ofNat b + Int32.ofNat c
def sp_cntOne (nr : Nat → Int32) (m l a b c : Nat) (X : Int32 × Int32) : Int32 × Int32 := if sp_rest nr (sp_tri a b c) m l = true then (X.1 + 1, if X.1 = 0 then sp_fig m a b c else X.2) else X
def sp_third (m l : Nat) : Nat := if m ≤ 2 then 0 else l
def sp_rests (nr : Nat → Int32) (m l : Nat) : Int32 × Int32 := am_fold (l + 1) (fun a X => am_fold (l + 1) (fun b X => am_fold (sp_third m l + 1) (fun c X => sp_cntOne nr m l a b c X) X) X) (0, -9)
theorem am_fold_congr {α : Type} {f g : Nat → α → α} : ∀ (n : Nat), (∀ i, i < n → ∀ x, f i x = g i x) → ∀ a, am_fold n f a = am_fold n g a := by
  intro n
  induction n with
  | zero => intro _ a; rfl
  | succ n ih =>
    intro h a
    rw [am_fold_succ, am_fold_succ, ih (fun i hi x => h i (by omega) x) a]
    exact h n (by omega) _
theorem sp_share_congr {nr ou ou2 : Nat → Int32} {m w : Nat} (hw : w < m) (h : ∀ k, k < m → ou k = ou2 k) : sp_share nr ou m w = sp_share nr ou2 m w := by
  have e1 : ∀ f, sp_first ou m f = sp_first ou2 m f := fun f => am_fold_congr m (fun i hi x => by unfold sp_minOne; rw [h i hi]) f
  have e2 : ∀ f, sp_tog ou m f = sp_tog ou2 m f := fun f => am_fold_congr m (fun i hi x => by unfold sp_togOne; rw [h i hi]) 0
  unfold sp_share
  rw [e1, e2, h w hw]
theorem sp_stays_congr {nr ou ou2 : Nat → Int32} {m l w : Nat} (hw : w < m) (h : ∀ k, k < m → ou k = ou2 k) : sp_stays nr ou m l w = sp_stays nr ou2 m l w := by
  unfold sp_stays
  rw [sp_share_congr hw h]
  exact am_fold_congr (l + 1) (fun r _ s => by
    unfold sp_stayOne
    rw [sp_share_congr (ou := upd ou w (Int32.ofNat r)) (ou2 := upd ou2 w (Int32.ofNat r)) hw (fun k hk => by unfold upd; rw [h k hk])]) true
theorem sp_rest_congr {nr ou ou2 : Nat → Int32} {m l : Nat} (h : ∀ k, k < m → ou k = ou2 k) : sp_rest nr ou m l = sp_rest nr ou2 m l := am_fold_congr m (fun w hw s => by
  unfold sp_restOne
  rw [sp_stays_congr hw h]) true
def sp_meanOne (nr ho : Nat → Int32) (r k : Nat) (s : Int32) : Int32 := s + ho k * (if r < k then 2 * sp_price nr (Int32.ofNat r) else if r = k then sp_price nr (Int32.ofNat r) else 2 * nr 2)
def sp_mean (nr ho : Nat → Int32) (r : Nat) : Int32 := am_fold 10 (sp_meanOne nr ho r) 0
def sp_bestOne (nr ho : Nat → Int32) (i b : Nat) : Nat := if i = 0 then 0 else if sp_mean nr ho i ≤ sp_mean nr ho b then b else i
theorem sp_bestOne_lt (nr ho : Nat → Int32) : ∀ n, 0 < n → am_fold n (sp_bestOne nr ho) 0 < n := by
  intro n
  induction n with
  | zero => intro h; omega
  | succ n ih =>
    intro _
    rw [am_fold_succ]
    generalize am_fold n (sp_bestOne nr ho) 0 = b at ih ⊢
    unfold sp_bestOne
    split
    · omega
    · next h =>
      split
      · have := ih (by omega)
        omega
      · omega
