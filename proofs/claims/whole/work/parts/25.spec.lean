/-- what comes behind the sales of a round: the lot, the pay, what was said, the board; r the round, N how many there are -/
def sp_tail (nu : Nat → Int32) (P N r : Nat) (pv sa pd lo : Int32) (bo se si er of_ bi : Nat → Int32) (cnt : Nat) (X : sp_S) : sp_R := match X with
  | (co, sh, bt, so, pr) =>
    if N ≤ r + 1 then (Int32.ofNat r + 1, pr, pv, sa + Int32.ofNat cnt, pd + sp_die nu (sp_lot lo) + nu 3, sp_lot lo, upd bo r pr, am_fold P (sp_pay sh (nu 3)) (am_fold P (sp_pay sh (sp_die nu (sp_lot lo))) co), sh, se, (am_fold P (sp_saidOne pr) (si, er, of_)).1, (am_fold P (sp_saidOne pr) (si, er, of_)).2.1, (am_fold P (sp_saidOne pr) (si, er, of_)).2.2, bi, bt, so)
    else (Int32.ofNat r + 1, pr, pv, sa + Int32.ofNat cnt, pd + sp_die nu (sp_lot lo), sp_lot lo, upd bo r pr, am_fold P (sp_pay sh (sp_die nu (sp_lot lo))) co, sh, se, (am_fold P (sp_saidOne pr) (si, er, of_)).1, (am_fold P (sp_saidOne pr) (si, er, of_)).2.1, (am_fold P (sp_saidOne pr) (si, er, of_)).2.2, bi, bt, so)
def sp_round (nu la me : Nat → Int32) (P N S r : Nat) (R : sp_R) : sp_R := match R with
  | (_, pr, pv, sa, pd, lo, bo, co, sh, se, si, er, of_, bi, bt, so) =>
    sp_tail nu P N r pr sa pd lo bo se si er of_ (am_fold P (sp_bidOne (sp_val nu la me se (Int32.ofNat r) pr pv)) (bi, bt, so)).1
      (sp_sells nu (am_fold P (sp_bidOne (sp_val nu la me se (Int32.ofNat r) pr pv)) (bi, bt, so)).1 P S (co, sh, (am_fold P (sp_bidOne (sp_val nu la me se (Int32.ofNat r) pr pv)) (bi, bt, so)).2.1, (am_fold P (sp_bidOne (sp_val nu la me se (Int32.ofNat r) pr pv)) (bi, bt, so)).2.2, pr)).1
      (sp_sells nu (am_fold P (sp_bidOne (sp_val nu la me se (Int32.ofNat r) pr pv)) (bi, bt, so)).1 P S (co, sh, (am_fold P (sp_bidOne (sp_val nu la me se (Int32.ofNat r) pr pv)) (bi, bt, so)).2.1, (am_fold P (sp_bidOne (sp_val nu la me se (Int32.ofNat r) pr pv)) (bi, bt, so)).2.2, pr)).2
