/-! count, in both -/
noncomputable section
def aAll (w : Rw) : Nat := sm (fun h => cnt (tSt w h) (tN w)) 40
def aCt (w : Rw) (j : Nat) : Int32 := if j = 0 then nI (tN w) else if j = 1 then nI (eMn (w.1 2) (w.2 1)) else if j = 2 then nI (w.2 0) else if j = 3 then nI (w.2 1) else if j = 4 then nI (w.2 2) else if j = 5 then nI (w.2 3) else if j = 6 then nI (aAll w) else if j = 7 then nI (w.2 4) else w.1 0 3
def aCount (w : Rw) (x : Int32) : Int32 := if 0 ≤ x ∧ x ≤ 8 then aCt w x.toNatClampNeg else -2
end
theorem aCount_y {w : Rw} {j : Nat} (hj : j ≤ 8) : aCount w (nI j) = aCt w j := by
  unfold aCount
  rw [if_pos ⟨nI_pos' (by omega), nI_le (a := j) (b := 8) hj (by omega)⟩, z_cl (by omega)]
theorem sw_out {x : Int32} {N : Nat} (hN : N < 1000) (h : ¬ (0 ≤ x ∧ x ≤ nI N)) : x.toInt < 0 ∨ (0 : Int) + ((N + 1 : Nat) : Int) ≤ x.toInt := by
  have z0 : (0 : Int32).toInt = 0 := by decide
  have zN : (nI N).toInt = (N : Int) := nI_toInt (by omega)
  rw [fa_le, fa_le, z0, zN] at h
  omega
set_option maxRecDepth 10000 in
set_option maxHeartbeats 1000000 in
theorem e5_count (n : Nat) (M : zM) (w : Rw) (hI : cI w M) (x : Int32) : zMet zi_X5_count [.ref 2, .int x] (zLay n 15) M (zLay n 15) (zr (some (.int (aCount w x))) (fun M' => cI w M' ∧ ∀ p, 45 ≤ p → M' p = M p)) := by
  refine z_mr (zk_X5_count _ _) rfl (Nat.le_of_ble_eq_true rfl) rfl (fun ret hret => ?_)
  by_cases hx : 0 ≤ x ∧ x ≤ 8
  · obtain ⟨j, hj, rfl⟩ := rg 8 rfl (by omega) hx
    rcases (show j = 0 ∨ j = 1 ∨ j = 2 ∨ j = 3 ∨ j = 4 ∨ j = 5 ∨ j = 6 ∨ j = 7 ∨ j = 8 by omega) with e | e | e | e | e | e | e | e | e
    · subst e
      refine z_swi (k := 0) (t := 52) rfl (by decide) ?_
      refine z_go ?_
      refine z_rq hret (z_vi ?_) ⟨hI, fun _ _ => rfl⟩
      rw [aCount_y (by omega), aCt, if_pos rfl]
      exact hI.1.2.2.2.2.1
    · subst e
      refine z_swi (k := 1) (t := 63) rfl (by decide) ?_
      refine z_go ?_
      refine z_rq hret (z_vi ?_) ⟨hI, fun _ _ => rfl⟩
      rw [aCount_y (by omega), aCt, if_neg (by decide), if_pos rfl]
      exact hI.1.2.2.2.1.1
    · subst e
      refine z_swi (k := 2) (t := 71) rfl (by decide) ?_
      refine z_go ?_
      refine z_rq hret (z_vi ?_) ⟨hI, fun _ _ => rfl⟩
      rw [aCount_y (by omega), aCt, if_neg (by decide), if_neg (by decide), if_pos rfl]
      exact hI.1.2.1.2.1
    · subst e
      refine z_swi (k := 3) (t := 79) rfl (by decide) ?_
      refine z_go ?_
      refine z_rq hret (z_vi ?_) ⟨hI, fun _ _ => rfl⟩
      rw [aCount_y (by omega), aCt, if_neg (by decide), if_neg (by decide), if_neg (by decide), if_pos rfl]
      exact hI.1.2.2.1.2.1
    · subst e
      refine z_swi (k := 4) (t := 87) rfl (by decide) ?_
      refine z_go ?_
      refine z_rq hret (z_vi ?_) ⟨hI, fun _ _ => rfl⟩
      rw [aCount_y (by omega), aCt, if_neg (by decide), if_neg (by decide), if_neg (by decide), if_neg (by decide), if_pos rfl]
      exact hI.1.2.2.2.1.2.2.2.2.1
    · subst e
      refine z_swi (k := 5) (t := 95) rfl (by decide) ?_
      refine z_go ?_
      refine z_rq hret (z_vi ?_) ⟨hI, fun _ _ => rfl⟩
      rw [aCount_y (by omega), aCt, if_neg (by decide), if_neg (by decide), if_neg (by decide), if_neg (by decide), if_neg (by decide), if_pos rfl]
      exact hI.1.2.2.2.1.2.2.2.2.2.2.1
    · subst e
      refine z_swi (k := 6) (t := 103) rfl (by decide) ?_
      refine z_go ?_
      refine z_cx (d5_toldCourse n M w hI) (fun M1 h1 => ?_)
      obtain ⟨i1, i2, i3⟩ := h1
      refine z_ca (c0_shortsInAll21 n 15 M1 (tN w) (tSt w) (tN8 w) (crs_sh i2)) ?_
      refine z_rq hret (z_vi ?_) ⟨i1, i3⟩
      rw [aCount_y (by omega), aCt, if_neg (by decide), if_neg (by decide), if_neg (by decide), if_neg (by decide), if_neg (by decide), if_neg (by decide), if_pos rfl]
      rfl
    · subst e
      refine z_swi (k := 7) (t := 111) rfl (by decide) ?_
      refine z_go ?_
      refine z_rq hret (z_vi ?_) ⟨hI, fun _ _ => rfl⟩
      rw [aCount_y (by omega), aCt, if_neg (by decide), if_neg (by decide), if_neg (by decide), if_neg (by decide), if_neg (by decide), if_neg (by decide), if_neg (by decide), if_pos rfl]
      exact hI.1.2.2.2.2.2.2.2.2.2.2.2.1
    · subst e
      refine z_swi (k := 8) (t := 116) rfl (by decide) ?_
      refine z_go ?_
      refine z_rq hret (z_vi ?_) ⟨hI, fun _ _ => rfl⟩
      rw [aCount_y (by omega), aCt, if_neg (by decide), if_neg (by decide), if_neg (by decide), if_neg (by decide), if_neg (by decide), if_neg (by decide), if_neg (by decide), if_neg (by decide)]
      exact hI.1.2.2.2.2.2.2.2.2.2.2.2.2
  · refine z_swo (sw_out (N := 8) (by omega) hx) ?_
    refine z_go ?_
    exact z_rq hret (z_vi (show _ = aCount w x from (if_neg hx).symm)) ⟨hI, fun _ _ => rfl⟩
set_option maxRecDepth 10000 in
set_option maxHeartbeats 1000000 in
theorem d6_sumOf0 (n eb : Nat) (M : zM) (w : Rw) (hC : rC w M) : zMet zi_X6_sumOf [.ref 45, .int (nI 0)] (zLay n eb) M (zLay n eb) (zr (some (.int (aCount w (nI 0)))) (fun M' => rC w M' ∧ rSm M M')) := by
  refine z_mr (zk_X6_sumOf _ _) rfl (Nat.le_of_ble_eq_true rfl) rfl (fun ret hret => ?_)
  refine z_cx (d6_runsTold n eb M w hC) (fun M1 h1 => ?_)
  obtain ⟨i1, i2, i3, i4, i5, i6⟩ := h1
  refine z_bt rfl ?_
  refine z_go ?_
  refine z_rq hret (z_vi ?_) ⟨i1, i3⟩
  rw [aCount_y (by omega), aCt, if_pos rfl]
  exact i4
set_option maxRecDepth 10000 in
set_option maxHeartbeats 1000000 in
theorem d6_sumOf1 (n eb : Nat) (M : zM) (w : Rw) (hC : rC w M) : zMet zi_X6_sumOf [.ref 45, .int (nI 1)] (zLay n eb) M (zLay n eb) (zr (some (.int (aCount w (nI 1)))) (fun M' => rC w M' ∧ rSm M M')) := by
  refine z_mr (zk_X6_sumOf _ _) rfl (Nat.le_of_ble_eq_true rfl) rfl (fun ret hret => ?_)
  refine z_cx (d6_runsTold n eb M w hC) (fun M1 h1 => ?_)
  obtain ⟨i1, i2, i3, i4, i5, i6⟩ := h1
  refine z_bf (by decide) ?_
  refine z_go ?_
  refine z_bt rfl ?_
  refine z_go ?_
  refine z_rq hret (z_vi ?_) ⟨i1, i3⟩
  rw [aCount_y (by omega), aCt, if_neg (by decide), if_pos rfl]
  exact i5
set_option maxRecDepth 10000 in
set_option maxHeartbeats 1000000 in
theorem d6_sumOf6 (n eb : Nat) (M : zM) (w : Rw) (hC : rC w M) : zMet zi_X6_sumOf [.ref 45, .int (nI 6)] (zLay n eb) M (zLay n eb) (zr (some (.int (aCount w (nI 6)))) (fun M' => rC w M' ∧ rSm M M')) := by
  refine z_mr (zk_X6_sumOf _ _) rfl (Nat.le_of_ble_eq_true rfl) rfl (fun ret hret => ?_)
  refine z_cx (d6_runsTold n eb M w hC) (fun M1 h1 => ?_)
  obtain ⟨i1, i2, i3, i4, i5, i6⟩ := h1
  refine z_bf (by decide) ?_
  refine z_go ?_
  refine z_bf (by decide) ?_
  refine z_go ?_
  refine z_ca (c6_shortAll n eb M1 (tN w) (tSt w) (tN8 w) i4 (crs_sh i2)) ?_
  refine z_rq hret (z_vi ?_) ⟨i1, i3⟩
  rw [aCount_y (by omega), aCt, if_neg (by decide), if_neg (by decide), if_neg (by decide), if_neg (by decide), if_neg (by decide), if_neg (by decide), if_pos rfl]
  rfl
set_option maxRecDepth 10000 in
set_option maxHeartbeats 1000000 in
theorem e6_count (n eb : Nat) (M : zM) (w : Rw) (hC : rC w M) (x : Int32) : zMet zi_X6_count [.ref 45, .int x] (zLay n eb) M (zLay n eb) (zr (some (.int (aCount w x))) (fun M' => rC w M' ∧ rSm M M')) := by
  refine z_mr (zk_X6_count _ _) rfl (Nat.le_of_ble_eq_true rfl) rfl (fun ret hret => ?_)
  by_cases hx : 0 ≤ x ∧ x ≤ 8
  · obtain ⟨j, hj, rfl⟩ := rg 8 rfl (by omega) hx
    rcases (show j = 0 ∨ j = 1 ∨ j = 2 ∨ j = 3 ∨ j = 4 ∨ j = 5 ∨ j = 6 ∨ j = 7 ∨ j = 8 by omega) with e | e | e | e | e | e | e | e | e
    · subst e
      refine z_swi (k := 0) (t := 52) rfl (by decide) ?_
      refine z_go ?_
      refine z_cx (d6_sumOf0 n eb M w hC) (fun M1 h1 => ?_)
      exact z_rq hret rfl h1
    · subst e
      refine z_swi (k := 1) (t := 52) rfl (by decide) ?_
      refine z_go ?_
      refine z_cx (d6_sumOf1 n eb M w hC) (fun M1 h1 => ?_)
      exact z_rq hret rfl h1
    · subst e
      have hix : nI 2 - 2 = nI 0 := by decide
      
      refine z_swi (k := 2) (t := 58) rfl (by decide) ?_
      refine z_go ?_
      refine And.intro (by show vp_in (nI 2 - 2) 2; rw [hix]; exact z_inN0 (by omega) (by omega)) ?_
      refine z_rq hret (z_vi ?_) ⟨hC, rSm_rf M⟩
      rw [aCount_y (by omega), aCt, if_neg (by decide), if_neg (by decide), if_pos rfl]
      show M 46 (nI 2 - 2).toNatClampNeg = _
      rw [hix, z_cl (by omega)]
      exact hC.2.1.1
    · subst e
      have hix : nI 3 - 2 = nI 1 := by decide
      
      refine z_swi (k := 3) (t := 58) rfl (by decide) ?_
      refine z_go ?_
      refine And.intro (by show vp_in (nI 3 - 2) 2; rw [hix]; exact z_inN0 (by omega) (by omega)) ?_
      refine z_rq hret (z_vi ?_) ⟨hC, rSm_rf M⟩
      rw [aCount_y (by omega), aCt, if_neg (by decide), if_neg (by decide), if_neg (by decide), if_pos rfl]
      show M 46 (nI 3 - 2).toNatClampNeg = _
      rw [hix, z_cl (by omega)]
      exact hC.2.1.2
    · subst e
      refine z_swi (k := 4) (t := 67) rfl (by decide) ?_
      refine z_go ?_
      refine z_rq hret (z_vi ?_) ⟨hC, rSm_rf M⟩
      rw [aCount_y (by omega), aCt, if_neg (by decide), if_neg (by decide), if_neg (by decide), if_neg (by decide), if_pos rfl]
      exact hC.2.2.2.2.2.1.1
    · subst e
      refine z_swi (k := 5) (t := 72) rfl (by decide) ?_
      refine z_go ?_
      refine z_rq hret (z_vi ?_) ⟨hC, rSm_rf M⟩
      rw [aCount_y (by omega), aCt, if_neg (by decide), if_neg (by decide), if_neg (by decide), if_neg (by decide), if_neg (by decide), if_pos rfl]
      exact hC.2.2.2.2.2.1.2.1
    · subst e
      refine z_swi (k := 6) (t := 52) rfl (by decide) ?_
      refine z_go ?_
      refine z_cx (d6_sumOf6 n eb M w hC) (fun M1 h1 => ?_)
      exact z_rq hret rfl h1
    · subst e
      refine z_swi (k := 7) (t := 77) rfl (by decide) ?_
      refine z_go ?_
      refine z_rq hret (z_vi ?_) ⟨hC, rSm_rf M⟩
      rw [aCount_y (by omega), aCt, if_neg (by decide), if_neg (by decide), if_neg (by decide), if_neg (by decide), if_neg (by decide), if_neg (by decide), if_neg (by decide), if_pos rfl]
      exact hC.2.2.2.2.2.1.2.2.1
    · subst e
      refine z_swi (k := 8) (t := 82) rfl (by decide) ?_
      refine z_go ?_
      refine z_rq hret (z_vi ?_) ⟨hC, rSm_rf M⟩
      rw [aCount_y (by omega), aCt, if_neg (by decide), if_neg (by decide), if_neg (by decide), if_neg (by decide), if_neg (by decide), if_neg (by decide), if_neg (by decide), if_neg (by decide)]
      exact hC.2.2.2.2.2.1.2.2.2
  · refine z_swo (sw_out (N := 8) (by omega) hx) ?_
    refine z_go ?_
    exact z_rq hret (z_vi (show _ = aCount w x from (if_neg hx).symm)) ⟨hC, rSm_rf M⟩
