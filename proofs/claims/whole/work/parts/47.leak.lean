/-! set, leak, pinch, back, in both -/
noncomputable section
def stSet (w : Rw) (x y : Int32) : Int32 × Rw := if x = 0 then (if 0 ≤ y ∧ y ≤ 60 then (w.1 0 0, wU w 0 0 y) else (-2, w)) else if x = 1 then (if 1 ≤ y ∧ y ≤ 99 then (w.1 0 1, wU w 0 1 y) else (-2, w)) else if x = 2 then (if 1 ≤ y ∧ y ≤ 9 then (w.1 0 2, wU w 0 2 y) else (-2, w)) else (-2, w)
def stLeak (w : Rw) (x y z : Int32) : Int32 × Rw := if 0 ≤ x ∧ x ≤ 39 then (if 1 ≤ y ∧ y ≤ 9 then (if 0 ≤ z ∧ z ≤ 39 then (if w.2 2 = 6 then (-4, w) else (nI (w.2 2 + 1), wQ (wU (wU (wU w 3 (w.2 2) x) 4 (w.2 2) y) 5 (w.2 2) z) 2 (w.2 2 + 1))) else (-2, w)) else (-2, w)) else (-2, w)
def stPinch (w : Rw) (x y : Int32) : Int32 × Rw := if 0 ≤ x ∧ x ≤ 39 then (if 0 ≤ y ∧ y ≤ 7 then (if w.2 3 = 6 then (-4, w) else (nI (w.2 3 + 1), wQ (wU (wU w 6 (w.2 3) x) 7 (w.2 3) y) 3 (w.2 3 + 1))) else (-2, w)) else (-2, w)
def stBack (w : Rw) (x : Int32) : Int32 × Rw := if 0 ≤ x ∧ x ≤ 1 then (if x = 0 then (if w.2 2 = 0 then (-3, w) else (nI (w.2 2 - 1), wQ w 2 (w.2 2 - 1))) else (if w.2 3 = 0 then (-3, w) else (nI (w.2 3 - 1), wQ w 3 (w.2 3 - 1)))) else (-2, w)
end
set_option maxRecDepth 10000 in
set_option maxHeartbeats 1000000 in
theorem e5_set (n : Nat) (M : zM) (w : Rw) (hI : cI w M) (x y : Int32) : zMet zi_X5_set [.ref 2, .int x, .int y] (zLay n 15) M (zLay n 15) (zr (some (.int (stSet w x y).1)) (cTo (stSet w x y).2 M)) := by
  refine z_mr (zk_X5_set _ _) rfl (Nat.le_of_ble_eq_true rfl) rfl (fun ret hret => ?_)
  obtain ⟨⟨⟨w1, w2, w3, w4, w5⟩, wb, wp, ws, wt⟩, c1, c2, ⟨t1, t2, t3, t4, t5, t6, t7, t8, t9⟩, c4, c5, c6, c7, c8, c9, c10, c11, c12⟩ := hI.1
  by_cases h0 : x = 0
  · subst h0
    by_cases hy : 0 ≤ y ∧ y ≤ 60
    · have hno : stSet w 0 y = (w.1 0 0, wU w 0 0 y) := by unfold stSet; rw [if_pos rfl, if_pos hy]
      rw [hno] at hret
      have hC1 : cC (wU w 0 0 y) (va_up M 7 (upd (M 7) 3 y)) := ⟨⟨⟨w1, w2, w3, w4, w5⟩, wb, wp, ws, wt⟩, c1, c2, ⟨t1, rfl, t3, t4, t5, t6, t7, t8, t9⟩, c4, c5, c6, c7, c8, c9, c10, c11, c12⟩
      refine z_bt rfl ?_
      refine z_ca (z_cv 1 (c5_within _ _ _ _ _ (Nat.le_of_ble_eq_true rfl)) (zb_1 hy)) ?_
      refine z_bf (by decide) ?_
      refine z_go ?_
      refine z_ca (c5_changed n 15 _) ?_
      refine z_rq hret (z_vi t2) ⟨cI_chg hC1, fun p hp => ?_⟩
      rw [z_un (by omega), z_un (by omega), z_un (by omega)]
    · have hno : stSet w 0 y = (-2, w) := by unfold stSet; rw [if_pos rfl, if_neg hy]
      rw [hno] at hret
      refine z_bt rfl ?_
      refine z_ca (z_cv 0 (c5_within _ _ _ _ _ (Nat.le_of_ble_eq_true rfl)) (zb_0 hy)) ?_
      refine z_bt (by decide) ?_
      refine z_go ?_
      refine z_bf (by decide) ?_
      refine z_go ?_
      refine z_bf (by decide) ?_
      refine z_go ?_
      exact z_rq hret rfl ⟨hI, fun _ _ => rfl⟩
  · by_cases h1 : x = 1
    · subst h1
      by_cases hy : 1 ≤ y ∧ y ≤ 99
      · have hno : stSet w 1 y = (w.1 0 1, wU w 0 1 y) := by unfold stSet; rw [if_neg h0, if_pos rfl, if_pos hy]
        rw [hno] at hret
        have hC1 : cC (wU w 0 1 y) (va_up M 7 (upd (M 7) 4 y)) := ⟨⟨⟨w1, w2, w3, w4, w5⟩, wb, wp, ws, wt⟩, c1, c2, ⟨t1, t2, rfl, t4, t5, t6, t7, t8, t9⟩, c4, c5, c6, c7, c8, c9, c10, c11, c12⟩
        refine z_bf h0 ?_
        refine z_go ?_
        refine z_bt rfl ?_
        refine z_ca (z_cv 1 (c5_within _ _ _ _ _ (Nat.le_of_ble_eq_true rfl)) (zb_1 hy)) ?_
        refine z_bf (by decide) ?_
        refine z_go ?_
        refine z_ca (c5_changed n 15 _) ?_
        refine z_rq hret (z_vi t3) ⟨cI_chg hC1, fun p hp => ?_⟩
        rw [z_un (by omega), z_un (by omega), z_un (by omega)]
      · have hno : stSet w 1 y = (-2, w) := by unfold stSet; rw [if_neg h0, if_pos rfl, if_neg hy]
        rw [hno] at hret
        refine z_bf h0 ?_
        refine z_go ?_
        refine z_bt rfl ?_
        refine z_ca (z_cv 0 (c5_within _ _ _ _ _ (Nat.le_of_ble_eq_true rfl)) (zb_0 hy)) ?_
        refine z_bt (by decide) ?_
        refine z_go ?_
        refine z_bf (by decide) ?_
        refine z_go ?_
        exact z_rq hret rfl ⟨hI, fun _ _ => rfl⟩
    · by_cases h2 : x = 2
      · subst h2
        by_cases hy : 1 ≤ y ∧ y ≤ 9
        · have hno : stSet w 2 y = (w.1 0 2, wU w 0 2 y) := by unfold stSet; rw [if_neg h0, if_neg h1, if_pos rfl, if_pos hy]
          rw [hno] at hret
          have hC1 : cC (wU w 0 2 y) (va_up M 7 (upd (M 7) 5 y)) := ⟨⟨⟨w1, w2, w3, w4, w5⟩, wb, wp, ws, wt⟩, c1, c2, ⟨t1, t2, t3, rfl, t5, t6, t7, t8, t9⟩, c4, c5, c6, c7, c8, c9, c10, c11, c12⟩
          refine z_bf h0 ?_
          refine z_go ?_
          refine z_bf h1 ?_
          refine z_go ?_
          refine z_bt rfl ?_
          refine z_ca (z_cv 1 (c5_within _ _ _ _ _ (Nat.le_of_ble_eq_true rfl)) (zb_1 hy)) ?_
          refine z_bf (by decide) ?_
          refine z_go ?_
          refine z_ca (c5_changed n 15 _) ?_
          refine z_rq hret (z_vi t4) ⟨cI_chg hC1, fun p hp => ?_⟩
          rw [z_un (by omega), z_un (by omega), z_un (by omega)]
        · have hno : stSet w 2 y = (-2, w) := by unfold stSet; rw [if_neg h0, if_neg h1, if_pos rfl, if_neg hy]
          rw [hno] at hret
          refine z_bf h0 ?_
          refine z_go ?_
          refine z_bf h1 ?_
          refine z_go ?_
          refine z_bt rfl ?_
          refine z_ca (z_cv 0 (c5_within _ _ _ _ _ (Nat.le_of_ble_eq_true rfl)) (zb_0 hy)) ?_
          refine z_bt (by decide) ?_
          refine z_go ?_
          exact z_rq hret rfl ⟨hI, fun _ _ => rfl⟩
      · have hno : stSet w x y = (-2, w) := by unfold stSet; rw [if_neg h0, if_neg h1, if_neg h2]
        rw [hno] at hret
        refine z_bf h0 ?_
        refine z_go ?_
        refine z_bf h1 ?_
        refine z_go ?_
        refine z_bf h2 ?_
        refine z_go ?_
        exact z_rq hret rfl ⟨hI, fun _ _ => rfl⟩
set_option maxRecDepth 10000 in
set_option maxHeartbeats 1000000 in
theorem e6_set (n eb : Nat) (M : zM) (w : Rw) (hC : rC w M) (x y : Int32) : zMet zi_X6_set [.ref 45, .int x, .int y] (zLay n eb) M (zLay n eb) (zr (some (.int (stSet w x y).1)) (rTo (stSet w x y).2 M)) := by
  refine z_mr (zk_X6_set _ _) rfl (Nat.le_of_ble_eq_true rfl) rfl (fun ret hret => ?_)
  have hC0 := hC
  obtain ⟨⟨⟨w1, w2, w3, w4, w5⟩, wb, wp, ws, wt⟩, c1, c2, c3, c4, ⟨c5, c6, c7, c8⟩, c9, c10, c11⟩ := hC
  by_cases h0 : x = 0
  · subst h0
    by_cases hy : 0 ≤ y ∧ y ≤ 60
    · have hno : stSet w 0 y = (w.1 0 0, wU w 0 0 y) := by unfold stSet; rw [if_pos rfl, if_pos hy]
      rw [hno] at hret
      refine z_ca (z_cv 1 (c6_in _ _ _ _ _ (Nat.le_of_ble_eq_true rfl)) (zb_1 ⟨by decide, by decide⟩)) ?_
      refine z_bf (by decide) ?_
      refine z_bt rfl ?_
      refine z_go ?_
      refine z_bt rfl ?_
      refine z_go ?_
      refine z_ca (z_cv 1 (c6_in _ _ _ _ _ (Nat.le_of_ble_eq_true rfl)) (zb_1 hy)) ?_
      refine z_bf (by decide) ?_
      refine z_go ?_
      refine And.intro (show vp_in (nI 0) 3 from z_inN0 (by omega) (by omega)) ?_
      refine And.intro (show vp_in (nI 0) 3 from z_inN0 (by omega) (by omega)) ?_
      refine z_rq hret (z_vi c4.1) ⟨⟨⟨⟨w1, w2, w3, w4, w5⟩, wb, wp, ws, wt⟩, c1, c2, c3, ⟨rfl, c4.2.1, c4.2.2⟩, ⟨c5, c6, c7, c8⟩, c9, c10, c11⟩, fun p hp => z_un (by omega)⟩
    · have hno : stSet w 0 y = (-2, w) := by unfold stSet; rw [if_pos rfl, if_neg hy]
      rw [hno] at hret
      refine z_ca (z_cv 1 (c6_in _ _ _ _ _ (Nat.le_of_ble_eq_true rfl)) (zb_1 ⟨by decide, by decide⟩)) ?_
      refine z_bf (by decide) ?_
      refine z_bt rfl ?_
      refine z_go ?_
      refine z_bt rfl ?_
      refine z_go ?_
      refine z_ca (z_cv 0 (c6_in _ _ _ _ _ (Nat.le_of_ble_eq_true rfl)) (zb_0 hy)) ?_
      refine z_bt (by decide) ?_
      exact z_rq hret rfl ⟨hC0, fun _ _ => rfl⟩
  · by_cases h1 : x = 1
    · subst h1
      by_cases hy : 1 ≤ y ∧ y ≤ 99
      · have hno : stSet w 1 y = (w.1 0 1, wU w 0 1 y) := by unfold stSet; rw [if_neg h0, if_pos rfl, if_pos hy]
        rw [hno] at hret
        refine z_ca (z_cv 1 (c6_in _ _ _ _ _ (Nat.le_of_ble_eq_true rfl)) (zb_1 ⟨by decide, by decide⟩)) ?_
        refine z_bf (by decide) ?_
        refine z_bf (by decide) ?_
        refine z_go ?_
        refine z_bf (by decide) ?_
        refine z_go ?_
        refine z_bt rfl ?_
        refine z_go ?_
        refine z_ca (z_cv 1 (c6_in _ _ _ _ _ (Nat.le_of_ble_eq_true rfl)) (zb_1 hy)) ?_
        refine z_bf (by decide) ?_
        refine z_go ?_
        refine And.intro (show vp_in (nI 1) 3 from z_inN0 (by omega) (by omega)) ?_
        refine And.intro (show vp_in (nI 1) 3 from z_inN0 (by omega) (by omega)) ?_
        refine z_rq hret (z_vi c4.2.1) ⟨⟨⟨⟨w1, w2, w3, w4, w5⟩, wb, wp, ws, wt⟩, c1, c2, c3, ⟨c4.1, rfl, c4.2.2⟩, ⟨c5, c6, c7, c8⟩, c9, c10, c11⟩, fun p hp => z_un (by omega)⟩
      · have hno : stSet w 1 y = (-2, w) := by unfold stSet; rw [if_neg h0, if_pos rfl, if_neg hy]
        rw [hno] at hret
        refine z_ca (z_cv 1 (c6_in _ _ _ _ _ (Nat.le_of_ble_eq_true rfl)) (zb_1 ⟨by decide, by decide⟩)) ?_
        refine z_bf (by decide) ?_
        refine z_bf (by decide) ?_
        refine z_go ?_
        refine z_bf (by decide) ?_
        refine z_go ?_
        refine z_bt rfl ?_
        refine z_go ?_
        refine z_ca (z_cv 0 (c6_in _ _ _ _ _ (Nat.le_of_ble_eq_true rfl)) (zb_0 hy)) ?_
        refine z_bt (by decide) ?_
        exact z_rq hret rfl ⟨hC0, fun _ _ => rfl⟩
    · by_cases h2 : x = 2
      · subst h2
        by_cases hy : 1 ≤ y ∧ y ≤ 9
        · have hno : stSet w 2 y = (w.1 0 2, wU w 0 2 y) := by unfold stSet; rw [if_neg h0, if_neg h1, if_pos rfl, if_pos hy]
          rw [hno] at hret
          refine z_ca (z_cv 1 (c6_in _ _ _ _ _ (Nat.le_of_ble_eq_true rfl)) (zb_1 ⟨by decide, by decide⟩)) ?_
          refine z_bf (by decide) ?_
          refine z_bf (by decide) ?_
          refine z_go ?_
          refine z_bf (by decide) ?_
          refine z_go ?_
          refine z_bf (by decide) ?_
          refine z_go ?_
          refine z_ca (z_cv 1 (c6_in _ _ _ _ _ (Nat.le_of_ble_eq_true rfl)) (zb_1 hy)) ?_
          refine z_bf (by decide) ?_
          refine z_go ?_
          refine And.intro (show vp_in (nI 2) 3 from z_inN0 (by omega) (by omega)) ?_
          refine And.intro (show vp_in (nI 2) 3 from z_inN0 (by omega) (by omega)) ?_
          refine z_rq hret (z_vi c4.2.2) ⟨⟨⟨⟨w1, w2, w3, w4, w5⟩, wb, wp, ws, wt⟩, c1, c2, c3, ⟨c4.1, c4.2.1, rfl⟩, ⟨c5, c6, c7, c8⟩, c9, c10, c11⟩, fun p hp => z_un (by omega)⟩
        · have hno : stSet w 2 y = (-2, w) := by unfold stSet; rw [if_neg h0, if_neg h1, if_pos rfl, if_neg hy]
          rw [hno] at hret
          refine z_ca (z_cv 1 (c6_in _ _ _ _ _ (Nat.le_of_ble_eq_true rfl)) (zb_1 ⟨by decide, by decide⟩)) ?_
          refine z_bf (by decide) ?_
          refine z_bf (by decide) ?_
          refine z_go ?_
          refine z_bf (by decide) ?_
          refine z_go ?_
          refine z_bf (by decide) ?_
          refine z_go ?_
          refine z_ca (z_cv 0 (c6_in _ _ _ _ _ (Nat.le_of_ble_eq_true rfl)) (zb_0 hy)) ?_
          refine z_bt (by decide) ?_
          exact z_rq hret rfl ⟨hC0, fun _ _ => rfl⟩
      · have hq : ¬ (0 ≤ x ∧ x ≤ 2) := fun q => by
          obtain ⟨j, hj, e⟩ := rg 2 rfl (by omega) q
          rcases (show j = 0 ∨ j = 1 ∨ j = 2 by omega) with r | r | r
          · subst r; exact h0 e
          · subst r; exact h1 e
          · subst r; exact h2 e
        have hno : stSet w x y = (-2, w) := by unfold stSet; rw [if_neg h0, if_neg h1, if_neg h2]
        rw [hno] at hret
        refine z_ca (z_cv 0 (c6_in _ _ _ _ _ (Nat.le_of_ble_eq_true rfl)) (zb_0 hq)) ?_
        refine z_bt (by decide) ?_
        refine z_go ?_
        exact z_rq hret rfl ⟨hC0, fun _ _ => rfl⟩
set_option maxRecDepth 10000 in
set_option maxHeartbeats 1000000 in
theorem c4_addLeak (n eb : Nat) (M : zM) (k : Nat) (x y z : Int32) (hk : k < 6) (h9 : M 7 9 = nI k) : zMet zi_X4_addLeak [.ref 7, .int x, .int y, .int z] (zLay n eb) M (zLay n eb) (zx none (va_up (va_up (va_up (va_up M 16 (upd (M 16) k x)) 17 (upd (M 17) k y)) 18 (upd (M 18) k z)) 7 (upd (M 7) 9 (nI (k + 1))))) := by
  refine z_me (zk_X4_addLeak _ _) rfl (Nat.le_of_ble_eq_true rfl) rfl (fun ret hret => ?_)
  refine z_bf (by show ¬ 6 ≤ M 7 9; rw [h9]; exact nI_ge (a := k) (b := 6) hk (by omega)) ?_
  refine And.intro (by show vp_in (M 7 9) 6; rw [h9]; exact z_inN0 (by omega) (by omega)) ?_
  refine And.intro (by show vp_in (M 7 9) 6; rw [h9]; exact z_inN0 (by omega) (by omega)) ?_
  refine And.intro (by show vp_in (M 7 9) 6; rw [h9]; exact z_inN0 (by omega) (by omega)) ?_
  refine z_re hret rfl ?_
  show va_up (va_up (va_up (va_up M 16 (upd (M 16) (M 7 9).toNatClampNeg x)) 17 (upd (M 17) (M 7 9).toNatClampNeg y)) 18 (upd (M 18) (M 7 9).toNatClampNeg z)) 7 (upd (M 7) 9 (M 7 9 + 1)) = _
  rw [h9, z_cl (by omega), nI_1]
set_option maxRecDepth 10000 in
set_option maxHeartbeats 1000000 in
theorem c4_addPinch (n eb : Nat) (M : zM) (k : Nat) (x y : Int32) (hk : k < 6) (h9 : M 7 13 = nI k) : zMet zi_X4_addPinch [.ref 7, .int x, .int y] (zLay n eb) M (zLay n eb) (zx none (va_up (va_up (va_up M 19 (upd (M 19) k x)) 20 (upd (M 20) k y)) 7 (upd (M 7) 13 (nI (k + 1))))) := by
  refine z_me (zk_X4_addPinch _ _) rfl (Nat.le_of_ble_eq_true rfl) rfl (fun ret hret => ?_)
  refine z_bf (by show ¬ 6 ≤ M 7 13; rw [h9]; exact nI_ge (a := k) (b := 6) hk (by omega)) ?_
  refine And.intro (by show vp_in (M 7 13) 6; rw [h9]; exact z_inN0 (by omega) (by omega)) ?_
  refine And.intro (by show vp_in (M 7 13) 6; rw [h9]; exact z_inN0 (by omega) (by omega)) ?_
  refine z_re hret rfl ?_
  show va_up (va_up (va_up M 19 (upd (M 19) (M 7 13).toNatClampNeg x)) 20 (upd (M 20) (M 7 13).toNatClampNeg y)) 7 (upd (M 7) 13 (M 7 13 + 1)) = _
  rw [h9, z_cl (by omega), nI_1]
set_option maxRecDepth 10000 in
set_option maxHeartbeats 1000000 in
theorem e5_leak (n : Nat) (M : zM) (w : Rw) (hI : cI w M) (x y z : Int32) : zMet zi_X5_leak [.ref 2, .int x, .int y, .int z] (zLay n 15) M (zLay n 15) (zr (some (.int (stLeak w x y z).1)) (cTo (stLeak w x y z).2 M)) := by
  refine z_mr (zk_X5_leak _ _) rfl (Nat.le_of_ble_eq_true rfl) rfl (fun ret hret => ?_)
  obtain ⟨⟨⟨w1, w2, w3, w4, w5⟩, wb, wp, ws, wt⟩, c1, c2, ⟨t1, t2, t3, t4, t5, t6, t7, t8, t9⟩, c4, c5, c6, c7, c8, c9, c10, c11, c12⟩ := hI.1
  by_cases hx : 0 ≤ x ∧ x ≤ 39
  · by_cases hy : 1 ≤ y ∧ y ≤ 9
    · by_cases hz : 0 ≤ z ∧ z ≤ 39
      · by_cases hf : w.2 2 = 6
        · have hno : stLeak w x y z = (-4, w) := by unfold stLeak; rw [if_pos hx, if_pos hy, if_pos hz, if_pos hf]
          rw [hno] at hret
          refine z_ca (z_cv 1 (c5_isHour _ _ _ (Nat.le_of_ble_eq_true rfl)) (zb_1 hx)) ?_
          refine z_bf (by decide) ?_
          refine z_ca (z_cv 1 (c5_within _ _ _ _ _ (Nat.le_of_ble_eq_true rfl)) (zb_1 hy)) ?_
          refine z_bf (by decide) ?_
          refine z_ca (z_cv 1 (c5_isHour _ _ _ (Nat.le_of_ble_eq_true rfl)) (zb_1 hz)) ?_
          refine z_bf (by decide) ?_
          refine z_go ?_
          refine z_bf (by show ¬ M 7 9 < 6; rw [t5, hf]; decide) ?_
          exact z_rq hret rfl ⟨hI, fun _ _ => rfl⟩
        · have hno : stLeak w x y z = (nI (w.2 2 + 1), wQ (wU (wU (wU w 3 (w.2 2) x) 4 (w.2 2) y) 5 (w.2 2) z) 2 (w.2 2 + 1)) := by unfold stLeak; rw [if_pos hx, if_pos hy, if_pos hz, if_neg hf]
          rw [hno] at hret
          have hC1 : cC (wQ (wU (wU (wU w 3 (w.2 2) x) 4 (w.2 2) y) 5 (w.2 2) z) 2 (w.2 2 + 1)) (va_up (va_up (va_up (va_up M 16 (upd (M 16) (w.2 2) x)) 17 (upd (M 17) (w.2 2) y)) 18 (upd (M 18) (w.2 2) z)) 7 (upd (M 7) 9 (nI (w.2 2 + 1)))) := by
            refine ⟨⟨⟨w1, w2, show w.2 2 + 1 ≤ 6 by omega, w4, w5⟩, wb, wp, ws, wt⟩, c1, c2, ⟨t1, t2, t3, t4, rfl, t6, t7, t8, t9⟩, c4, c5, c6, ⟨?_, ?_, ?_, c7.2.2.2⟩, c8, c9, c10, c11, c12⟩
            · show upd (M 16) (w.2 2) x = upd (w.1 3) (w.2 2) x
              rw [c7.1]
            · show upd (M 17) (w.2 2) y = upd (w.1 4) (w.2 2) y
              rw [c7.2.1]
            · show upd (M 18) (w.2 2) z = upd (w.1 5) (w.2 2) z
              rw [c7.2.2.1]
          refine z_ca (z_cv 1 (c5_isHour _ _ _ (Nat.le_of_ble_eq_true rfl)) (zb_1 hx)) ?_
          refine z_bf (by decide) ?_
          refine z_ca (z_cv 1 (c5_within _ _ _ _ _ (Nat.le_of_ble_eq_true rfl)) (zb_1 hy)) ?_
          refine z_bf (by decide) ?_
          refine z_ca (z_cv 1 (c5_isHour _ _ _ (Nat.le_of_ble_eq_true rfl)) (zb_1 hz)) ?_
          refine z_bf (by decide) ?_
          refine z_go ?_
          refine z_bt (by show M 7 9 < 6; rw [t5]; exact nI_lt (a := w.2 2) (b := 6) (by omega) (by omega)) ?_
          refine z_go ?_
          refine z_ca (c4_addLeak n 15 M (w.2 2) x y z (by omega) t5) ?_
          refine z_ca (c5_changed n 15 _) ?_
          refine z_rq hret rfl ⟨cI_chg hC1, fun p hp => ?_⟩
          rw [z_un (by omega), z_un (by omega), z_un (by omega), z_un (by omega), z_un (by omega), z_un (by omega)]
      · have hno : stLeak w x y z = (-2, w) := by unfold stLeak; rw [if_pos hx, if_pos hy, if_neg hz]
        rw [hno] at hret
        refine z_ca (z_cv 1 (c5_isHour _ _ _ (Nat.le_of_ble_eq_true rfl)) (zb_1 hx)) ?_
        refine z_bf (by decide) ?_
        refine z_ca (z_cv 1 (c5_within _ _ _ _ _ (Nat.le_of_ble_eq_true rfl)) (zb_1 hy)) ?_
        refine z_bf (by decide) ?_
        refine z_ca (z_cv 0 (c5_isHour _ _ _ (Nat.le_of_ble_eq_true rfl)) (zb_0 hz)) ?_
        refine z_bt (by decide) ?_
        exact z_rq hret rfl ⟨hI, fun _ _ => rfl⟩
    · have hno : stLeak w x y z = (-2, w) := by unfold stLeak; rw [if_pos hx, if_neg hy]
      rw [hno] at hret
      refine z_ca (z_cv 1 (c5_isHour _ _ _ (Nat.le_of_ble_eq_true rfl)) (zb_1 hx)) ?_
      refine z_bf (by decide) ?_
      refine z_ca (z_cv 0 (c5_within _ _ _ _ _ (Nat.le_of_ble_eq_true rfl)) (zb_0 hy)) ?_
      refine z_bt (by decide) ?_
      refine z_go ?_
      exact z_rq hret rfl ⟨hI, fun _ _ => rfl⟩
  · have hno : stLeak w x y z = (-2, w) := by unfold stLeak; rw [if_neg hx]
    rw [hno] at hret
    refine z_ca (z_cv 0 (c5_isHour _ _ _ (Nat.le_of_ble_eq_true rfl)) (zb_0 hx)) ?_
    refine z_bt (by decide) ?_
    refine z_go ?_
    exact z_rq hret rfl ⟨hI, fun _ _ => rfl⟩
set_option maxRecDepth 10000 in
set_option maxHeartbeats 1000000 in
theorem e6_leak (n eb : Nat) (M : zM) (w : Rw) (hC : rC w M) (x y z : Int32) : zMet zi_X6_leak [.ref 45, .int x, .int y, .int z] (zLay n eb) M (zLay n eb) (zr (some (.int (stLeak w x y z).1)) (rTo (stLeak w x y z).2 M)) := by
  refine z_mr (zk_X6_leak _ _) rfl (Nat.le_of_ble_eq_true rfl) rfl (fun ret hret => ?_)
  have hC0 := hC
  obtain ⟨⟨⟨w1, w2, w3, w4, w5⟩, wb, wp, ws, wt⟩, c1, c2, c3, c4, ⟨c5, c6, c7, c8⟩, c9, c10, c11⟩ := hC
  by_cases hx : 0 ≤ x ∧ x ≤ 39
  · by_cases hy : 1 ≤ y ∧ y ≤ 9
    · by_cases hz : 0 ≤ z ∧ z ≤ 39
      · by_cases hf : w.2 2 = 6
        · have hno : stLeak w x y z = (-4, w) := by unfold stLeak; rw [if_pos hx, if_pos hy, if_pos hz, if_pos hf]
          rw [hno] at hret
          refine z_ca (z_cv 1 (c6_isHour _ _ _ (Nat.le_of_ble_eq_true rfl)) (zb_1 hx)) ?_
          refine z_bf (by decide) ?_
          refine z_ca (z_cv 1 (c6_in _ _ _ _ _ (Nat.le_of_ble_eq_true rfl)) (zb_1 hy)) ?_
          refine z_bf (by decide) ?_
          refine z_ca (z_cv 1 (c6_isHour _ _ _ (Nat.le_of_ble_eq_true rfl)) (zb_1 hz)) ?_
          refine z_bf (by decide) ?_
          refine z_go ?_
          refine z_bt (by show M 45 11 = 6; rw [c5, hf]; rfl) ?_
          exact z_rq hret rfl ⟨hC0, fun _ _ => rfl⟩
        · have hno : stLeak w x y z = (nI (w.2 2 + 1), wQ (wU (wU (wU w 3 (w.2 2) x) 4 (w.2 2) y) 5 (w.2 2) z) 2 (w.2 2 + 1)) := by unfold stLeak; rw [if_pos hx, if_pos hy, if_pos hz, if_neg hf]
          rw [hno] at hret
          have hk : (M 45 11).toNatClampNeg = w.2 2 := by rw [c5]; exact z_cl (by omega)
          refine z_ca (z_cv 1 (c6_isHour _ _ _ (Nat.le_of_ble_eq_true rfl)) (zb_1 hx)) ?_
          refine z_bf (by decide) ?_
          refine z_ca (z_cv 1 (c6_in _ _ _ _ _ (Nat.le_of_ble_eq_true rfl)) (zb_1 hy)) ?_
          refine z_bf (by decide) ?_
          refine z_ca (z_cv 1 (c6_isHour _ _ _ (Nat.le_of_ble_eq_true rfl)) (zb_1 hz)) ?_
          refine z_bf (by decide) ?_
          refine z_go ?_
          refine z_bf (by show ¬ M 45 11 = 6; rw [c5]; exact fun q => hf ((nI_eq (a := w.2 2) (b := 6) (by omega) (by omega)).mp q)) ?_
          refine z_go ?_
          refine And.intro (by show vp_in (M 45 11) 6; rw [c5]; exact z_inN0 (by omega) (by omega)) ?_
          refine And.intro (by show vp_in (M 45 11) 6; rw [c5]; exact z_inN0 (by omega) (by omega)) ?_
          refine And.intro (by show vp_in (M 45 11) 6; rw [c5]; exact z_inN0 (by omega) (by omega)) ?_
          refine z_rq hret (z_vi ?_) ⟨⟨⟨⟨w1, w2, show w.2 2 + 1 ≤ 6 by omega, w4, w5⟩, wb, wp, ws, wt⟩, c1, c2, c3, c4, ⟨?_, c6, c7, c8⟩, ⟨?_, ?_, ?_, c9.2.2.2⟩, c10, c11⟩, fun p hp => ?_⟩
          · show M 45 11 + 1 = _
            rw [c5, nI_1]
          · show M 45 11 + 1 = nI (w.2 2 + 1)
            rw [c5, nI_1]
          · show upd (M 55) (M 45 11).toNatClampNeg x = upd (w.1 3) (w.2 2) x
            rw [hk, c9.1]
          · show upd (M 56) (M 45 11).toNatClampNeg y = upd (w.1 4) (w.2 2) y
            rw [hk, c9.2.1]
          · show upd (M 57) (M 45 11).toNatClampNeg z = upd (w.1 5) (w.2 2) z
            rw [hk, c9.2.2.1]
          · rw [z_un (by omega), z_un (by omega), z_un (by omega), z_un (by omega)]
      · have hno : stLeak w x y z = (-2, w) := by unfold stLeak; rw [if_pos hx, if_pos hy, if_neg hz]
        rw [hno] at hret
        refine z_ca (z_cv 1 (c6_isHour _ _ _ (Nat.le_of_ble_eq_true rfl)) (zb_1 hx)) ?_
        refine z_bf (by decide) ?_
        refine z_ca (z_cv 1 (c6_in _ _ _ _ _ (Nat.le_of_ble_eq_true rfl)) (zb_1 hy)) ?_
        refine z_bf (by decide) ?_
        refine z_ca (z_cv 0 (c6_isHour _ _ _ (Nat.le_of_ble_eq_true rfl)) (zb_0 hz)) ?_
        refine z_bt (by decide) ?_
        exact z_rq hret rfl ⟨hC0, fun _ _ => rfl⟩
    · have hno : stLeak w x y z = (-2, w) := by unfold stLeak; rw [if_pos hx, if_neg hy]
      rw [hno] at hret
      refine z_ca (z_cv 1 (c6_isHour _ _ _ (Nat.le_of_ble_eq_true rfl)) (zb_1 hx)) ?_
      refine z_bf (by decide) ?_
      refine z_ca (z_cv 0 (c6_in _ _ _ _ _ (Nat.le_of_ble_eq_true rfl)) (zb_0 hy)) ?_
      refine z_bt (by decide) ?_
      refine z_go ?_
      exact z_rq hret rfl ⟨hC0, fun _ _ => rfl⟩
  · have hno : stLeak w x y z = (-2, w) := by unfold stLeak; rw [if_neg hx]
    rw [hno] at hret
    refine z_ca (z_cv 0 (c6_isHour _ _ _ (Nat.le_of_ble_eq_true rfl)) (zb_0 hx)) ?_
    refine z_bt (by decide) ?_
    refine z_go ?_
    exact z_rq hret rfl ⟨hC0, fun _ _ => rfl⟩
set_option maxRecDepth 10000 in
set_option maxHeartbeats 1000000 in
theorem c5_mayPinch (x y : Int32) (L : zL) (M : zM) (hL : 2 ≤ L.length) : zMet zi_X5_mayPinch [.int x, .int y] L M L (zx (some (.int (zb ((0 ≤ x ∧ x ≤ 39) ∧ 0 ≤ y ∧ y ≤ 7)))) M) := by
  refine z_me (zk_X5_mayPinch _ _) rfl hL rfl (fun ret hret => ?_)
  by_cases hx : 0 ≤ x ∧ x ≤ 39
  · by_cases hy : 0 ≤ y ∧ y ≤ 7
    · refine z_ca (z_cv 1 (c5_isHour _ _ _ hL) (zb_1 hx)) ?_
      refine z_bf (by decide) ?_
      refine z_ca (z_cv 1 (c5_within _ _ _ _ _ hL) (zb_1 hy)) ?_
      refine z_bf (by decide) ?_
      refine z_go ?_
      exact And.intro rfl (z_re hret (z_vi (zb_1 ⟨hx, hy⟩).symm) rfl)
    · refine z_ca (z_cv 1 (c5_isHour _ _ _ hL) (zb_1 hx)) ?_
      refine z_bf (by decide) ?_
      refine z_ca (z_cv 0 (c5_within _ _ _ _ _ hL) (zb_0 hy)) ?_
      refine z_bt (by decide) ?_
      refine z_go ?_
      exact And.intro rfl (z_re hret (z_vi (zb_0 (fun q => hy q.2)).symm) rfl)
  · refine z_ca (z_cv 0 (c5_isHour _ _ _ hL) (zb_0 hx)) ?_
    refine z_bt (by decide) ?_
    refine z_go ?_
    exact And.intro rfl (z_re hret (z_vi (zb_0 (fun q => hx q.1)).symm) rfl)
set_option maxRecDepth 10000 in
set_option maxHeartbeats 1000000 in
theorem e5_pinch (n : Nat) (M : zM) (w : Rw) (hI : cI w M) (x y : Int32) : zMet zi_X5_pinch [.ref 2, .int x, .int y] (zLay n 15) M (zLay n 15) (zr (some (.int (stPinch w x y).1)) (cTo (stPinch w x y).2 M)) := by
  refine z_mr (zk_X5_pinch _ _) rfl (Nat.le_of_ble_eq_true rfl) rfl (fun ret hret => ?_)
  obtain ⟨⟨⟨w1, w2, w3, w4, w5⟩, wb, wp, ws, wt⟩, c1, c2, ⟨t1, t2, t3, t4, t5, t6, t7, t8, t9⟩, c4, c5, c6, c7, c8, c9, c10, c11, c12⟩ := hI.1
  by_cases hx : 0 ≤ x ∧ x ≤ 39
  · by_cases hy : 0 ≤ y ∧ y ≤ 7
    · by_cases hf : w.2 3 = 6
      · have hno : stPinch w x y = (-4, w) := by unfold stPinch; rw [if_pos hx, if_pos hy, if_pos hf]
        rw [hno] at hret
        refine z_ca (z_cv 1 (c5_mayPinch _ _ _ _ (Nat.le_of_ble_eq_true rfl)) (zb_1 ⟨hx, hy⟩)) ?_
        refine z_bf (by decide) ?_
        refine z_go ?_
        refine z_bf (by show ¬ M 7 13 < 6; rw [t7, hf]; decide) ?_
        exact z_rq hret rfl ⟨hI, fun _ _ => rfl⟩
      · obtain ⟨b, hb, rfl⟩ := rg 7 rfl (by omega) hy
        have hwp : ∀ i, i < w.2 3 + 1 → ∃ q, q < 8 ∧ upd (w.1 7) (w.2 3) (nI b) i = nI q := fun i hi => by
          by_cases e : i = w.2 3
          · subst e; exact ⟨b, by omega, by simp [upd]⟩
          · obtain ⟨q, hq, e2⟩ := wp i (by omega)
            exact ⟨q, hq, by simp only [upd, e, if_false]; exact e2⟩
        have hno : stPinch w x (nI b) = (nI (w.2 3 + 1), wQ (wU (wU w 6 (w.2 3) x) 7 (w.2 3) (nI b)) 3 (w.2 3 + 1)) := by unfold stPinch; rw [if_pos hx, if_pos hy, if_neg hf]
        rw [hno] at hret
        have hC1 : cC (wQ (wU (wU w 6 (w.2 3) x) 7 (w.2 3) (nI b)) 3 (w.2 3 + 1)) (va_up (va_up (va_up M 19 (upd (M 19) (w.2 3) x)) 20 (upd (M 20) (w.2 3) (nI b))) 7 (upd (M 7) 13 (nI (w.2 3 + 1)))) := by
          refine ⟨⟨⟨w1, w2, w3, show w.2 3 + 1 ≤ 6 by omega, w5⟩, wb, hwp, ws, wt⟩, c1, c2, ⟨t1, t2, t3, t4, t5, t6, rfl, t8, t9⟩, c4, c5, c6, ⟨c7.1, c7.2.1, c7.2.2.1, ?_, ?_⟩, c8, c9, c10, c11, c12⟩
          · show upd (M 19) (w.2 3) x = upd (w.1 6) (w.2 3) x
            rw [c7.2.2.2.1]
          · show upd (M 20) (w.2 3) (nI b) = upd (w.1 7) (w.2 3) (nI b)
            rw [c7.2.2.2.2]
        refine z_ca (z_cv 1 (c5_mayPinch _ _ _ _ (Nat.le_of_ble_eq_true rfl)) (zb_1 ⟨hx, hy⟩)) ?_
        refine z_bf (by decide) ?_
        refine z_go ?_
        refine z_bt (by show M 7 13 < 6; rw [t7]; exact nI_lt (a := w.2 3) (b := 6) (by omega) (by omega)) ?_
        refine z_go ?_
        refine z_ca (c4_addPinch n 15 M (w.2 3) x (nI b) (by omega) t7) ?_
        refine z_ca (c5_changed n 15 _) ?_
        refine z_rq hret rfl ⟨cI_chg hC1, fun p hp => ?_⟩
        rw [z_un (by omega), z_un (by omega), z_un (by omega), z_un (by omega), z_un (by omega)]
    · have hno : stPinch w x y = (-2, w) := by unfold stPinch; rw [if_pos hx, if_neg hy]
      rw [hno] at hret
      refine z_ca (z_cv 0 (c5_mayPinch _ _ _ _ (Nat.le_of_ble_eq_true rfl)) (zb_0 (fun q => hy q.2))) ?_
      refine z_bt (by decide) ?_
      exact z_rq hret rfl ⟨hI, fun _ _ => rfl⟩
  · have hno : stPinch w x y = (-2, w) := by unfold stPinch; rw [if_neg hx]
    rw [hno] at hret
    refine z_ca (z_cv 0 (c5_mayPinch _ _ _ _ (Nat.le_of_ble_eq_true rfl)) (zb_0 (fun q => hx q.1))) ?_
    refine z_bt (by decide) ?_
    exact z_rq hret rfl ⟨hI, fun _ _ => rfl⟩
set_option maxRecDepth 10000 in
set_option maxHeartbeats 1000000 in
theorem e6_pinch (n eb : Nat) (M : zM) (w : Rw) (hC : rC w M) (x y : Int32) : zMet zi_X6_pinch [.ref 45, .int x, .int y] (zLay n eb) M (zLay n eb) (zr (some (.int (stPinch w x y).1)) (rTo (stPinch w x y).2 M)) := by
  refine z_mr (zk_X6_pinch _ _) rfl (Nat.le_of_ble_eq_true rfl) rfl (fun ret hret => ?_)
  have hC0 := hC
  obtain ⟨⟨⟨w1, w2, w3, w4, w5⟩, wb, wp, ws, wt⟩, c1, c2, c3, c4, ⟨c5, c6, c7, c8⟩, c9, c10, c11⟩ := hC
  by_cases hx : 0 ≤ x ∧ x ≤ 39
  · by_cases hy : 0 ≤ y ∧ y ≤ 7
    · by_cases hf : w.2 3 = 6
      · have hno : stPinch w x y = (-4, w) := by unfold stPinch; rw [if_pos hx, if_pos hy, if_pos hf]
        rw [hno] at hret
        refine z_ca (z_cv 1 (c6_isHour _ _ _ (Nat.le_of_ble_eq_true rfl)) (zb_1 hx)) ?_
        refine z_bf (by decide) ?_
        refine z_ca (z_cv 1 (c6_in _ _ _ _ _ (Nat.le_of_ble_eq_true rfl)) (zb_1 hy)) ?_
        refine z_bf (by decide) ?_
        refine z_go ?_
        refine z_bt (by show M 45 15 = 6; rw [c6, hf]; rfl) ?_
        exact z_rq hret rfl ⟨hC0, fun _ _ => rfl⟩
      · obtain ⟨b, hb, rfl⟩ := rg 7 rfl (by omega) hy
        have hwp : ∀ i, i < w.2 3 + 1 → ∃ q, q < 8 ∧ upd (w.1 7) (w.2 3) (nI b) i = nI q := fun i hi => by
          by_cases e : i = w.2 3
          · subst e; exact ⟨b, by omega, by simp [upd]⟩
          · obtain ⟨q, hq, e2⟩ := wp i (by omega)
            exact ⟨q, hq, by simp only [upd, e, if_false]; exact e2⟩
        have hno : stPinch w x (nI b) = (nI (w.2 3 + 1), wQ (wU (wU w 6 (w.2 3) x) 7 (w.2 3) (nI b)) 3 (w.2 3 + 1)) := by unfold stPinch; rw [if_pos hx, if_pos hy, if_neg hf]
        rw [hno] at hret
        have hk : (M 45 15).toNatClampNeg = w.2 3 := by rw [c6]; exact z_cl (by omega)
        refine z_ca (z_cv 1 (c6_isHour _ _ _ (Nat.le_of_ble_eq_true rfl)) (zb_1 hx)) ?_
        refine z_bf (by decide) ?_
        refine z_ca (z_cv 1 (c6_in _ _ _ _ _ (Nat.le_of_ble_eq_true rfl)) (zb_1 hy)) ?_
        refine z_bf (by decide) ?_
        refine z_go ?_
        refine z_bf (by show ¬ M 45 15 = 6; rw [c6]; exact fun q => hf ((nI_eq (a := w.2 3) (b := 6) (by omega) (by omega)).mp q)) ?_
        refine z_go ?_
        refine And.intro (by show vp_in (M 45 15) 6; rw [c6]; exact z_inN0 (by omega) (by omega)) ?_
        refine And.intro (by show vp_in (M 45 15) 6; rw [c6]; exact z_inN0 (by omega) (by omega)) ?_
        refine z_rq hret (z_vi ?_) ⟨⟨⟨⟨w1, w2, w3, show w.2 3 + 1 ≤ 6 by omega, w5⟩, wb, hwp, ws, wt⟩, c1, c2, c3, c4, ⟨c5, ?_, c7, c8⟩, ⟨c9.1, c9.2.1, c9.2.2.1, ?_, ?_⟩, c10, c11⟩, fun p hp => ?_⟩
        · show M 45 15 + 1 = _
          rw [c6, nI_1]
        · show M 45 15 + 1 = nI (w.2 3 + 1)
          rw [c6, nI_1]
        · show upd (M 58) (M 45 15).toNatClampNeg x = upd (w.1 6) (w.2 3) x
          rw [hk, c9.2.2.2.1]
        · show upd (M 59) (M 45 15).toNatClampNeg (nI b) = upd (w.1 7) (w.2 3) (nI b)
          rw [hk, c9.2.2.2.2]
        · rw [z_un (by omega), z_un (by omega), z_un (by omega)]
    · have hno : stPinch w x y = (-2, w) := by unfold stPinch; rw [if_pos hx, if_neg hy]
      rw [hno] at hret
      refine z_ca (z_cv 1 (c6_isHour _ _ _ (Nat.le_of_ble_eq_true rfl)) (zb_1 hx)) ?_
      refine z_bf (by decide) ?_
      refine z_ca (z_cv 0 (c6_in _ _ _ _ _ (Nat.le_of_ble_eq_true rfl)) (zb_0 hy)) ?_
      refine z_bt (by decide) ?_
      exact z_rq hret rfl ⟨hC0, fun _ _ => rfl⟩
  · have hno : stPinch w x y = (-2, w) := by unfold stPinch; rw [if_neg hx]
    rw [hno] at hret
    refine z_ca (z_cv 0 (c6_isHour _ _ _ (Nat.le_of_ble_eq_true rfl)) (zb_0 hx)) ?_
    refine z_bt (by decide) ?_
    refine z_go ?_
    exact z_rq hret rfl ⟨hC0, fun _ _ => rfl⟩
set_option maxRecDepth 10000 in
set_option maxHeartbeats 1000000 in
theorem e5_back (n : Nat) (M : zM) (w : Rw) (hI : cI w M) (x : Int32) : zMet zi_X5_back [.ref 2, .int x] (zLay n 15) M (zLay n 15) (zr (some (.int (stBack w x).1)) (cTo (stBack w x).2 M)) := by
  refine z_mr (zk_X5_back _ _) rfl (Nat.le_of_ble_eq_true rfl) rfl (fun ret hret => ?_)
  obtain ⟨⟨⟨w1, w2, w3, w4, w5⟩, wb, wp, ws, wt⟩, c1, c2, ⟨t1, t2, t3, t4, t5, t6, t7, t8, t9⟩, c4, c5, c6, c7, c8, c9, c10, c11, c12⟩ := hI.1
  by_cases hx : 0 ≤ x ∧ x ≤ 1
  · by_cases h0 : x = 0
    · subst h0
      by_cases hz : w.2 2 = 0
      · have hno : stBack w 0 = (-3, w) := by unfold stBack; rw [if_pos hx, if_pos rfl, if_pos hz]
        rw [hno] at hret
        refine z_ca (z_cv 1 (c5_within _ _ _ _ _ (Nat.le_of_ble_eq_true rfl)) (zb_1 hx)) ?_
        refine z_bf (by decide) ?_
        refine z_go ?_
        refine z_bt rfl ?_
        refine z_go ?_
        refine z_bt (by show M 7 9 = 0; rw [t5, hz]; rfl) ?_
        exact z_rq hret rfl ⟨hI, fun _ _ => rfl⟩
      · have hno : stBack w 0 = (nI (w.2 2 - 1), wQ w 2 (w.2 2 - 1)) := by unfold stBack; rw [if_pos hx, if_pos rfl, if_neg hz]
        rw [hno] at hret
        have hm : M 7 9 - 1 = nI (w.2 2 - 1) := by rw [t5]; exact pk_sub (a := w.2 2) (b := 1) (by omega)
        have hC1 : cC (wQ w 2 (w.2 2 - 1)) (va_up M 7 (upd (M 7) 9 (M 7 9 - 1))) := ⟨⟨⟨w1, w2, show w.2 2 - 1 ≤ 6 by omega, w4, w5⟩, wb, wp, ws, wt⟩, c1, c2, ⟨t1, t2, t3, t4, hm, t6, t7, t8, t9⟩, c4, c5, c6, c7, c8, c9, c10, c11, c12⟩
        refine z_ca (z_cv 1 (c5_within _ _ _ _ _ (Nat.le_of_ble_eq_true rfl)) (zb_1 hx)) ?_
        refine z_bf (by decide) ?_
        refine z_go ?_
        refine z_bt rfl ?_
        refine z_go ?_
        refine z_bf (by show ¬ M 7 9 = 0; rw [t5]; exact fun q => hz ((nI_eq (a := w.2 2) (b := 0) (by omega) (by omega)).mp q)) ?_
        refine z_go ?_
        refine z_bt rfl ?_
        refine z_go ?_
        refine z_ca (c5_changed n 15 _) ?_
        refine z_rq hret (z_vi hm) ⟨cI_chg hC1, fun p hp => ?_⟩
        rw [z_un (by omega), z_un (by omega), z_un (by omega)]
    · have e1 : x = 1 := by obtain ⟨j, hj, e⟩ := rg 1 rfl (by omega) hx; rcases (show j = 0 ∨ j = 1 by omega) with q | q <;> subst q <;> first | exact e | exact absurd e h0
      subst e1
      by_cases hz : w.2 3 = 0
      · have hno : stBack w 1 = (-3, w) := by unfold stBack; rw [if_pos hx, if_neg h0, if_pos hz]
        rw [hno] at hret
        refine z_ca (z_cv 1 (c5_within _ _ _ _ _ (Nat.le_of_ble_eq_true rfl)) (zb_1 hx)) ?_
        refine z_bf (by decide) ?_
        refine z_go ?_
        refine z_bf (by decide) ?_
        refine z_go ?_
        refine z_bt (by show M 7 13 = 0; rw [t7, hz]; rfl) ?_
        exact z_rq hret rfl ⟨hI, fun _ _ => rfl⟩
      · have hno : stBack w 1 = (nI (w.2 3 - 1), wQ w 3 (w.2 3 - 1)) := by unfold stBack; rw [if_pos hx, if_neg h0, if_neg hz]
        rw [hno] at hret
        have hm : M 7 13 - 1 = nI (w.2 3 - 1) := by rw [t7]; exact pk_sub (a := w.2 3) (b := 1) (by omega)
        have hC1 : cC (wQ w 3 (w.2 3 - 1)) (va_up M 7 (upd (M 7) 13 (M 7 13 - 1))) := ⟨⟨⟨w1, w2, w3, show w.2 3 - 1 ≤ 6 by omega, w5⟩, wb, fun i hi => wp i (by have hi' : i < w.2 3 - 1 := hi; omega), ws, wt⟩, c1, c2, ⟨t1, t2, t3, t4, t5, t6, hm, t8, t9⟩, c4, c5, c6, c7, c8, c9, c10, c11, c12⟩
        refine z_ca (z_cv 1 (c5_within _ _ _ _ _ (Nat.le_of_ble_eq_true rfl)) (zb_1 hx)) ?_
        refine z_bf (by decide) ?_
        refine z_go ?_
        refine z_bf (by decide) ?_
        refine z_go ?_
        refine z_bf (by show ¬ M 7 13 = 0; rw [t7]; exact fun q => hz ((nI_eq (a := w.2 3) (b := 0) (by omega) (by omega)).mp q)) ?_
        refine z_go ?_
        refine z_bf (by decide) ?_
        refine z_go ?_
        refine z_ca (c5_changed n 15 _) ?_
        refine z_rq hret (z_vi hm) ⟨cI_chg hC1, fun p hp => ?_⟩
        rw [z_un (by omega), z_un (by omega), z_un (by omega)]
  · have hno : stBack w x = (-2, w) := by unfold stBack; rw [if_neg hx]
    rw [hno] at hret
    refine z_ca (z_cv 0 (c5_within _ _ _ _ _ (Nat.le_of_ble_eq_true rfl)) (zb_0 hx)) ?_
    refine z_bt (by decide) ?_
    exact z_rq hret rfl ⟨hI, fun _ _ => rfl⟩
set_option maxRecDepth 10000 in
set_option maxHeartbeats 1000000 in
theorem e6_back (n eb : Nat) (M : zM) (w : Rw) (hC : rC w M) (x : Int32) : zMet zi_X6_back [.ref 45, .int x] (zLay n eb) M (zLay n eb) (zr (some (.int (stBack w x).1)) (rTo (stBack w x).2 M)) := by
  refine z_mr (zk_X6_back _ _) rfl (Nat.le_of_ble_eq_true rfl) rfl (fun ret hret => ?_)
  have hC0 := hC
  obtain ⟨⟨⟨w1, w2, w3, w4, w5⟩, wb, wp, ws, wt⟩, c1, c2, c3, c4, ⟨c5, c6, c7, c8⟩, c9, c10, c11⟩ := hC
  by_cases hx : 0 ≤ x ∧ x ≤ 1
  · by_cases h0 : x = 0
    · subst h0
      by_cases hz : w.2 2 = 0
      · have hno : stBack w 0 = (-3, w) := by unfold stBack; rw [if_pos hx, if_pos rfl, if_pos hz]
        rw [hno] at hret
        refine z_ca (z_cv 1 (c6_in _ _ _ _ _ (Nat.le_of_ble_eq_true rfl)) (zb_1 hx)) ?_
        refine z_bf (by decide) ?_
        refine z_go ?_
        refine z_bt rfl ?_
        refine z_go ?_
        refine z_bt (by show M 45 11 = 0; rw [c5, hz]; rfl) ?_
        exact z_rq hret rfl ⟨hC0, fun _ _ => rfl⟩
      · have hno : stBack w 0 = (nI (w.2 2 - 1), wQ w 2 (w.2 2 - 1)) := by unfold stBack; rw [if_pos hx, if_pos rfl, if_neg hz]
        rw [hno] at hret
        have hm : M 45 11 - 1 = nI (w.2 2 - 1) := by rw [c5]; exact pk_sub (a := w.2 2) (b := 1) (by omega)
        refine z_ca (z_cv 1 (c6_in _ _ _ _ _ (Nat.le_of_ble_eq_true rfl)) (zb_1 hx)) ?_
        refine z_bf (by decide) ?_
        refine z_go ?_
        refine z_bt rfl ?_
        refine z_go ?_
        refine z_bf (by show ¬ M 45 11 = 0; rw [c5]; exact fun q => hz ((nI_eq (a := w.2 2) (b := 0) (by omega) (by omega)).mp q)) ?_
        refine z_go ?_
        refine z_bt rfl ?_
        refine z_go ?_
        refine z_bf (by decide) ?_
        refine z_go ?_
        refine z_rq hret (z_vi hm) ⟨⟨⟨⟨w1, w2, show w.2 2 - 1 ≤ 6 by omega, w4, w5⟩, wb, wp, ws, wt⟩, c1, c2, c3, c4, ⟨hm, show M 45 15 - 0 = _ by rw [Int32.sub_zero]; exact c6, c7, c8⟩, c9, c10, c11⟩, fun p hp => ?_⟩
        rw [z_un (by omega), z_un (by omega)]
    · have e1 : x = 1 := by obtain ⟨j, hj, e⟩ := rg 1 rfl (by omega) hx; rcases (show j = 0 ∨ j = 1 by omega) with q | q <;> subst q <;> first | exact e | exact absurd e h0
      subst e1
      by_cases hz : w.2 3 = 0
      · have hno : stBack w 1 = (-3, w) := by unfold stBack; rw [if_pos hx, if_neg h0, if_pos hz]
        rw [hno] at hret
        refine z_ca (z_cv 1 (c6_in _ _ _ _ _ (Nat.le_of_ble_eq_true rfl)) (zb_1 hx)) ?_
        refine z_bf (by decide) ?_
        refine z_go ?_
        refine z_bf (by decide) ?_
        refine z_go ?_
        refine z_bt (by show M 45 15 = 0; rw [c6, hz]; rfl) ?_
        exact z_rq hret rfl ⟨hC0, fun _ _ => rfl⟩
      · have hno : stBack w 1 = (nI (w.2 3 - 1), wQ w 3 (w.2 3 - 1)) := by unfold stBack; rw [if_pos hx, if_neg h0, if_neg hz]
        rw [hno] at hret
        have hm : M 45 15 - 1 = nI (w.2 3 - 1) := by rw [c6]; exact pk_sub (a := w.2 3) (b := 1) (by omega)
        refine z_ca (z_cv 1 (c6_in _ _ _ _ _ (Nat.le_of_ble_eq_true rfl)) (zb_1 hx)) ?_
        refine z_bf (by decide) ?_
        refine z_go ?_
        refine z_bf (by decide) ?_
        refine z_go ?_
        refine z_bf (by show ¬ M 45 15 = 0; rw [c6]; exact fun q => hz ((nI_eq (a := w.2 3) (b := 0) (by omega) (by omega)).mp q)) ?_
        refine z_go ?_
        refine z_bf (by decide) ?_
        refine z_go ?_
        refine z_bt rfl ?_
        refine z_go ?_
        refine z_rq hret (z_vi hm) ⟨⟨⟨⟨w1, w2, w3, show w.2 3 - 1 ≤ 6 by omega, w5⟩, wb, fun i hi => wp i (by have hi' : i < w.2 3 - 1 := hi; omega), ws, wt⟩, c1, c2, c3, c4, ⟨show M 45 11 - 0 = _ by rw [Int32.sub_zero]; exact c5, hm, c7, c8⟩, c9, c10, c11⟩, fun p hp => ?_⟩
        rw [z_un (by omega), z_un (by omega)]
  · have hno : stBack w x = (-2, w) := by unfold stBack; rw [if_neg hx]
    rw [hno] at hret
    refine z_ca (z_cv 0 (c6_in _ _ _ _ _ (Nat.le_of_ble_eq_true rfl)) (zb_0 hx)) ?_
    refine z_bt (by decide) ?_
    exact z_rq hret rfl ⟨hC0, fun _ _ => rfl⟩
