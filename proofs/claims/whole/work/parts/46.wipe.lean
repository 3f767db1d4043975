/-! wipe, undo, in both -/
set_option maxRecDepth 10000 in
set_option maxHeartbeats 1000000 in
theorem e5_wipe (n : Nat) (M : zM) (w : Rw) (hI : cI w M) (x : Int32) : zMet zi_X5_wipe [.ref 2, .int x] (zLay n 15) M (zLay n 15) (zr (some (.int (stWipe w x).1)) (cTo (stWipe w x).2 M)) := by
  refine z_mr (zk_X5_wipe _ _) rfl (Nat.le_of_ble_eq_true rfl) rfl (fun ret hret => ?_)
  obtain ⟨⟨⟨w1, w2, w3, w4, w5⟩, wb, wp, ws, wt⟩, c1, c2, c3, c4, c5, c6, c7, c8, c9, c10, c11, c12⟩ := hI.1
  by_cases hx : 0 ≤ x ∧ x ≤ 1
  · by_cases h0 : x = 0
    · subst h0
      · have hno : stWipe w 0 = (nI (w.2 0), wQ w 0 0) := by unfold stWipe; rw [if_pos hx, if_pos rfl]
        rw [hno] at hret
        have hR : cRaw (wQ w 0 0) (va_up M 3 (upd (M 3) 2 (nI 0))) := ⟨⟨⟨show 0 ≤ 55 by omega, w2, w3, w4, w5⟩, rBy_le wb (show 0 ≤ w.2 0 by omega), wp, ws, wt⟩, ⟨c1.1, rfl, c1.2.2.2⟩, ⟨c2.1, c2.2.1, c2.2.2.2⟩, c3.2, c7, c8, c9, c10, c11, c12⟩
        refine z_ca (z_cv 1 (c5_within _ _ _ _ _ (Nat.le_of_ble_eq_true rfl)) (zb_1 hx)) ?_
        refine z_bf (by decide) ?_
        refine z_go ?_
        refine z_ca (c5_textOf0 n 15 M) ?_
        refine z_cx (d5_readTexts n _ _ hR) (fun M1 h1 => ?_)
        refine z_rq hret (z_vi ?_) ⟨h1.1, fun p hp => ?_⟩
        · exact c1.2.1
        · rw [h1.2 p hp, z_un (by omega)]
    · have e1 : x = 1 := by obtain ⟨j, hj, e⟩ := rg 1 rfl (by omega) hx; rcases (show j = 0 ∨ j = 1 by omega) with q | q <;> subst q <;> first | exact e | exact absurd e h0
      subst e1
      · have hno : stWipe w 1 = (nI (w.2 1), wQ w 1 0) := by unfold stWipe; rw [if_pos hx, if_neg h0]
        rw [hno] at hret
        have hR : cRaw (wQ w 1 0) (va_up M 5 (upd (M 5) 2 (nI 0))) := ⟨⟨⟨w1, show 0 ≤ 40 by omega, w3, w4, w5⟩, wb, wp, ws, wt⟩, ⟨c1.1, c1.2.1, c1.2.2.2⟩, ⟨c2.1, rfl, c2.2.2.2⟩, c3.2, c7, c8, c9, c10, c11, c12⟩
        refine z_ca (z_cv 1 (c5_within _ _ _ _ _ (Nat.le_of_ble_eq_true rfl)) (zb_1 hx)) ?_
        refine z_bf (by decide) ?_
        refine z_go ?_
        refine z_ca (c5_textOf1 n 15 M 1 h0) ?_
        refine z_cx (d5_readTexts n _ _ hR) (fun M1 h1 => ?_)
        refine z_rq hret (z_vi ?_) ⟨h1.1, fun p hp => ?_⟩
        · exact c2.2.1
        · rw [h1.2 p hp, z_un (by omega)]
  · have hno : stWipe w x = (-2, w) := by unfold stWipe; rw [if_neg hx]
    rw [hno] at hret
    refine z_ca (z_cv 0 (c5_within _ _ _ _ _ (Nat.le_of_ble_eq_true rfl)) (zb_0 hx)) ?_
    refine z_bt (by decide) ?_
    exact z_rq hret rfl ⟨hI, fun _ _ => rfl⟩
set_option maxRecDepth 10000 in
set_option maxHeartbeats 1000000 in
theorem e6_wipe (n eb : Nat) (M : zM) (w : Rw) (hC : rC w M) (x : Int32) : zMet zi_X6_wipe [.ref 45, .int x] (zLay n eb) M (zLay n eb) (zr (some (.int (stWipe w x).1)) (rTo (stWipe w x).2 M)) := by
  refine z_mr (zk_X6_wipe _ _) rfl (Nat.le_of_ble_eq_true rfl) rfl (fun ret hret => ?_)
  have hC0 := hC
  obtain ⟨⟨⟨w1, w2, w3, w4, w5⟩, wb, wp, ws, wt⟩, c1, c2, c3, c4, ⟨c5, c6, c7, c8⟩, c9, c10, c11⟩ := hC
  by_cases hx : 0 ≤ x ∧ x ≤ 1
  · by_cases h0 : x = 0
    · subst h0
      · have hcl : (0 : Int32).toNatClampNeg = 0 := rfl
        have hno : stWipe w 0 = (nI (w.2 0), wQ w 0 0) := by unfold stWipe; rw [if_pos hx, if_pos rfl]
        rw [hno] at hret
        refine z_ca (z_cv 1 (c6_isText _ _ _ (Nat.le_of_ble_eq_true rfl)) (zb_1 hx)) ?_
        refine z_bf (by decide) ?_
        refine z_go ?_
        refine And.intro (show vp_in (nI 0) 2 from z_inN0 (by omega) (by omega)) ?_
        refine And.intro (show vp_in (nI 0) 2 from z_inN0 (by omega) (by omega)) ?_
        refine z_rq hret (z_vi ?_) ⟨⟨⟨⟨show 0 ≤ 55 by omega, w2, w3, w4, w5⟩, rBy_le wb (show 0 ≤ w.2 0 by omega), wp, ws, wt⟩, ⟨?_, c1.2⟩, c2, c3, c4, ⟨c5, c6, c7, c8⟩, c9, c10, c11⟩, fun p hp => ?_⟩
        · show M 46 (0 : Int32).toNatClampNeg = nI (w.2 0)
          rw [hcl]; exact c1.1
        · rfl
        · rw [z_un (by omega)]
    · have e1 : x = 1 := by obtain ⟨j, hj, e⟩ := rg 1 rfl (by omega) hx; rcases (show j = 0 ∨ j = 1 by omega) with q | q <;> subst q <;> first | exact e | exact absurd e h0
      subst e1
      · have hcl : (1 : Int32).toNatClampNeg = 1 := rfl
        have hno : stWipe w 1 = (nI (w.2 1), wQ w 1 0) := by unfold stWipe; rw [if_pos hx, if_neg h0]
        rw [hno] at hret
        refine z_ca (z_cv 1 (c6_isText _ _ _ (Nat.le_of_ble_eq_true rfl)) (zb_1 hx)) ?_
        refine z_bf (by decide) ?_
        refine z_go ?_
        refine And.intro (show vp_in (nI 1) 2 from z_inN0 (by omega) (by omega)) ?_
        refine And.intro (show vp_in (nI 1) 2 from z_inN0 (by omega) (by omega)) ?_
        refine z_rq hret (z_vi ?_) ⟨⟨⟨⟨w1, show 0 ≤ 40 by omega, w3, w4, w5⟩, wb, wp, ws, wt⟩, ⟨c1.1, ?_⟩, c2, c3, c4, ⟨c5, c6, c7, c8⟩, c9, c10, c11⟩, fun p hp => ?_⟩
        · show M 46 (1 : Int32).toNatClampNeg = nI (w.2 1)
          rw [hcl]; exact c1.2
        · rfl
        · rw [z_un (by omega)]
  · have hno : stWipe w x = (-2, w) := by unfold stWipe; rw [if_neg hx]
    rw [hno] at hret
    refine z_ca (z_cv 0 (c6_isText _ _ _ (Nat.le_of_ble_eq_true rfl)) (zb_0 hx)) ?_
    refine z_bt (by decide) ?_
    exact z_rq hret rfl ⟨hC0, fun _ _ => rfl⟩
set_option maxRecDepth 10000 in
set_option maxHeartbeats 1000000 in
theorem e5_undo (n : Nat) (M : zM) (w : Rw) (hI : cI w M) (x : Int32) : zMet zi_X5_undo [.ref 2, .int x] (zLay n 15) M (zLay n 15) (zr (some (.int (stUndo w x).1)) (cTo (stUndo w x).2 M)) := by
  refine z_mr (zk_X5_undo _ _) rfl (Nat.le_of_ble_eq_true rfl) rfl (fun ret hret => ?_)
  obtain ⟨⟨⟨w1, w2, w3, w4, w5⟩, wb, wp, ws, wt⟩, c1, c2, c3, c4, c5, c6, c7, c8, c9, c10, c11, c12⟩ := hI.1
  by_cases hx : 0 ≤ x ∧ x ≤ 1
  · by_cases h0 : x = 0
    · subst h0
      by_cases hz : w.2 0 = 0
      · have hno : stUndo w 0 = (-3, w) := by unfold stUndo; rw [if_pos hx, if_pos rfl, if_pos hz]
        rw [hno] at hret
        refine z_ca (z_cv 1 (c5_within _ _ _ _ _ (Nat.le_of_ble_eq_true rfl)) (zb_1 hx)) ?_
        refine z_bf (by decide) ?_
        refine z_go ?_
        refine z_ca (c5_textOf0 n 15 M) ?_
        refine z_bt (by show M 3 2 = 0; rw [c1.2.1, hz]; rfl) ?_
        exact z_rq hret rfl ⟨hI, fun _ _ => rfl⟩
      · have hno : stUndo w 0 = (nI (w.2 0 - 1), wQ w 0 (w.2 0 - 1)) := by unfold stUndo; rw [if_pos hx, if_pos rfl, if_neg hz]
        rw [hno] at hret
        have hm : M 3 2 - 1 = nI (w.2 0 - 1) := by rw [c1.2.1]; exact pk_sub (a := w.2 0) (b := 1) (by omega)
        have hR : cRaw (wQ w 0 (w.2 0 - 1)) (va_up M 3 (upd (M 3) 2 (nI (w.2 0 - 1)))) := ⟨⟨⟨show (w.2 0 - 1) ≤ 55 by omega, w2, w3, w4, w5⟩, rBy_le wb (show (w.2 0 - 1) ≤ w.2 0 by omega), wp, ws, wt⟩, ⟨c1.1, rfl, c1.2.2.2⟩, ⟨c2.1, c2.2.1, c2.2.2.2⟩, c3.2, c7, c8, c9, c10, c11, c12⟩
        refine z_ca (z_cv 1 (c5_within _ _ _ _ _ (Nat.le_of_ble_eq_true rfl)) (zb_1 hx)) ?_
        refine z_bf (by decide) ?_
        refine z_go ?_
        refine z_ca (c5_textOf0 n 15 M) ?_
        refine z_bf (by show ¬ M 3 2 = 0; rw [c1.2.1]; exact fun q => hz ((nI_eq (a := w.2 0) (b := 0) (by omega) (by omega)).mp q)) ?_
        refine z_go ?_
        refine z_cx (d5_readTexts n (va_up M 3 (upd (M 3) 2 (M 3 2 - 1))) _ (by rw [hm]; exact hR)) (fun M1 h1 => ?_)
        refine z_rq hret (z_vi ?_) ⟨h1.1, fun p hp => ?_⟩
        · exact h1.1.1.2.1.2.1
        · rw [h1.2 p hp, z_un (by omega)]
    · have e1 : x = 1 := by obtain ⟨j, hj, e⟩ := rg 1 rfl (by omega) hx; rcases (show j = 0 ∨ j = 1 by omega) with q | q <;> subst q <;> first | exact e | exact absurd e h0
      subst e1
      by_cases hz : w.2 1 = 0
      · have hno : stUndo w 1 = (-3, w) := by unfold stUndo; rw [if_pos hx, if_neg h0, if_pos hz]
        rw [hno] at hret
        refine z_ca (z_cv 1 (c5_within _ _ _ _ _ (Nat.le_of_ble_eq_true rfl)) (zb_1 hx)) ?_
        refine z_bf (by decide) ?_
        refine z_go ?_
        refine z_ca (c5_textOf1 n 15 M 1 h0) ?_
        refine z_bt (by show M 5 2 = 0; rw [c2.2.1, hz]; rfl) ?_
        exact z_rq hret rfl ⟨hI, fun _ _ => rfl⟩
      · have hno : stUndo w 1 = (nI (w.2 1 - 1), wQ w 1 (w.2 1 - 1)) := by unfold stUndo; rw [if_pos hx, if_neg h0, if_neg hz]
        rw [hno] at hret
        have hm : M 5 2 - 1 = nI (w.2 1 - 1) := by rw [c2.2.1]; exact pk_sub (a := w.2 1) (b := 1) (by omega)
        have hR : cRaw (wQ w 1 (w.2 1 - 1)) (va_up M 5 (upd (M 5) 2 (nI (w.2 1 - 1)))) := ⟨⟨⟨w1, show (w.2 1 - 1) ≤ 40 by omega, w3, w4, w5⟩, wb, wp, ws, wt⟩, ⟨c1.1, c1.2.1, c1.2.2.2⟩, ⟨c2.1, rfl, c2.2.2.2⟩, c3.2, c7, c8, c9, c10, c11, c12⟩
        refine z_ca (z_cv 1 (c5_within _ _ _ _ _ (Nat.le_of_ble_eq_true rfl)) (zb_1 hx)) ?_
        refine z_bf (by decide) ?_
        refine z_go ?_
        refine z_ca (c5_textOf1 n 15 M 1 h0) ?_
        refine z_bf (by show ¬ M 5 2 = 0; rw [c2.2.1]; exact fun q => hz ((nI_eq (a := w.2 1) (b := 0) (by omega) (by omega)).mp q)) ?_
        refine z_go ?_
        refine z_cx (d5_readTexts n (va_up M 5 (upd (M 5) 2 (M 5 2 - 1))) _ (by rw [hm]; exact hR)) (fun M1 h1 => ?_)
        refine z_rq hret (z_vi ?_) ⟨h1.1, fun p hp => ?_⟩
        · exact h1.1.1.2.2.1.2.1
        · rw [h1.2 p hp, z_un (by omega)]
  · have hno : stUndo w x = (-2, w) := by unfold stUndo; rw [if_neg hx]
    rw [hno] at hret
    refine z_ca (z_cv 0 (c5_within _ _ _ _ _ (Nat.le_of_ble_eq_true rfl)) (zb_0 hx)) ?_
    refine z_bt (by decide) ?_
    exact z_rq hret rfl ⟨hI, fun _ _ => rfl⟩
set_option maxRecDepth 10000 in
set_option maxHeartbeats 1000000 in
theorem e6_undo (n eb : Nat) (M : zM) (w : Rw) (hC : rC w M) (x : Int32) : zMet zi_X6_undo [.ref 45, .int x] (zLay n eb) M (zLay n eb) (zr (some (.int (stUndo w x).1)) (rTo (stUndo w x).2 M)) := by
  refine z_mr (zk_X6_undo _ _) rfl (Nat.le_of_ble_eq_true rfl) rfl (fun ret hret => ?_)
  have hC0 := hC
  obtain ⟨⟨⟨w1, w2, w3, w4, w5⟩, wb, wp, ws, wt⟩, c1, c2, c3, c4, ⟨c5, c6, c7, c8⟩, c9, c10, c11⟩ := hC
  by_cases hx : 0 ≤ x ∧ x ≤ 1
  · by_cases h0 : x = 0
    · subst h0
      by_cases hz : w.2 0 = 0
      · have hcl : (0 : Int32).toNatClampNeg = 0 := rfl
        have hno : stUndo w 0 = (-3, w) := by unfold stUndo; rw [if_pos hx, if_pos rfl, if_pos hz]
        rw [hno] at hret
        refine z_ca (z_cv 1 (c6_isText _ _ _ (Nat.le_of_ble_eq_true rfl)) (zb_1 hx)) ?_
        refine z_bf (by decide) ?_
        refine z_go ?_
        refine And.intro (show vp_in (nI 0) 2 from z_inN0 (by omega) (by omega)) ?_
        refine z_bt (by show M 46 (0 : Int32).toNatClampNeg = 0; rw [hcl, c1.1, hz]; rfl) ?_
        exact z_rq hret rfl ⟨hC0, fun _ _ => rfl⟩
      · have hcl : (0 : Int32).toNatClampNeg = 0 := rfl
        have hno : stUndo w 0 = (nI (w.2 0 - 1), wQ w 0 (w.2 0 - 1)) := by unfold stUndo; rw [if_pos hx, if_pos rfl, if_neg hz]
        rw [hno] at hret
        refine z_ca (z_cv 1 (c6_isText _ _ _ (Nat.le_of_ble_eq_true rfl)) (zb_1 hx)) ?_
        refine z_bf (by decide) ?_
        refine z_go ?_
        refine And.intro (show vp_in (nI 0) 2 from z_inN0 (by omega) (by omega)) ?_
        refine z_bf (by show ¬ M 46 (0 : Int32).toNatClampNeg = 0; rw [hcl, c1.1]; exact fun q => hz ((nI_eq (a := w.2 0) (b := 0) (by omega) (by omega)).mp q)) ?_
        refine z_go ?_
        refine And.intro (show vp_in (nI 0) 2 from z_inN0 (by omega) (by omega)) ?_
        refine And.intro (show vp_in (nI 0) 2 from z_inN0 (by omega) (by omega)) ?_
        refine And.intro (show vp_in (nI 0) 2 from z_inN0 (by omega) (by omega)) ?_
        refine z_rq hret (z_vi ?_) ⟨⟨⟨⟨show (w.2 0 - 1) ≤ 55 by omega, w2, w3, w4, w5⟩, rBy_le wb (show (w.2 0 - 1) ≤ w.2 0 by omega), wp, ws, wt⟩, ⟨?_, c1.2⟩, c2, c3, c4, ⟨c5, c6, c7, c8⟩, c9, c10, c11⟩, fun p hp => ?_⟩
        · show upd (M 46) (0 : Int32).toNatClampNeg (M 46 (0 : Int32).toNatClampNeg - 1) (0 : Int32).toNatClampNeg = nI (w.2 0 - 1)
          rw [hcl, c1.1, show (1 : Int32) = nI 1 from rfl, pk_sub (by omega)]
          rfl
        · show M 46 (0 : Int32).toNatClampNeg - 1 = nI (w.2 0 - 1)
          rw [hcl, c1.1, show (1 : Int32) = nI 1 from rfl, pk_sub (by omega)]
        · rw [z_un (by omega)]
    · have e1 : x = 1 := by obtain ⟨j, hj, e⟩ := rg 1 rfl (by omega) hx; rcases (show j = 0 ∨ j = 1 by omega) with q | q <;> subst q <;> first | exact e | exact absurd e h0
      subst e1
      by_cases hz : w.2 1 = 0
      · have hcl : (1 : Int32).toNatClampNeg = 1 := rfl
        have hno : stUndo w 1 = (-3, w) := by unfold stUndo; rw [if_pos hx, if_neg h0, if_pos hz]
        rw [hno] at hret
        refine z_ca (z_cv 1 (c6_isText _ _ _ (Nat.le_of_ble_eq_true rfl)) (zb_1 hx)) ?_
        refine z_bf (by decide) ?_
        refine z_go ?_
        refine And.intro (show vp_in (nI 1) 2 from z_inN0 (by omega) (by omega)) ?_
        refine z_bt (by show M 46 (1 : Int32).toNatClampNeg = 0; rw [hcl, c1.2, hz]; rfl) ?_
        exact z_rq hret rfl ⟨hC0, fun _ _ => rfl⟩
      · have hcl : (1 : Int32).toNatClampNeg = 1 := rfl
        have hno : stUndo w 1 = (nI (w.2 1 - 1), wQ w 1 (w.2 1 - 1)) := by unfold stUndo; rw [if_pos hx, if_neg h0, if_neg hz]
        rw [hno] at hret
        refine z_ca (z_cv 1 (c6_isText _ _ _ (Nat.le_of_ble_eq_true rfl)) (zb_1 hx)) ?_
        refine z_bf (by decide) ?_
        refine z_go ?_
        refine And.intro (show vp_in (nI 1) 2 from z_inN0 (by omega) (by omega)) ?_
        refine z_bf (by show ¬ M 46 (1 : Int32).toNatClampNeg = 0; rw [hcl, c1.2]; exact fun q => hz ((nI_eq (a := w.2 1) (b := 0) (by omega) (by omega)).mp q)) ?_
        refine z_go ?_
        refine And.intro (show vp_in (nI 1) 2 from z_inN0 (by omega) (by omega)) ?_
        refine And.intro (show vp_in (nI 1) 2 from z_inN0 (by omega) (by omega)) ?_
        refine And.intro (show vp_in (nI 1) 2 from z_inN0 (by omega) (by omega)) ?_
        refine z_rq hret (z_vi ?_) ⟨⟨⟨⟨w1, show (w.2 1 - 1) ≤ 40 by omega, w3, w4, w5⟩, wb, wp, ws, wt⟩, ⟨c1.1, ?_⟩, c2, c3, c4, ⟨c5, c6, c7, c8⟩, c9, c10, c11⟩, fun p hp => ?_⟩
        · show upd (M 46) (1 : Int32).toNatClampNeg (M 46 (1 : Int32).toNatClampNeg - 1) (1 : Int32).toNatClampNeg = nI (w.2 1 - 1)
          rw [hcl, c1.2]
          exact pk_sub (a := w.2 1) (b := 1) (by omega)
        · show M 46 (1 : Int32).toNatClampNeg - 1 = nI (w.2 1 - 1)
          rw [hcl, c1.2]
          exact pk_sub (a := w.2 1) (b := 1) (by omega)
        · rw [z_un (by omega)]
  · have hno : stUndo w x = (-2, w) := by unfold stUndo; rw [if_neg hx]
    rw [hno] at hret
    refine z_ca (z_cv 0 (c6_isText _ _ _ (Nat.le_of_ble_eq_true rfl)) (zb_0 hx)) ?_
    refine z_bt (by decide) ?_
    exact z_rq hret rfl ⟨hC0, fun _ _ => rfl⟩
