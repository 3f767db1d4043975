/-! type, wipe, undo, in both -/
theorem cI_chg {w : Rw} {M : zM} (h : cC w M) : cI w (va_up (va_up M 2 (upd (M 2) 5 0)) 2 (upd (upd (M 2) 5 0) 7 0)) := ⟨cC_sm h ⟨fun p p1 p2 => by rw [z_un (by omega), z_un (by omega)], fun p p1 p2 => by rw [z_un (by omega), z_un (by omega)], rfl, rfl⟩, Or.inl rfl, Or.inl rfl⟩
theorem rBy_add {f : Nat → Int32} {n : Nat} {y : Int32} (h : rBy f n) (hy : 0 ≤ y ∧ y ≤ 255) : rBy (upd f n y) (n + 1) := by
  intro i hi
  by_cases e : i = n
  · subst e
    have : upd f i y i = y := by simp [upd]
    rw [this]
    exact ⟨(fa_le 0 y).mp hy.1, (fa_le y 255).mp hy.2⟩
  · have : upd f n y i = f i := by simp [upd, e]
    rw [this]
    exact h i (by omega)
theorem rBy_le {f : Nat → Int32} {n k : Nat} (h : rBy f n) (hk : k ≤ n) : rBy f k := fun i hi => h i (by omega)
set_option maxRecDepth 10000 in
set_option maxHeartbeats 1000000 in
theorem c3_isFull3 (n eb : Nat) (M : zM) : zMet zi_X3_isFull [.ref 3] (zLay n eb) M (zLay n eb) (zx (some (.int (zb (M 3 1 ≤ M 3 2)))) M) := by
  refine z_me (zk_X3_isFull _ _) rfl (Nat.le_of_ble_eq_true rfl) rfl (fun ret hret => ?_)
  refine z_br (fun h1j => ?_) (fun h1n => ?_)
  · refine z_go ?_
    exact And.intro rfl (z_re hret (z_vi (by unfold zb; split <;> first | rfl | contradiction | (exfalso; simp only [fa_lt, fa_le, fa_eq] at *; omega) | simp_all)) rfl)
  · refine z_go ?_
    exact And.intro rfl (z_re hret (z_vi (by unfold zb; split <;> first | rfl | contradiction | (exfalso; simp only [fa_lt, fa_le, fa_eq] at *; omega) | simp_all)) rfl)
set_option maxRecDepth 10000 in
set_option maxHeartbeats 1000000 in
theorem c3_add3 (n eb : Nat) (M : zM) (k : Nat) (x : Int32) (hk : k < 55) (h2 : M 3 2 = nI k) (h1 : ¬ M 3 1 ≤ M 3 2) : zMet zi_X3_add [.ref 3, .int x] (zLay n eb) M (zLay n eb) (zx none (va_up (va_up M 4 (upd (M 4) k x)) 3 (upd (M 3) 2 (nI (k + 1))))) := by
  refine z_me (zk_X3_add _ _) rfl (Nat.le_of_ble_eq_true rfl) rfl (fun ret hret => ?_)
  refine z_ca (z_cv 0 (c3_isFull3 n eb M) (zb_0 h1)) ?_
  refine z_bt (by decide) ?_
  refine And.intro (by show vp_in (M 3 2) 55; rw [h2]; exact z_inN0 (by omega) (by omega)) ?_
  refine z_re hret rfl ?_
  show va_up (va_up M 4 (upd (M 4) (M 3 2).toNatClampNeg x)) 3 (upd (M 3) 2 (M 3 2 + 1)) = _
  rw [h2, z_cl (by omega), nI_1]
set_option maxRecDepth 10000 in
set_option maxHeartbeats 1000000 in
theorem c3_isFull5 (n eb : Nat) (M : zM) : zMet zi_X3_isFull [.ref 5] (zLay n eb) M (zLay n eb) (zx (some (.int (zb (M 5 1 ≤ M 5 2)))) M) := by
  refine z_me (zk_X3_isFull _ _) rfl (Nat.le_of_ble_eq_true rfl) rfl (fun ret hret => ?_)
  refine z_br (fun h1j => ?_) (fun h1n => ?_)
  · refine z_go ?_
    exact And.intro rfl (z_re hret (z_vi (by unfold zb; split <;> first | rfl | contradiction | (exfalso; simp only [fa_lt, fa_le, fa_eq] at *; omega) | simp_all)) rfl)
  · refine z_go ?_
    exact And.intro rfl (z_re hret (z_vi (by unfold zb; split <;> first | rfl | contradiction | (exfalso; simp only [fa_lt, fa_le, fa_eq] at *; omega) | simp_all)) rfl)
set_option maxRecDepth 10000 in
set_option maxHeartbeats 1000000 in
theorem c3_add5 (n eb : Nat) (M : zM) (k : Nat) (x : Int32) (hk : k < 55) (h2 : M 5 2 = nI k) (h1 : ¬ M 5 1 ≤ M 5 2) : zMet zi_X3_add [.ref 5, .int x] (zLay n eb) M (zLay n eb) (zx none (va_up (va_up M 6 (upd (M 6) k x)) 5 (upd (M 5) 2 (nI (k + 1))))) := by
  refine z_me (zk_X3_add _ _) rfl (Nat.le_of_ble_eq_true rfl) rfl (fun ret hret => ?_)
  refine z_ca (z_cv 0 (c3_isFull5 n eb M) (zb_0 h1)) ?_
  refine z_bt (by decide) ?_
  refine And.intro (by show vp_in (M 5 2) 55; rw [h2]; exact z_inN0 (by omega) (by omega)) ?_
  refine z_re hret rfl ?_
  show va_up (va_up M 6 (upd (M 6) (M 5 2).toNatClampNeg x)) 5 (upd (M 5) 2 (M 5 2 + 1)) = _
  rw [h2, z_cl (by omega), nI_1]
noncomputable section
def stType (w : Rw) (x y : Int32) : Int32 × Rw := if 0 ≤ x ∧ x ≤ 1 then (if 0 ≤ y ∧ y ≤ 255 then (if x = 0 then (if w.2 0 = 55 then (-4, w) else (nI (w.2 0 + 1), wQ (wU w 1 (w.2 0) y) 0 (w.2 0 + 1))) else (if w.2 1 = 40 then (-4, w) else (nI (w.2 1 + 1), wQ (wU w 2 (w.2 1) y) 1 (w.2 1 + 1)))) else (-2, w)) else (-2, w)
def stWipe (w : Rw) (x : Int32) : Int32 × Rw := if 0 ≤ x ∧ x ≤ 1 then (if x = 0 then (nI (w.2 0), wQ w 0 0) else (nI (w.2 1), wQ w 1 0)) else (-2, w)
def stUndo (w : Rw) (x : Int32) : Int32 × Rw := if 0 ≤ x ∧ x ≤ 1 then (if x = 0 then (if w.2 0 = 0 then (-3, w) else (nI (w.2 0 - 1), wQ w 0 (w.2 0 - 1))) else (if w.2 1 = 0 then (-3, w) else (nI (w.2 1 - 1), wQ w 1 (w.2 1 - 1)))) else (-2, w)
end
set_option maxRecDepth 10000 in
set_option maxHeartbeats 1000000 in
theorem e5_type (n : Nat) (M : zM) (w : Rw) (hI : cI w M) (x y : Int32) : zMet zi_X5_type [.ref 2, .int x, .int y] (zLay n 15) M (zLay n 15) (zr (some (.int (stType w x y).1)) (cTo (stType w x y).2 M)) := by
  refine z_mr (zk_X5_type _ _) rfl (Nat.le_of_ble_eq_true rfl) rfl (fun ret hret => ?_)
  obtain ⟨⟨⟨w1, w2, w3, w4, w5⟩, wb, wp, ws, wt⟩, c1, c2, c3, c4, c5, c6, c7, c8, c9, c10, c11, c12⟩ := hI.1
  by_cases hx : 0 ≤ x ∧ x ≤ 1
  · by_cases hy : 0 ≤ y ∧ y ≤ 255
    · by_cases h0 : x = 0
      · subst h0
        by_cases hf : w.2 0 = 55
        · have hno : stType w 0 y = (-4, w) := by unfold stType; rw [if_pos hx, if_pos hy, if_pos rfl, if_pos hf]
          rw [hno] at hret
          refine z_ca (z_cv 1 (c5_within _ _ _ _ _ (Nat.le_of_ble_eq_true rfl)) (zb_1 hx)) ?_
          refine z_bf (by decide) ?_
          refine z_ca (z_cv 1 (c5_within _ _ _ _ _ (Nat.le_of_ble_eq_true rfl)) (zb_1 hy)) ?_
          refine z_bf (by decide) ?_
          refine z_go ?_
          refine z_ca (c5_textOf0 n 15 M) ?_
          refine z_ca (z_cv 1 (c3_isFull3 n 15 M) (zb_1 (by rw [c1.1, c1.2.1, hf]; decide))) ?_
          refine z_bf (by decide) ?_
          exact z_rq hret rfl ⟨hI, fun _ _ => rfl⟩
        · have hno : stType w 0 y = (nI (w.2 0 + 1), wQ (wU w 1 (w.2 0) y) 0 (w.2 0 + 1)) := by unfold stType; rw [if_pos hx, if_pos hy, if_pos rfl, if_neg hf]
          rw [hno] at hret
          have hnf : ¬ M 3 1 ≤ M 3 2 := by rw [c1.1, c1.2.1]; exact nI_ge (a := w.2 0) (b := 55) (by omega) (by omega)
          have hR : cRaw (wQ (wU w 1 (w.2 0) y) 0 (w.2 0 + 1)) (va_up (va_up M 4 (upd (M 4) (w.2 0) y)) 3 (upd (M 3) 2 (nI (w.2 0 + 1)))) := ⟨⟨⟨show w.2 0 + 1 ≤ 55 by omega, w2, w3, w4, w5⟩, rBy_add wb hy, wp, ws, wt⟩, ⟨c1.1, rfl, show upd (M 4) (w.2 0) y = upd (w.1 1) (w.2 0) y by rw [c1.2.2.2]⟩, ⟨c2.1, c2.2.1, c2.2.2.2⟩, c3.2, c7, c8, c9, c10, c11, c12⟩
          refine z_ca (z_cv 1 (c5_within _ _ _ _ _ (Nat.le_of_ble_eq_true rfl)) (zb_1 hx)) ?_
          refine z_bf (by decide) ?_
          refine z_ca (z_cv 1 (c5_within _ _ _ _ _ (Nat.le_of_ble_eq_true rfl)) (zb_1 hy)) ?_
          refine z_bf (by decide) ?_
          refine z_go ?_
          refine z_ca (c5_textOf0 n 15 M) ?_
          refine z_ca (z_cv 0 (c3_isFull3 n 15 M) (zb_0 hnf)) ?_
          refine z_bt (by decide) ?_
          refine z_go ?_
          refine z_ca (c3_add3 n 15 M (w.2 0) y (by omega) c1.2.1 hnf) ?_
          refine z_cx (d5_readTexts n _ _ hR) (fun M1 h1 => ?_)
          refine z_rq hret (z_vi ?_) ⟨h1.1, fun p hp => ?_⟩
          · exact h1.1.1.2.1.2.1
          · rw [h1.2 p hp, z_un (by omega), z_un (by omega)]
      · by_cases hf : w.2 1 = 40
        · have hno : stType w x y = (-4, w) := by unfold stType; rw [if_pos hx, if_pos hy, if_neg h0, if_pos hf]
          rw [hno] at hret
          refine z_ca (z_cv 1 (c5_within _ _ _ _ _ (Nat.le_of_ble_eq_true rfl)) (zb_1 hx)) ?_
          refine z_bf (by decide) ?_
          refine z_ca (z_cv 1 (c5_within _ _ _ _ _ (Nat.le_of_ble_eq_true rfl)) (zb_1 hy)) ?_
          refine z_bf (by decide) ?_
          refine z_go ?_
          refine z_ca (c5_textOf1 n 15 M x h0) ?_
          refine z_ca (z_cv 1 (c3_isFull5 n 15 M) (zb_1 (by rw [c2.1, c2.2.1, hf]; decide))) ?_
          refine z_bf (by decide) ?_
          exact z_rq hret rfl ⟨hI, fun _ _ => rfl⟩
        · have hno : stType w x y = (nI (w.2 1 + 1), wQ (wU w 2 (w.2 1) y) 1 (w.2 1 + 1)) := by unfold stType; rw [if_pos hx, if_pos hy, if_neg h0, if_neg hf]
          rw [hno] at hret
          have hnf : ¬ M 5 1 ≤ M 5 2 := by rw [c2.1, c2.2.1]; exact nI_ge (a := w.2 1) (b := 40) (by omega) (by omega)
          have hR : cRaw (wQ (wU w 2 (w.2 1) y) 1 (w.2 1 + 1)) (va_up (va_up M 6 (upd (M 6) (w.2 1) y)) 5 (upd (M 5) 2 (nI (w.2 1 + 1)))) := ⟨⟨⟨w1, show w.2 1 + 1 ≤ 40 by omega, w3, w4, w5⟩, wb, wp, ws, wt⟩, ⟨c1.1, c1.2.1, c1.2.2.2⟩, ⟨c2.1, rfl, show upd (M 6) (w.2 1) y = upd (w.1 2) (w.2 1) y by rw [c2.2.2.2]⟩, c3.2, c7, c8, c9, c10, c11, c12⟩
          refine z_ca (z_cv 1 (c5_within _ _ _ _ _ (Nat.le_of_ble_eq_true rfl)) (zb_1 hx)) ?_
          refine z_bf (by decide) ?_
          refine z_ca (z_cv 1 (c5_within _ _ _ _ _ (Nat.le_of_ble_eq_true rfl)) (zb_1 hy)) ?_
          refine z_bf (by decide) ?_
          refine z_go ?_
          refine z_ca (c5_textOf1 n 15 M x h0) ?_
          refine z_ca (z_cv 0 (c3_isFull5 n 15 M) (zb_0 hnf)) ?_
          refine z_bt (by decide) ?_
          refine z_go ?_
          refine z_ca (c3_add5 n 15 M (w.2 1) y (by omega) c2.2.1 hnf) ?_
          refine z_cx (d5_readTexts n _ _ hR) (fun M1 h1 => ?_)
          refine z_rq hret (z_vi ?_) ⟨h1.1, fun p hp => ?_⟩
          · exact h1.1.1.2.2.1.2.1
          · rw [h1.2 p hp, z_un (by omega), z_un (by omega)]
    · have hno : stType w x y = (-2, w) := by unfold stType; rw [if_pos hx, if_neg hy]
      rw [hno] at hret
      refine z_ca (z_cv 1 (c5_within _ _ _ _ _ (Nat.le_of_ble_eq_true rfl)) (zb_1 hx)) ?_
      refine z_bf (by decide) ?_
      refine z_ca (z_cv 0 (c5_within _ _ _ _ _ (Nat.le_of_ble_eq_true rfl)) (zb_0 hy)) ?_
      refine z_bt (by decide) ?_
      exact z_rq hret rfl ⟨hI, fun _ _ => rfl⟩
  · have hno : stType w x y = (-2, w) := by unfold stType; rw [if_neg hx]
    rw [hno] at hret
    refine z_ca (z_cv 0 (c5_within _ _ _ _ _ (Nat.le_of_ble_eq_true rfl)) (zb_0 hx)) ?_
    refine z_bt (by decide) ?_
    refine z_go ?_
    exact z_rq hret rfl ⟨hI, fun _ _ => rfl⟩
set_option maxRecDepth 10000 in
set_option maxHeartbeats 1000000 in
theorem e6_type (n eb : Nat) (M : zM) (w : Rw) (hC : rC w M) (x y : Int32) : zMet zi_X6_type [.ref 45, .int x, .int y] (zLay n eb) M (zLay n eb) (zr (some (.int (stType w x y).1)) (rTo (stType w x y).2 M)) := by
  refine z_mr (zk_X6_type _ _) rfl (Nat.le_of_ble_eq_true rfl) rfl (fun ret hret => ?_)
  have hC0 := hC
  obtain ⟨⟨⟨w1, w2, w3, w4, w5⟩, wb, wp, ws, wt⟩, c1, c2, c3, c4, ⟨c5, c6, c7, c8⟩, c9, c10, c11⟩ := hC
  by_cases hx : 0 ≤ x ∧ x ≤ 1
  · by_cases hy : 0 ≤ y ∧ y ≤ 255
    · by_cases h0 : x = 0
      · subst h0
        by_cases hf : w.2 0 = 55
        · have hcl : (0 : Int32).toNatClampNeg = 0 := rfl
          have hno : stType w 0 y = (-4, w) := by unfold stType; rw [if_pos hx, if_pos hy, if_pos rfl, if_pos hf]
          rw [hno] at hret
          refine z_ca (z_cv 1 (c6_isText _ _ _ (Nat.le_of_ble_eq_true rfl)) (zb_1 hx)) ?_
          refine z_bf (by decide) ?_
          refine z_ca (z_cv 1 (c6_in _ _ _ _ _ (Nat.le_of_ble_eq_true rfl)) (zb_1 hy)) ?_
          refine z_bf (by decide) ?_
          refine z_go ?_
          refine And.intro (show vp_in (nI 0) 2 from z_inN0 (by omega) (by omega)) ?_
          refine z_bt rfl ?_
          refine z_go ?_
          refine z_bt (by show M 46 (0 : Int32).toNatClampNeg = 55; rw [hcl, c1.1, hf]; rfl) ?_
          exact z_rq hret rfl ⟨hC0, fun _ _ => rfl⟩
        · have hcl : (0 : Int32).toNatClampNeg = 0 := rfl
          have hof : 55 * 0 + nI (w.2 0) = nI (w.2 0) := by rw [Int32.mul_zero, Int32.zero_add]
          have hno : stType w 0 y = (nI (w.2 0 + 1), wQ (wU w 1 (w.2 0) y) 0 (w.2 0 + 1)) := by unfold stType; rw [if_pos hx, if_pos hy, if_pos rfl, if_neg hf]
          rw [hno] at hret
          refine z_ca (z_cv 1 (c6_isText _ _ _ (Nat.le_of_ble_eq_true rfl)) (zb_1 hx)) ?_
          refine z_bf (by decide) ?_
          refine z_ca (z_cv 1 (c6_in _ _ _ _ _ (Nat.le_of_ble_eq_true rfl)) (zb_1 hy)) ?_
          refine z_bf (by decide) ?_
          refine z_go ?_
          refine And.intro (show vp_in (nI 0) 2 from z_inN0 (by omega) (by omega)) ?_
          refine z_bt rfl ?_
          refine z_go ?_
          refine z_bf (by show ¬ M 46 (0 : Int32).toNatClampNeg = 55; rw [hcl, c1.1]; exact fun q => hf ((nI_eq (a := w.2 0) (b := 55) (by omega) (by omega)).mp q)) ?_
          refine z_go ?_
          refine And.intro (show vp_in (nI 0) 2 from z_inN0 (by omega) (by omega)) ?_
          refine And.intro (by show vp_in (55 * 0 + M 46 (0 : Int32).toNatClampNeg) 110; rw [hcl, c1.1, hof]; exact z_inN0 (by omega) (by omega)) ?_
          refine And.intro (show vp_in (nI 0) 2 from z_inN0 (by omega) (by omega)) ?_
          refine And.intro (show vp_in (nI 0) 2 from z_inN0 (by omega) (by omega)) ?_
          refine And.intro (show vp_in (nI 0) 2 from z_inN0 (by omega) (by omega)) ?_
          refine z_rq hret (z_vi ?_) ⟨⟨⟨⟨show w.2 0 + 1 ≤ 55 by omega, w2, w3, w4, w5⟩, rBy_add wb hy, wp, ws, wt⟩, ⟨?_, c1.2⟩, ?_, ?_, c4, ⟨c5, c6, c7, c8⟩, c9, c10, c11⟩, fun p hp => ?_⟩
          · show upd (M 46) (0 : Int32).toNatClampNeg (M 46 (0 : Int32).toNatClampNeg + 1) (0 : Int32).toNatClampNeg = nI (w.2 0 + 1)
            rw [hcl, c1.1, nI_1]
            rfl
          · show M 46 (0 : Int32).toNatClampNeg + 1 = nI (w.2 0 + 1)
            rw [hcl, c1.1, nI_1]
          · intro i hi
            show upd (M 47) (55 * 0 + M 46 (0 : Int32).toNatClampNeg).toNatClampNeg y i = upd (w.1 1) (w.2 0) y i
            rw [hcl, c1.1, hof, z_cl (by omega)]
            by_cases e : i = w.2 0
            · simp [upd, e]
            · simp only [upd, e, if_false]; exact c2 i hi
          · intro i hi
            show upd (M 47) (55 * 0 + M 46 (0 : Int32).toNatClampNeg).toNatClampNeg y (55 + i) = w.1 2 i
            rw [hcl, c1.1, hof, z_cl (by omega)]
            have e : ¬ 55 + i = w.2 0 := by omega
            simp only [upd, e, if_false]
            exact c3 i hi
          · rw [z_un (by omega), z_un (by omega)]
      · have e1 : x = 1 := by obtain ⟨j, hj, e⟩ := rg 1 rfl (by omega) hx; rcases (show j = 0 ∨ j = 1 by omega) with q | q <;> subst q <;> first | exact e | exact absurd e h0
        subst e1
        by_cases hf : w.2 1 = 40
        · have hcl : (1 : Int32).toNatClampNeg = 1 := rfl
          have hno : stType w 1 y = (-4, w) := by unfold stType; rw [if_pos hx, if_pos hy, if_neg h0, if_pos hf]
          rw [hno] at hret
          refine z_ca (z_cv 1 (c6_isText _ _ _ (Nat.le_of_ble_eq_true rfl)) (zb_1 hx)) ?_
          refine z_bf (by decide) ?_
          refine z_ca (z_cv 1 (c6_in _ _ _ _ _ (Nat.le_of_ble_eq_true rfl)) (zb_1 hy)) ?_
          refine z_bf (by decide) ?_
          refine z_go ?_
          refine And.intro (show vp_in (nI 1) 2 from z_inN0 (by omega) (by omega)) ?_
          refine z_bf (by decide) ?_
          refine z_go ?_
          refine z_bt (by show M 46 (1 : Int32).toNatClampNeg = 40; rw [hcl, c1.2, hf]; rfl) ?_
          exact z_rq hret rfl ⟨hC0, fun _ _ => rfl⟩
        · have hcl : (1 : Int32).toNatClampNeg = 1 := rfl
          have hof : 55 * 1 + nI (w.2 1) = nI (55 + w.2 1) := by rw [Int32.mul_one]; exact nI_add 55 _
          have hno : stType w 1 y = (nI (w.2 1 + 1), wQ (wU w 2 (w.2 1) y) 1 (w.2 1 + 1)) := by unfold stType; rw [if_pos hx, if_pos hy, if_neg h0, if_neg hf]
          rw [hno] at hret
          refine z_ca (z_cv 1 (c6_isText _ _ _ (Nat.le_of_ble_eq_true rfl)) (zb_1 hx)) ?_
          refine z_bf (by decide) ?_
          refine z_ca (z_cv 1 (c6_in _ _ _ _ _ (Nat.le_of_ble_eq_true rfl)) (zb_1 hy)) ?_
          refine z_bf (by decide) ?_
          refine z_go ?_
          refine And.intro (show vp_in (nI 1) 2 from z_inN0 (by omega) (by omega)) ?_
          refine z_bf (by decide) ?_
          refine z_go ?_
          refine z_bf (by show ¬ M 46 (1 : Int32).toNatClampNeg = 40; rw [hcl, c1.2]; exact fun q => hf ((nI_eq (a := w.2 1) (b := 40) (by omega) (by omega)).mp q)) ?_
          refine z_go ?_
          refine And.intro (show vp_in (nI 1) 2 from z_inN0 (by omega) (by omega)) ?_
          refine And.intro (by show vp_in (55 * 1 + M 46 (1 : Int32).toNatClampNeg) 110; rw [hcl, c1.2, hof]; exact z_inN0 (by omega) (by omega)) ?_
          refine And.intro (show vp_in (nI 1) 2 from z_inN0 (by omega) (by omega)) ?_
          refine And.intro (show vp_in (nI 1) 2 from z_inN0 (by omega) (by omega)) ?_
          refine And.intro (show vp_in (nI 1) 2 from z_inN0 (by omega) (by omega)) ?_
          refine z_rq hret (z_vi ?_) ⟨⟨⟨⟨w1, show w.2 1 + 1 ≤ 40 by omega, w3, w4, w5⟩, wb, wp, ws, wt⟩, ⟨c1.1, ?_⟩, ?_, ?_, c4, ⟨c5, c6, c7, c8⟩, c9, c10, c11⟩, fun p hp => ?_⟩
          · show upd (M 46) (1 : Int32).toNatClampNeg (M 46 (1 : Int32).toNatClampNeg + 1) (1 : Int32).toNatClampNeg = nI (w.2 1 + 1)
            rw [hcl, c1.2, nI_1]
            rfl
          · show M 46 (1 : Int32).toNatClampNeg + 1 = nI (w.2 1 + 1)
            rw [hcl, c1.2, nI_1]
          · intro i hi
            show upd (M 47) (55 * 1 + M 46 (1 : Int32).toNatClampNeg).toNatClampNeg y i = w.1 1 i
            rw [hcl, c1.2, hof, z_cl (by omega)]
            have e : ¬ i = 55 + w.2 1 := by omega
            simp only [upd, e, if_false]
            exact c2 i hi
          · intro i hi
            show upd (M 47) (55 * 1 + M 46 (1 : Int32).toNatClampNeg).toNatClampNeg y (55 + i) = upd (w.1 2) (w.2 1) y i
            rw [hcl, c1.2, hof, z_cl (by omega)]
            by_cases e : i = w.2 1
            · simp [upd, e]
            · have e' : ¬ 55 + i = 55 + w.2 1 := by omega
              simp only [upd, e, e', if_false]; exact c3 i hi
          · rw [z_un (by omega), z_un (by omega)]
    · have hno : stType w x y = (-2, w) := by unfold stType; rw [if_pos hx, if_neg hy]
      rw [hno] at hret
      refine z_ca (z_cv 1 (c6_isText _ _ _ (Nat.le_of_ble_eq_true rfl)) (zb_1 hx)) ?_
      refine z_bf (by decide) ?_
      refine z_ca (z_cv 0 (c6_in _ _ _ _ _ (Nat.le_of_ble_eq_true rfl)) (zb_0 hy)) ?_
      refine z_bt (by decide) ?_
      exact z_rq hret rfl ⟨hC0, fun _ _ => rfl⟩
  · have hno : stType w x y = (-2, w) := by unfold stType; rw [if_neg hx]
    rw [hno] at hret
    refine z_ca (z_cv 0 (c6_isText _ _ _ (Nat.le_of_ble_eq_true rfl)) (zb_0 hx)) ?_
    refine z_bt (by decide) ?_
    refine z_go ?_
    exact z_rq hret rfl ⟨hC0, fun _ _ => rfl⟩
