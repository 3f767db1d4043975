/-! bag, got, in both -/
noncomputable section
def aBag (w : Rw) (x y : Int32) : Int32 := if (0 ≤ x ∧ x ≤ 39) ∧ 0 ≤ y ∧ y ≤ 3 then (if y = 0 then (tHt w x.toNatClampNeg).1 else if y = 1 then (tHt w x.toNatClampNeg).2.1 else if y = 2 then (tHt w x.toNatClampNeg).2.2.1 else (tHt w x.toNatClampNeg).2.2.2.1) else -2
def aGot (w : Rw) (x k y : Int32) : Int32 := if (0 ≤ x ∧ x ≤ 39) ∧ (0 ≤ k ∧ k ≤ nI (tN w) - 1) ∧ 0 ≤ y ∧ y ≤ 2 then (if y = 0 then (tHt w x.toNatClampNeg).2.2.2.2 k.toNatClampNeg else if y = 1 then tNd w x.toNatClampNeg k.toNatClampNeg else pDn (w.1 1) (w.2 0) k.toNatClampNeg (x.toNatClampNeg % pLn (w.1 1) (w.2 0) k.toNatClampNeg)) else -2
end
theorem h39 {h : Nat} (hh : h < 40) : 0 ≤ nI h ∧ nI h ≤ 39 := ⟨nI_pos' (by omega), nI_le (a := h) (b := 39) (by omega) (by omega)⟩
theorem aBag_y {w : Rw} {h j : Nat} (hh : h < 40) (hj : j ≤ 3) : aBag w (nI h) (nI j) = if j = 0 then (tHt w h).1 else if j = 1 then (tHt w h).2.1 else if j = 2 then (tHt w h).2.2.1 else (tHt w h).2.2.2.1 := by
  unfold aBag
  rw [if_pos ⟨h39 hh, nI_pos' (by omega), nI_le (a := j) (b := 3) hj (by omega)⟩, z_cl (by omega)]
  rcases (show j = 0 ∨ j = 1 ∨ j = 2 ∨ j = 3 by omega) with e | e | e | e <;> subst e <;> rfl
theorem aGot_y {w : Rw} {h k j : Nat} (hh : h < 40) (hk : k < tN w) (hj : j ≤ 2) : aGot w (nI h) (nI k) (nI j) = if j = 0 then (tHt w h).2.2.2.2 k else if j = 1 then tNd w h k else pDn (w.1 1) (w.2 0) k (h % pLn (w.1 1) (w.2 0) k) := by
  have h8 := tN8 w
  unfold aGot
  rw [if_pos ⟨h39 hh, rgH' hk h8, nI_pos' (by omega), nI_le (a := j) (b := 2) hj (by omega)⟩, z_cl (by omega), z_cl (by omega)]
  rcases (show j = 0 ∨ j = 1 ∨ j = 2 by omega) with e | e | e <;> subst e <;> rfl
set_option maxRecDepth 10000 in
set_option maxHeartbeats 1000000 in
theorem e5_bag (n : Nat) (M : zM) (w : Rw) (hI : cI w M) (x y : Int32) : zMet zi_X5_bag [.ref 2, .int x, .int y] (zLay n 15) M (zLay n 15) (zr (some (.int (aBag w x y))) (fun M' => cI w M' ∧ ∀ p, 45 ≤ p → M' p = M p)) := by
  refine z_mr (zk_X5_bag _ _) rfl (Nat.le_of_ble_eq_true rfl) rfl (fun ret hret => ?_)
  by_cases hx : 0 ≤ x ∧ x ≤ 39
  · by_cases hy : 0 ≤ y ∧ y ≤ 3
    · obtain ⟨h, hh, rfl⟩ := rg 39 rfl (by omega) hx
      obtain ⟨j, hj, rfl⟩ := rg 3 rfl (by omega) hy
      rcases (show j = 0 ∨ j = 1 ∨ j = 2 ∨ j = 3 by omega) with e | e | e | e
      · subst e
        refine z_ca (z_cv 1 (c5_isHour _ _ _ (Nat.le_of_ble_eq_true rfl)) (zb_1 hx)) ?_
        refine z_bf (by decide) ?_
        refine z_ca (z_cv 1 (c5_within _ _ _ _ _ (Nat.le_of_ble_eq_true rfl)) (zb_1 hy)) ?_
        refine z_bf (by decide) ?_
        refine z_go ?_
        refine z_cx (d5_toldCourse n M w hI) (fun M1 h1 => ?_)
        obtain ⟨i1, i2, i3⟩ := h1
        refine z_swi (k := 0) (t := 52) rfl (by rfl) ?_
        refine z_go ?_
        refine And.intro (z_inN0 (by omega) (by omega)) ?_
        refine z_rq hret (z_vi ?_) ⟨i1, i3⟩
        rw [aBag_y (by omega) (by omega), if_pos rfl]
        show M1 22 (nI h).toNatClampNeg = _
        rw [z_cl (by omega)]
        exact (i2 h (by omega)).1
      · subst e
        refine z_ca (z_cv 1 (c5_isHour _ _ _ (Nat.le_of_ble_eq_true rfl)) (zb_1 hx)) ?_
        refine z_bf (by decide) ?_
        refine z_ca (z_cv 1 (c5_within _ _ _ _ _ (Nat.le_of_ble_eq_true rfl)) (zb_1 hy)) ?_
        refine z_bf (by decide) ?_
        refine z_go ?_
        refine z_cx (d5_toldCourse n M w hI) (fun M1 h1 => ?_)
        obtain ⟨i1, i2, i3⟩ := h1
        refine z_swi (k := 1) (t := 59) rfl (by rfl) ?_
        refine z_go ?_
        refine And.intro (z_inN0 (by omega) (by omega)) ?_
        refine z_rq hret (z_vi ?_) ⟨i1, i3⟩
        rw [aBag_y (by omega) (by omega), if_neg (by decide), if_pos rfl]
        show M1 23 (nI h).toNatClampNeg = _
        rw [z_cl (by omega)]
        exact (i2 h (by omega)).2.1
      · subst e
        refine z_ca (z_cv 1 (c5_isHour _ _ _ (Nat.le_of_ble_eq_true rfl)) (zb_1 hx)) ?_
        refine z_bf (by decide) ?_
        refine z_ca (z_cv 1 (c5_within _ _ _ _ _ (Nat.le_of_ble_eq_true rfl)) (zb_1 hy)) ?_
        refine z_bf (by decide) ?_
        refine z_go ?_
        refine z_cx (d5_toldCourse n M w hI) (fun M1 h1 => ?_)
        obtain ⟨i1, i2, i3⟩ := h1
        refine z_swi (k := 2) (t := 66) rfl (by rfl) ?_
        refine z_go ?_
        refine And.intro (z_inN0 (by omega) (by omega)) ?_
        refine z_rq hret (z_vi ?_) ⟨i1, i3⟩
        rw [aBag_y (by omega) (by omega), if_neg (by decide), if_neg (by decide), if_pos rfl]
        show M1 24 (nI h).toNatClampNeg = _
        rw [z_cl (by omega)]
        exact (i2 h (by omega)).2.2.1
      · subst e
        refine z_ca (z_cv 1 (c5_isHour _ _ _ (Nat.le_of_ble_eq_true rfl)) (zb_1 hx)) ?_
        refine z_bf (by decide) ?_
        refine z_ca (z_cv 1 (c5_within _ _ _ _ _ (Nat.le_of_ble_eq_true rfl)) (zb_1 hy)) ?_
        refine z_bf (by decide) ?_
        refine z_go ?_
        refine z_cx (d5_toldCourse n M w hI) (fun M1 h1 => ?_)
        obtain ⟨i1, i2, i3⟩ := h1
        refine z_swo (by decide) ?_
        refine z_go ?_
        refine And.intro (z_inN0 (by omega) (by omega)) ?_
        refine z_rq hret (z_vi ?_) ⟨i1, i3⟩
        rw [aBag_y (by omega) (by omega), if_neg (by decide), if_neg (by decide), if_neg (by decide)]
        show M1 25 (nI h).toNatClampNeg = _
        rw [z_cl (by omega)]
        exact (i2 h (by omega)).2.2.2.1
    · refine z_ca (z_cv 1 (c5_isHour _ _ _ (Nat.le_of_ble_eq_true rfl)) (zb_1 hx)) ?_
      refine z_bf (by decide) ?_
      refine z_ca (z_cv 0 (c5_within _ _ _ _ _ (Nat.le_of_ble_eq_true rfl)) (zb_0 hy)) ?_
      refine z_bt (by decide) ?_
      exact z_rq hret (z_vi (show _ = aBag w x y from (if_neg (fun z => hy z.2)).symm)) ⟨hI, fun _ _ => rfl⟩
  · refine z_ca (z_cv 0 (c5_isHour _ _ _ (Nat.le_of_ble_eq_true rfl)) (zb_0 hx)) ?_
    refine z_bt (by decide) ?_
    refine z_go ?_
    exact z_rq hret (z_vi (show _ = aBag w x y from (if_neg (fun z => hx z.1)).symm)) ⟨hI, fun _ _ => rfl⟩
set_option maxRecDepth 10000 in
set_option maxHeartbeats 1000000 in
theorem d6_bagOf0 (n eb : Nat) (M : zM) (w : Rw) (hC : rC w M) (h : Nat) (hh : h < 40) : zMet zi_X6_bagOf [.ref 45, .int (nI h), .int (nI 0)] (zLay n eb) M (zLay n eb) (zr (some (.int (aBag w (nI h) (nI 0)))) (fun M' => rC w M' ∧ rSm M M')) := by
  refine z_mr (zk_X6_bagOf _ _) rfl (Nat.le_of_ble_eq_true rfl) rfl (fun ret hret => ?_)
  refine z_cx (d6_runsTold n eb M w hC) (fun M1 h1 => ?_)
  obtain ⟨i1, i2, i3, i4, i5, i6⟩ := h1
  refine z_bt (by decide) ?_
  refine And.intro (z_inN0 (by omega) (by omega)) ?_
  refine z_go ?_
  refine z_rq hret (z_vi ?_) ⟨i1, i3⟩
  rw [aBag_y (by omega) (by omega), if_pos rfl]
  show M1 62 (nI h).toNatClampNeg = _
  rw [z_cl (by omega)]
  exact (i2 h (by omega)).1
set_option maxRecDepth 10000 in
set_option maxHeartbeats 1000000 in
theorem d6_bagOf1 (n eb : Nat) (M : zM) (w : Rw) (hC : rC w M) (h : Nat) (hh : h < 40) : zMet zi_X6_bagOf [.ref 45, .int (nI h), .int (nI 1)] (zLay n eb) M (zLay n eb) (zr (some (.int (aBag w (nI h) (nI 1)))) (fun M' => rC w M' ∧ rSm M M')) := by
  refine z_mr (zk_X6_bagOf _ _) rfl (Nat.le_of_ble_eq_true rfl) rfl (fun ret hret => ?_)
  refine z_cx (d6_runsTold n eb M w hC) (fun M1 h1 => ?_)
  obtain ⟨i1, i2, i3, i4, i5, i6⟩ := h1
  refine z_bf (by decide) ?_
  refine z_go ?_
  refine z_bt (by decide) ?_
  refine And.intro (z_inN0 (by omega) (by omega)) ?_
  refine z_go ?_
  refine z_rq hret (z_vi ?_) ⟨i1, i3⟩
  rw [aBag_y (by omega) (by omega), if_neg (by decide), if_pos rfl]
  show M1 63 (nI h).toNatClampNeg = _
  rw [z_cl (by omega)]
  exact (i2 h (by omega)).2.1
set_option maxRecDepth 10000 in
set_option maxHeartbeats 1000000 in
theorem d6_bagOf2 (n eb : Nat) (M : zM) (w : Rw) (hC : rC w M) (h : Nat) (hh : h < 40) : zMet zi_X6_bagOf [.ref 45, .int (nI h), .int (nI 2)] (zLay n eb) M (zLay n eb) (zr (some (.int (aBag w (nI h) (nI 2)))) (fun M' => rC w M' ∧ rSm M M')) := by
  refine z_mr (zk_X6_bagOf _ _) rfl (Nat.le_of_ble_eq_true rfl) rfl (fun ret hret => ?_)
  refine z_cx (d6_runsTold n eb M w hC) (fun M1 h1 => ?_)
  obtain ⟨i1, i2, i3, i4, i5, i6⟩ := h1
  refine z_bf (by decide) ?_
  refine z_go ?_
  refine z_bf (by decide) ?_
  refine z_go ?_
  refine z_bt (by decide) ?_
  refine And.intro (z_inN0 (by omega) (by omega)) ?_
  refine z_go ?_
  refine z_rq hret (z_vi ?_) ⟨i1, i3⟩
  rw [aBag_y (by omega) (by omega), if_neg (by decide), if_neg (by decide), if_pos rfl]
  show M1 64 (nI h).toNatClampNeg = _
  rw [z_cl (by omega)]
  exact (i2 h (by omega)).2.2.1
set_option maxRecDepth 10000 in
set_option maxHeartbeats 1000000 in
theorem d6_bagOf3 (n eb : Nat) (M : zM) (w : Rw) (hC : rC w M) (h : Nat) (hh : h < 40) : zMet zi_X6_bagOf [.ref 45, .int (nI h), .int (nI 3)] (zLay n eb) M (zLay n eb) (zr (some (.int (aBag w (nI h) (nI 3)))) (fun M' => rC w M' ∧ rSm M M')) := by
  refine z_mr (zk_X6_bagOf _ _) rfl (Nat.le_of_ble_eq_true rfl) rfl (fun ret hret => ?_)
  refine z_cx (d6_runsTold n eb M w hC) (fun M1 h1 => ?_)
  obtain ⟨i1, i2, i3, i4, i5, i6⟩ := h1
  refine z_bf (by decide) ?_
  refine z_go ?_
  refine z_bf (by decide) ?_
  refine z_go ?_
  refine z_bf (by decide) ?_
  refine z_go ?_
  refine And.intro (z_inN0 (by omega) (by omega)) ?_
  refine z_rq hret (z_vi ?_) ⟨i1, i3⟩
  rw [aBag_y (by omega) (by omega), if_neg (by decide), if_neg (by decide), if_neg (by decide)]
  show M1 65 (nI h).toNatClampNeg = _
  rw [z_cl (by omega)]
  exact (i2 h (by omega)).2.2.2.1
set_option maxRecDepth 10000 in
set_option maxHeartbeats 1000000 in
theorem e6_bag (n eb : Nat) (M : zM) (w : Rw) (hC : rC w M) (x y : Int32) : zMet zi_X6_bag [.ref 45, .int x, .int y] (zLay n eb) M (zLay n eb) (zr (some (.int (aBag w x y))) (fun M' => rC w M' ∧ rSm M M')) := by
  refine z_mr (zk_X6_bag _ _) rfl (Nat.le_of_ble_eq_true rfl) rfl (fun ret hret => ?_)
  by_cases hx : 0 ≤ x ∧ x ≤ 39
  · by_cases hy : 0 ≤ y ∧ y ≤ 3
    · obtain ⟨h, hh, rfl⟩ := rg 39 rfl (by omega) hx
      obtain ⟨j, hj, rfl⟩ := rg 3 rfl (by omega) hy
      rcases (show j = 0 ∨ j = 1 ∨ j = 2 ∨ j = 3 by omega) with e | e | e | e
      · subst e
        refine z_ca (z_cv 1 (c6_isHour _ _ _ (Nat.le_of_ble_eq_true rfl)) (zb_1 hx)) ?_
        refine z_bf (by decide) ?_
        refine z_ca (z_cv 1 (c6_in _ _ _ _ _ (Nat.le_of_ble_eq_true rfl)) (zb_1 hy)) ?_
        refine z_bf (by decide) ?_
        refine z_cx (d6_bagOf0 n eb M w hC h (by omega)) (fun M1 h1 => ?_)
        refine z_go ?_
        exact z_rq hret rfl h1
      · subst e
        refine z_ca (z_cv 1 (c6_isHour _ _ _ (Nat.le_of_ble_eq_true rfl)) (zb_1 hx)) ?_
        refine z_bf (by decide) ?_
        refine z_ca (z_cv 1 (c6_in _ _ _ _ _ (Nat.le_of_ble_eq_true rfl)) (zb_1 hy)) ?_
        refine z_bf (by decide) ?_
        refine z_cx (d6_bagOf1 n eb M w hC h (by omega)) (fun M1 h1 => ?_)
        refine z_go ?_
        exact z_rq hret rfl h1
      · subst e
        refine z_ca (z_cv 1 (c6_isHour _ _ _ (Nat.le_of_ble_eq_true rfl)) (zb_1 hx)) ?_
        refine z_bf (by decide) ?_
        refine z_ca (z_cv 1 (c6_in _ _ _ _ _ (Nat.le_of_ble_eq_true rfl)) (zb_1 hy)) ?_
        refine z_bf (by decide) ?_
        refine z_cx (d6_bagOf2 n eb M w hC h (by omega)) (fun M1 h1 => ?_)
        refine z_go ?_
        exact z_rq hret rfl h1
      · subst e
        refine z_ca (z_cv 1 (c6_isHour _ _ _ (Nat.le_of_ble_eq_true rfl)) (zb_1 hx)) ?_
        refine z_bf (by decide) ?_
        refine z_ca (z_cv 1 (c6_in _ _ _ _ _ (Nat.le_of_ble_eq_true rfl)) (zb_1 hy)) ?_
        refine z_bf (by decide) ?_
        refine z_cx (d6_bagOf3 n eb M w hC h (by omega)) (fun M1 h1 => ?_)
        refine z_go ?_
        exact z_rq hret rfl h1
    · refine z_ca (z_cv 1 (c6_isHour _ _ _ (Nat.le_of_ble_eq_true rfl)) (zb_1 hx)) ?_
      refine z_bf (by decide) ?_
      refine z_ca (z_cv 0 (c6_in _ _ _ _ _ (Nat.le_of_ble_eq_true rfl)) (zb_0 hy)) ?_
      refine z_bt (by decide) ?_
      refine z_go ?_
      exact z_rq hret (z_vi (show _ = aBag w x y from (if_neg (fun z => hy z.2)).symm)) ⟨hC, rSm_rf M⟩
  · refine z_ca (z_cv 0 (c6_isHour _ _ _ (Nat.le_of_ble_eq_true rfl)) (zb_0 hx)) ?_
    refine z_bt (by decide) ?_
    refine z_go ?_
    exact z_rq hret (z_vi (show _ = aBag w x y from (if_neg (fun z => hx z.1)).symm)) ⟨hC, rSm_rf M⟩
set_option maxRecDepth 10000 in
set_option maxHeartbeats 1000000 in
theorem e5_got (n : Nat) (M : zM) (w : Rw) (hI : cI w M) (x z y : Int32) : zMet zi_X5_got [.ref 2, .int x, .int z, .int y] (zLay n 15) M (zLay n 15) (zr (some (.int (aGot w x z y))) (fun M' => cI w M' ∧ ∀ p, 45 ≤ p → M' p = M p)) := by
  refine z_mr (zk_X5_got _ _) rfl (Nat.le_of_ble_eq_true rfl) rfl (fun ret hret => ?_)
  have h8 := tN8 w
  by_cases hx : 0 ≤ x ∧ x ≤ 39
  · by_cases hz : 0 ≤ z ∧ z ≤ nI (tN w) - 1
    · by_cases hy : 0 ≤ y ∧ y ≤ 2
      · obtain ⟨h, hh, rfl⟩ := rg 39 rfl (by omega) hx
        obtain ⟨k, hk, rfl⟩ := rgH h8 hz
        obtain ⟨j, hj, rfl⟩ := rg 2 rfl (by omega) hy
        rcases (show j = 0 ∨ j = 1 ∨ j = 2 by omega) with e | e | e
        · subst e
          refine z_ca (z_cv 1 (c5_isHour _ _ _ (Nat.le_of_ble_eq_true rfl)) (zb_1 hx)) ?_
          refine z_bf (by decide) ?_
          refine z_ca (z_cv 1 (d5_isHouse n 15 M w hI.1 _) (zb_1 hz)) ?_
          refine z_bf (by decide) ?_
          refine z_ca (z_cv 1 (c5_within _ _ _ _ _ (Nat.le_of_ble_eq_true rfl)) (zb_1 hy)) ?_
          refine z_bf (by decide) ?_
          refine z_go ?_
          refine z_bt (by decide) ?_
          refine z_cx (d5_toldCourse n M w hI) (fun M1 h1 => ?_)
          obtain ⟨i1, i2, i3⟩ := h1
          refine z_ca (c0_gotBy21 n 15 M1 h k (by omega) (by omega)) ?_
          exact z_rq hret (z_vi (by rw [aGot_y (by omega) hk (by omega)]; exact (i2 h (by omega)).2.2.2.2 k hk)) ⟨i1, i3⟩
        · subst e
          have hat : nI h * 8 + nI k = nI (8 * h + k) := by rw [show (8 : Int32) = nI 8 from rfl, pk_mul, nI_add, Nat.mul_comm]
          have hd : M 14 (nI h * 8 + nI k).toNatClampNeg = pDn (w.1 1) (w.2 0) k (h % pLn (w.1 1) (w.2 0) k) := by
            rw [hat, z_cl (by omega)]
            exact (hI.1.2.2.2.2.2.1 k hk).2.2.2.2.2 h (by omega)
          refine z_ca (z_cv 1 (c5_isHour _ _ _ (Nat.le_of_ble_eq_true rfl)) (zb_1 hx)) ?_
          refine z_bf (by decide) ?_
          refine z_ca (z_cv 1 (d5_isHouse n 15 M w hI.1 _) (zb_1 hz)) ?_
          refine z_bf (by decide) ?_
          refine z_ca (z_cv 1 (c5_within _ _ _ _ _ (Nat.le_of_ble_eq_true rfl)) (zb_1 hy)) ?_
          refine z_bf (by decide) ?_
          refine z_go ?_
          refine z_bf (by decide) ?_
          refine z_go ?_
          refine And.intro (by show vp_in (nI h * 8 + nI k) 320; rw [hat]; exact z_inN0 (by omega) (by omega)) ?_
          refine z_bt (by decide) ?_
          refine z_ca (z_cv (tNd w h k) (c5_needOf _ _ _ (Nat.le_of_ble_eq_true rfl)) (by show mNeed (M 14 (nI h * 8 + nI k).toNatClampNeg) = _; rw [hd]; exact mNeed_sh (pDn_ok _ _ hk (Nat.mod_lt _ (pLn_1 _ _ _).1)))) ?_
          refine z_go ?_
          exact z_rq hret (z_vi (by rw [aGot_y (by omega) hk (by omega)]; rfl)) ⟨hI, fun _ _ => rfl⟩
        · subst e
          have hat : nI h * 8 + nI k = nI (8 * h + k) := by rw [show (8 : Int32) = nI 8 from rfl, pk_mul, nI_add, Nat.mul_comm]
          have hd : M 14 (nI h * 8 + nI k).toNatClampNeg = pDn (w.1 1) (w.2 0) k (h % pLn (w.1 1) (w.2 0) k) := by
            rw [hat, z_cl (by omega)]
            exact (hI.1.2.2.2.2.2.1 k hk).2.2.2.2.2 h (by omega)
          refine z_ca (z_cv 1 (c5_isHour _ _ _ (Nat.le_of_ble_eq_true rfl)) (zb_1 hx)) ?_
          refine z_bf (by decide) ?_
          refine z_ca (z_cv 1 (d5_isHouse n 15 M w hI.1 _) (zb_1 hz)) ?_
          refine z_bf (by decide) ?_
          refine z_ca (z_cv 1 (c5_within _ _ _ _ _ (Nat.le_of_ble_eq_true rfl)) (zb_1 hy)) ?_
          refine z_bf (by decide) ?_
          refine z_go ?_
          refine z_bf (by decide) ?_
          refine z_go ?_
          refine And.intro (by show vp_in (nI h * 8 + nI k) 320; rw [hat]; exact z_inN0 (by omega) (by omega)) ?_
          refine z_bf (by decide) ?_
          refine z_go ?_
          exact z_rq hret (z_vi (by rw [aGot_y (by omega) hk (by omega)]; exact hd)) ⟨hI, fun _ _ => rfl⟩
      · refine z_ca (z_cv 1 (c5_isHour _ _ _ (Nat.le_of_ble_eq_true rfl)) (zb_1 hx)) ?_
        refine z_bf (by decide) ?_
        refine z_ca (z_cv 1 (d5_isHouse n 15 M w hI.1 _) (zb_1 hz)) ?_
        refine z_bf (by decide) ?_
        refine z_ca (z_cv 0 (c5_within _ _ _ _ _ (Nat.le_of_ble_eq_true rfl)) (zb_0 hy)) ?_
        refine z_bt (by decide) ?_
        exact z_rq hret (z_vi (show _ = aGot w x z y from (if_neg (fun q => hy q.2.2)).symm)) ⟨hI, fun _ _ => rfl⟩
    · refine z_ca (z_cv 1 (c5_isHour _ _ _ (Nat.le_of_ble_eq_true rfl)) (zb_1 hx)) ?_
      refine z_bf (by decide) ?_
      refine z_ca (z_cv 0 (d5_isHouse n 15 M w hI.1 _) (zb_0 hz)) ?_
      refine z_bt (by decide) ?_
      refine z_go ?_
      exact z_rq hret (z_vi (show _ = aGot w x z y from (if_neg (fun q => hz q.2.1)).symm)) ⟨hI, fun _ _ => rfl⟩
  · refine z_ca (z_cv 0 (c5_isHour _ _ _ (Nat.le_of_ble_eq_true rfl)) (zb_0 hx)) ?_
    refine z_bt (by decide) ?_
    refine z_go ?_
    exact z_rq hret (z_vi (show _ = aGot w x z y from (if_neg (fun q => hx q.1)).symm)) ⟨hI, fun _ _ => rfl⟩
set_option maxRecDepth 10000 in
set_option maxHeartbeats 1000000 in
theorem d6_gotOf0 (n eb : Nat) (M : zM) (w : Rw) (hC : rC w M) (h k : Nat) (hh : h < 40) (hk : k < tN w) : zMet zi_X6_gotOf [.ref 45, .int (nI h), .int (nI k), .int (nI 0)] (zLay n eb) M (zLay n eb) (zr (some (.int (aGot w (nI h) (nI k) (nI 0)))) (fun M' => rC w M' ∧ rSm M M')) := by
  refine z_mr (zk_X6_gotOf _ _) rfl (Nat.le_of_ble_eq_true rfl) rfl (fun ret hret => ?_)
  have h8 := tN8 w
  have hat : 8 * nI h + nI k = nI (8 * h + k) := by rw [show (8 : Int32) = nI 8 from rfl, pk_mul, nI_add]
  refine z_cx (d6_runsTold n eb M w hC) (fun M1 h1 => ?_)
  obtain ⟨i1, i2, i3, i4, i5, i6⟩ := h1
  refine z_bt (by decide) ?_
  refine And.intro (by show vp_in (8 * nI h + nI k) 320; rw [hat]; exact z_inN0 (by omega) (by omega)) ?_
  refine z_go ?_
  refine z_rq hret (z_vi ?_) ⟨i1, i3⟩
  rw [aGot_y hh hk (by omega)]
  show M1 66 (8 * nI h + nI k).toNatClampNeg = _
  rw [hat, z_cl (by omega)]
  exact (i2 h hh).2.2.2.2 k hk
set_option maxRecDepth 10000 in
set_option maxHeartbeats 1000000 in
theorem d6_gotOf1 (n eb : Nat) (M : zM) (w : Rw) (hC : rC w M) (h k : Nat) (hh : h < 40) (hk : k < tN w) : zMet zi_X6_gotOf [.ref 45, .int (nI h), .int (nI k), .int (nI 1)] (zLay n eb) M (zLay n eb) (zr (some (.int (aGot w (nI h) (nI k) (nI 1)))) (fun M' => rC w M' ∧ rSm M M')) := by
  refine z_mr (zk_X6_gotOf _ _) rfl (Nat.le_of_ble_eq_true rfl) rfl (fun ret hret => ?_)
  have h8 := tN8 w
  have hat : 8 * nI h + nI k = nI (8 * h + k) := by rw [show (8 : Int32) = nI 8 from rfl, pk_mul, nI_add]
  refine z_cx (d6_runsTold n eb M w hC) (fun M1 h1 => ?_)
  obtain ⟨i1, i2, i3, i4, i5, i6⟩ := h1
  refine z_bf (by decide) ?_
  refine z_go ?_
  refine z_bt (by decide) ?_
  refine z_ca (z_cv (tNd w h k) (c6_needs n eb M1 k h (pLn (w.1 1) (w.2 0) k) (by omega) hh (pLn_1 _ _ _).1 (pLn_1 _ _ _).2 (i6 k hk).2.2.2.1) (by rw [(i6 k hk).2.2.2.2 _ (Nat.mod_lt _ (pLn_1 _ _ _).1)]; rfl)) ?_
  refine z_go ?_
  exact z_rq hret (z_vi (by rw [aGot_y hh hk (by omega)]; rfl)) ⟨i1, i3⟩
set_option maxRecDepth 10000 in
set_option maxHeartbeats 1000000 in
theorem d6_gotOf2 (n eb : Nat) (M : zM) (w : Rw) (hC : rC w M) (h k : Nat) (hh : h < 40) (hk : k < tN w) : zMet zi_X6_gotOf [.ref 45, .int (nI h), .int (nI k), .int (nI 2)] (zLay n eb) M (zLay n eb) (zr (some (.int (aGot w (nI h) (nI k) (nI 2)))) (fun M' => rC w M' ∧ rSm M M')) := by
  refine z_mr (zk_X6_gotOf _ _) rfl (Nat.le_of_ble_eq_true rfl) rfl (fun ret hret => ?_)
  have h8 := tN8 w
  have hat : 8 * nI h + nI k = nI (8 * h + k) := by rw [show (8 : Int32) = nI 8 from rfl, pk_mul, nI_add]
  refine z_cx (d6_runsTold n eb M w hC) (fun M1 h1 => ?_)
  obtain ⟨i1, i2, i3, i4, i5, i6⟩ := h1
  refine z_bf (by decide) ?_
  refine z_go ?_
  refine z_bf (by decide) ?_
  refine z_go ?_
  refine z_ca (z_cv (pDn (w.1 1) (w.2 0) k (h % pLn (w.1 1) (w.2 0) k)) (c6_doneIn n eb M1 k h (pLn (w.1 1) (w.2 0) k) (by omega) hh (pLn_1 _ _ _).1 (pLn_1 _ _ _).2 (i6 k hk).2.2.2.1) ((i6 k hk).2.2.2.2 _ (Nat.mod_lt _ (pLn_1 _ _ _).1))) ?_
  exact z_rq hret (z_vi (by rw [aGot_y hh hk (by omega)]; rfl)) ⟨i1, i3⟩
set_option maxRecDepth 10000 in
set_option maxHeartbeats 1000000 in
theorem e6_got (n eb : Nat) (M : zM) (w : Rw) (hC : rC w M) (x z y : Int32) : zMet zi_X6_got [.ref 45, .int x, .int z, .int y] (zLay n eb) M (zLay n eb) (zr (some (.int (aGot w x z y))) (fun M' => rC w M' ∧ rSm M M')) := by
  refine z_mr (zk_X6_got _ _) rfl (Nat.le_of_ble_eq_true rfl) rfl (fun ret hret => ?_)
  have h8 := tN8 w
  by_cases hx : 0 ≤ x ∧ x ≤ 39
  · by_cases hz : 0 ≤ z ∧ z ≤ nI (tN w) - 1
    · by_cases hy : 0 ≤ y ∧ y ≤ 2
      · obtain ⟨h, hh, rfl⟩ := rg 39 rfl (by omega) hx
        obtain ⟨k, hk, rfl⟩ := rgH h8 hz
        obtain ⟨j, hj, rfl⟩ := rg 2 rfl (by omega) hy
        rcases (show j = 0 ∨ j = 1 ∨ j = 2 by omega) with e | e | e
        · subst e
          refine z_ca (z_cv 1 (c6_isHour _ _ _ (Nat.le_of_ble_eq_true rfl)) (zb_1 hx)) ?_
          refine z_bf (by decide) ?_
          refine z_cx (zMet_v 1 (d6_isHouse n eb M w hC _) (zb_1 hz)) (fun M1 h1 => ?_)
          refine z_bf (by decide) ?_
          refine z_ca (z_cv 1 (c6_in _ _ _ _ _ (Nat.le_of_ble_eq_true rfl)) (zb_1 hy)) ?_
          refine z_bf (by decide) ?_
          refine z_cx (d6_gotOf0 n eb M1 w h1.1 h k (by omega) hk) (fun M2 h2 => ?_)
          refine z_go ?_
          exact z_rq hret rfl ⟨h2.1, rSm_tr h1.2.1 h2.2⟩
        · subst e
          refine z_ca (z_cv 1 (c6_isHour _ _ _ (Nat.le_of_ble_eq_true rfl)) (zb_1 hx)) ?_
          refine z_bf (by decide) ?_
          refine z_cx (zMet_v 1 (d6_isHouse n eb M w hC _) (zb_1 hz)) (fun M1 h1 => ?_)
          refine z_bf (by decide) ?_
          refine z_ca (z_cv 1 (c6_in _ _ _ _ _ (Nat.le_of_ble_eq_true rfl)) (zb_1 hy)) ?_
          refine z_bf (by decide) ?_
          refine z_cx (d6_gotOf1 n eb M1 w h1.1 h k (by omega) hk) (fun M2 h2 => ?_)
          refine z_go ?_
          exact z_rq hret rfl ⟨h2.1, rSm_tr h1.2.1 h2.2⟩
        · subst e
          refine z_ca (z_cv 1 (c6_isHour _ _ _ (Nat.le_of_ble_eq_true rfl)) (zb_1 hx)) ?_
          refine z_bf (by decide) ?_
          refine z_cx (zMet_v 1 (d6_isHouse n eb M w hC _) (zb_1 hz)) (fun M1 h1 => ?_)
          refine z_bf (by decide) ?_
          refine z_ca (z_cv 1 (c6_in _ _ _ _ _ (Nat.le_of_ble_eq_true rfl)) (zb_1 hy)) ?_
          refine z_bf (by decide) ?_
          refine z_cx (d6_gotOf2 n eb M1 w h1.1 h k (by omega) hk) (fun M2 h2 => ?_)
          refine z_go ?_
          exact z_rq hret rfl ⟨h2.1, rSm_tr h1.2.1 h2.2⟩
      · refine z_ca (z_cv 1 (c6_isHour _ _ _ (Nat.le_of_ble_eq_true rfl)) (zb_1 hx)) ?_
        refine z_bf (by decide) ?_
        refine z_cx (zMet_v 1 (d6_isHouse n eb M w hC _) (zb_1 hz)) (fun M1 h1 => ?_)
        refine z_bf (by decide) ?_
        refine z_ca (z_cv 0 (c6_in _ _ _ _ _ (Nat.le_of_ble_eq_true rfl)) (zb_0 hy)) ?_
        refine z_bt (by decide) ?_
        refine z_go ?_
        exact z_rq hret (z_vi (show _ = aGot w x z y from (if_neg (fun q => hy q.2.2)).symm)) ⟨h1.1, h1.2.1⟩
    · refine z_ca (z_cv 1 (c6_isHour _ _ _ (Nat.le_of_ble_eq_true rfl)) (zb_1 hx)) ?_
      refine z_bf (by decide) ?_
      refine z_cx (zMet_v 0 (d6_isHouse n eb M w hC _) (zb_0 hz)) (fun M1 h1 => ?_)
      refine z_bt (by decide) ?_
      refine z_go ?_
      exact z_rq hret (z_vi (show _ = aGot w x z y from (if_neg (fun q => hz q.2.1)).symm)) ⟨h1.1, h1.2.1⟩
  · refine z_ca (z_cv 0 (c6_isHour _ _ _ (Nat.le_of_ble_eq_true rfl)) (zb_0 hx)) ?_
    refine z_bt (by decide) ?_
    refine z_go ?_
    exact z_rq hret (z_vi (show _ = aGot w x z y from (if_neg (fun q => hx q.1)).symm)) ⟨hC, rSm_rf M⟩
