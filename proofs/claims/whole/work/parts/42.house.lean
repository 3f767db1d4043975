/-! fault, elbows, house, in both -/
noncomputable section
def aFault (w : Rw) (x : Int32) : Int32 := if 0 ≤ x ∧ x ≤ 1 then (if x = 0 then (pRes (w.1 1) (w.2 0)).1 else eFt (w.1 2) (w.2 1)) else -2
def aElbows (w : Rw) (x : Int32) : Int32 := if 0 ≤ x ∧ x ≤ 39 then eEl (w.1 2) (w.2 1) x.toNatClampNeg else -2
def aHs (w : Rw) (k j : Nat) : Int32 := if j = 0 then pOn (w.1 1) (w.2 0) k else if j = 1 then pNt (w.1 1) (w.2 0) k else if j = 2 then pWd (w.1 1) (w.2 0) k else if j = 3 then nI (pLn (w.1 1) (w.2 0) k) else if j - 4 < pLn (w.1 1) (w.2 0) k then pDn (w.1 1) (w.2 0) k (j - 4) else -1
def aHouse (w : Rw) (x y : Int32) : Int32 := if (0 ≤ x ∧ x ≤ nI (tN w) - 1) ∧ 0 ≤ y ∧ y ≤ 6 then aHs w x.toNatClampNeg y.toNatClampNeg else -2
end
theorem aHouse_y {w : Rw} {k j : Nat} (hk : k < tN w) (hj : j ≤ 6) : aHouse w (nI k) (nI j) = aHs w k j := by
  have h8 := tN8 w
  unfold aHouse
  rw [if_pos ⟨rgH' hk h8, nI_pos' (by omega), nI_le (a := j) (b := 6) hj (by omega)⟩, z_cl (by omega), z_cl (by omega)]
set_option maxRecDepth 10000 in
set_option maxHeartbeats 1000000 in
theorem c5_textOf0 (n eb : Nat) (M : zM) : zMet zi_X5_textOf [.ref 2, .int 0] (zLay n eb) M (zLay n eb) (zx (some (.ref 3)) M) := by
  refine z_me (zk_X5_textOf _ _) rfl (Nat.le_of_ble_eq_true rfl) rfl (fun ret hret => ?_)
  refine z_bt rfl ?_
  refine z_go ?_
  exact hret
set_option maxRecDepth 10000 in
set_option maxHeartbeats 1000000 in
theorem c5_textOf1 (n eb : Nat) (M : zM) (x : Int32) (hx : ¬ x = 0) : zMet zi_X5_textOf [.ref 2, .int x] (zLay n eb) M (zLay n eb) (zx (some (.ref 5)) M) := by
  refine z_me (zk_X5_textOf _ _) rfl (Nat.le_of_ble_eq_true rfl) rfl (fun ret hret => ?_)
  refine z_bf hx ?_
  refine z_go ?_
  exact hret
set_option maxRecDepth 10000 in
set_option maxHeartbeats 1000000 in
theorem e5_fault (n : Nat) (M : zM) (w : Rw) (hI : cI w M) (x : Int32) : zMet zi_X5_fault [.ref 2, .int x] (zLay n 15) M (zLay n 15) (zr (some (.int (aFault w x))) (fun M' => cI w M' ∧ ∀ p, 45 ≤ p → M' p = M p)) := by
  refine z_mr (zk_X5_fault _ _) rfl (Nat.le_of_ble_eq_true rfl) rfl (fun ret hret => ?_)
  by_cases hx : 0 ≤ x ∧ x ≤ 1
  · by_cases h0 : x = 0
    · subst h0
      refine z_ca (z_cv 1 (c5_within _ _ _ _ _ (Nat.le_of_ble_eq_true rfl)) (zb_1 hx)) ?_
      refine z_bf (by decide) ?_
      refine z_ca (c5_textOf0 n 15 M) ?_
      refine z_go ?_
      refine z_rq hret (z_vi ?_) ⟨hI, fun _ _ => rfl⟩
      show M 3 3 = _
      rw [hI.1.2.1.2.2.1, aFault, if_pos hx, if_pos rfl]
    · refine z_ca (z_cv 1 (c5_within _ _ _ _ _ (Nat.le_of_ble_eq_true rfl)) (zb_1 hx)) ?_
      refine z_bf (by decide) ?_
      refine z_ca (c5_textOf1 n 15 M x h0) ?_
      refine z_go ?_
      refine z_rq hret (z_vi ?_) ⟨hI, fun _ _ => rfl⟩
      show M 5 3 = _
      rw [hI.1.2.2.1.2.2.1, aFault, if_pos hx, if_neg h0]
  · refine z_ca (z_cv 0 (c5_within _ _ _ _ _ (Nat.le_of_ble_eq_true rfl)) (zb_0 hx)) ?_
    refine z_bt (by decide) ?_
    refine z_go ?_
    exact z_rq hret (z_vi (by rw [aFault, if_neg hx])) ⟨hI, fun _ _ => rfl⟩
set_option maxRecDepth 10000 in
set_option maxHeartbeats 1000000 in
theorem e6_fault (n eb : Nat) (M : zM) (w : Rw) (hC : rC w M) (x : Int32) : zMet zi_X6_fault [.ref 45, .int x] (zLay n eb) M (zLay n eb) (zr (some (.int (aFault w x))) (fun M' => rC w M' ∧ rSm M M')) := by
  refine z_mr (zk_X6_fault _ _) rfl (Nat.le_of_ble_eq_true rfl) rfl (fun ret hret => ?_)
  by_cases hx : 0 ≤ x ∧ x ≤ 1
  · refine z_ca (z_cv 1 (c6_isText _ _ _ (Nat.le_of_ble_eq_true rfl)) (zb_1 hx)) ?_
    refine z_bf (by decide) ?_
    refine z_cx (d6_faultOf n eb M w hC x) (fun M1 h1 => ?_)
    refine z_go ?_
    exact z_rq hret (z_vi (by rw [aFault, if_pos hx])) ⟨h1.1, h1.2.1⟩
  · refine z_ca (z_cv 0 (c6_isText _ _ _ (Nat.le_of_ble_eq_true rfl)) (zb_0 hx)) ?_
    refine z_bt (by decide) ?_
    refine z_go ?_
    exact z_rq hret (z_vi (by rw [aFault, if_neg hx])) ⟨hC, rSm_rf M⟩
set_option maxRecDepth 10000 in
set_option maxHeartbeats 1000000 in
theorem e5_elbows (n : Nat) (M : zM) (w : Rw) (hI : cI w M) (x : Int32) : zMet zi_X5_elbows [.ref 2, .int x] (zLay n 15) M (zLay n 15) (zr (some (.int (aElbows w x))) (fun M' => cI w M' ∧ ∀ p, 45 ≤ p → M' p = M p)) := by
  refine z_mr (zk_X5_elbows _ _) rfl (Nat.le_of_ble_eq_true rfl) rfl (fun ret hret => ?_)
  by_cases hx : 0 ≤ x ∧ x ≤ 39
  · obtain ⟨h, hh, rfl⟩ := rg 39 rfl (by omega) hx
    refine z_ca (z_cv 1 (c5_isHour _ _ _ (Nat.le_of_ble_eq_true rfl)) (zb_1 hx)) ?_
    refine z_bf (by decide) ?_
    refine And.intro (z_inN0 (by omega) (by omega)) ?_
    refine z_go ?_
    refine z_rq hret (z_vi ?_) ⟨hI, fun _ _ => rfl⟩
    show M 15 (nI h).toNatClampNeg = _
    rw [aElbows, if_pos hx, z_cl (by omega)]
    exact hI.1.2.2.2.2.2.2.1 h (by omega)
  · refine z_ca (z_cv 0 (c5_isHour _ _ _ (Nat.le_of_ble_eq_true rfl)) (zb_0 hx)) ?_
    refine z_bt (by decide) ?_
    refine z_go ?_
    exact z_rq hret (z_vi (by rw [aElbows, if_neg hx])) ⟨hI, fun _ _ => rfl⟩
set_option maxRecDepth 10000 in
set_option maxHeartbeats 1000000 in
theorem d6_elbowsOf (n eb : Nat) (M : zM) (w : Rw) (hC : rC w M) (h : Nat) (hh : h < 40) : zMet zi_X6_elbowsOf [.ref 45, .int (nI h)] (zLay n eb) M (zLay n eb) (zr (some (.int (aElbows w (nI h)))) (fun M' => rC w M' ∧ rSm M M')) := by
  refine z_mr (zk_X6_elbowsOf _ _) rfl (Nat.le_of_ble_eq_true rfl) rfl (fun ret hret => ?_)
  refine z_cx (d6_reads n eb M w hC) (fun M1 h1 => ?_)
  refine And.intro (z_inN0 (by omega) (by omega)) ?_
  refine z_rq hret (z_vi ?_) ⟨h1.1, h1.2.1⟩
  show M1 53 (nI h).toNatClampNeg = _
  rw [aElbows, if_pos (h39 hh), z_cl (by omega)]
  exact h1.2.2.2.2.2 h hh
set_option maxRecDepth 10000 in
set_option maxHeartbeats 1000000 in
theorem e6_elbows (n eb : Nat) (M : zM) (w : Rw) (hC : rC w M) (x : Int32) : zMet zi_X6_elbows [.ref 45, .int x] (zLay n eb) M (zLay n eb) (zr (some (.int (aElbows w x))) (fun M' => rC w M' ∧ rSm M M')) := by
  refine z_mr (zk_X6_elbows _ _) rfl (Nat.le_of_ble_eq_true rfl) rfl (fun ret hret => ?_)
  by_cases hx : 0 ≤ x ∧ x ≤ 39
  · obtain ⟨h, hh, rfl⟩ := rg 39 rfl (by omega) hx
    refine z_ca (z_cv 1 (c6_isHour _ _ _ (Nat.le_of_ble_eq_true rfl)) (zb_1 hx)) ?_
    refine z_bf (by decide) ?_
    refine z_cx (d6_elbowsOf n eb M w hC h (by omega)) (fun M1 h1 => ?_)
    refine z_go ?_
    exact z_rq hret rfl h1
  · refine z_ca (z_cv 0 (c6_isHour _ _ _ (Nat.le_of_ble_eq_true rfl)) (zb_0 hx)) ?_
    refine z_bt (by decide) ?_
    refine z_go ?_
    exact z_rq hret (z_vi (by rw [aElbows, if_neg hx])) ⟨hC, rSm_rf M⟩
set_option maxRecDepth 10000 in
set_option maxHeartbeats 1000000 in
theorem d2_letter (n eb : Nat) (M : zM) (w : Rw) (hC : cC w M) (k s : Nat) (h8 : tN w ≤ 8) (hk : k < tN w) (hs3 : s ≤ 2) : zMet zi_X2_letter [.ref 8, .int (nI k), .int (nI s)] (zLay n eb) M (zLay n eb) (zx (some (.int (if s < pLn (w.1 1) (w.2 0) k then pDn (w.1 1) (w.2 0) k s else -1))) M) := by
  refine z_me (zk_X2_letter _ _) rfl (Nat.le_of_ble_eq_true rfl) rfl (fun ret hret => ?_)
  have hck : (nI k).toNatClampNeg = k := z_cl (by omega)
  have hl := pLn_1 (w.1 1) (w.2 0) k
  have hm := hC.2.2.2.2.2.1 k hk
  have e12 : M 12 (nI k).toNatClampNeg = nI (pLn (w.1 1) (w.2 0) k) := by rw [hck]; exact hm.2.2.2.1
  have hix : nI k * 3 + nI s = nI (3 * k + s) := by rw [show (3 : Int32) = nI 3 from rfl, pk_mul, nI_add, Nat.mul_comm]
  by_cases hs : s < pLn (w.1 1) (w.2 0) k
  · refine And.intro (z_inN0 (by omega) (by omega)) ?_
    refine z_ca (z_cv 1 (c5_within _ _ _ _ _ (Nat.le_of_ble_eq_true rfl)) (by rw [e12]; exact zb_1 (rgH' hs (by omega)))) ?_
    refine z_bf (by decide) ?_
    refine And.intro (by show vp_in (nI k * 3 + nI s) 24; rw [hix]; exact z_inN0 (by omega) (by omega)) ?_
    refine z_go ?_
    refine z_re hret (z_vi ?_) rfl
    show M 13 (nI k * 3 + nI s).toNatClampNeg = _
    rw [hix, z_cl (by omega), if_pos hs]
    exact hm.2.2.2.2.1 s hs
  · refine And.intro (z_inN0 (by omega) (by omega)) ?_
    refine z_ca (z_cv 0 (c5_within _ _ _ _ _ (Nat.le_of_ble_eq_true rfl)) (by rw [e12]; exact zb_0 (fun q => by obtain ⟨j, hj, e⟩ := rgH (by omega) q; exact hs (by have := (nI_eq (by omega) (by omega)).mp e; omega)))) ?_
    refine z_bt (by decide) ?_
    refine z_go ?_
    exact z_re hret (z_vi (by rw [if_neg hs])) rfl
set_option maxRecDepth 10000 in
set_option maxHeartbeats 1000000 in
theorem e5_house (n : Nat) (M : zM) (w : Rw) (hI : cI w M) (x y : Int32) : zMet zi_X5_house [.ref 2, .int x, .int y] (zLay n 15) M (zLay n 15) (zr (some (.int (aHouse w x y))) (fun M' => cI w M' ∧ ∀ p, 45 ≤ p → M' p = M p)) := by
  refine z_mr (zk_X5_house _ _) rfl (Nat.le_of_ble_eq_true rfl) rfl (fun ret hret => ?_)
  have h8 := tN8 w
  by_cases hx : 0 ≤ x ∧ x ≤ nI (tN w) - 1
  · by_cases hy : 0 ≤ y ∧ y ≤ 6
    · obtain ⟨k, hk, rfl⟩ := rgH h8 hx
      obtain ⟨j, hj, rfl⟩ := rg 6 rfl (by omega) hy
      rcases (show j = 0 ∨ j = 1 ∨ j = 2 ∨ j = 3 ∨ 4 ≤ j by omega) with e | e | e | e | e
      · subst e
        refine z_ca (z_cv 1 (d5_isHouse n 15 M w hI.1 _) (zb_1 hx)) ?_
        refine z_bf (by decide) ?_
        refine z_ca (z_cv 1 (c5_within _ _ _ _ _ (Nat.le_of_ble_eq_true rfl)) (zb_1 hy)) ?_
        refine z_bf (by decide) ?_
        refine z_go ?_
        refine z_swi (k := 0) (t := 52) rfl (by rfl) ?_
        refine z_go ?_
        refine And.intro (z_inN0 (by omega) (by omega)) ?_
        refine z_rq hret (z_vi ?_) ⟨hI, fun _ _ => rfl⟩
        show M 9 (nI k).toNatClampNeg = _
        rw [aHouse_y hk hj, aHs, if_pos rfl, z_cl (by omega)]
        exact (hI.1.2.2.2.2.2.1 k hk).1
      · subst e
        refine z_ca (z_cv 1 (d5_isHouse n 15 M w hI.1 _) (zb_1 hx)) ?_
        refine z_bf (by decide) ?_
        refine z_ca (z_cv 1 (c5_within _ _ _ _ _ (Nat.le_of_ble_eq_true rfl)) (zb_1 hy)) ?_
        refine z_bf (by decide) ?_
        refine z_go ?_
        refine z_swi (k := 1) (t := 65) rfl (by rfl) ?_
        refine z_go ?_
        refine And.intro (z_inN0 (by omega) (by omega)) ?_
        refine z_rq hret (z_vi ?_) ⟨hI, fun _ _ => rfl⟩
        show M 10 (nI k).toNatClampNeg = _
        rw [aHouse_y hk hj, aHs, if_neg (by decide), if_pos rfl, z_cl (by omega)]
        exact (hI.1.2.2.2.2.2.1 k hk).2.1
      · subst e
        refine z_ca (z_cv 1 (d5_isHouse n 15 M w hI.1 _) (zb_1 hx)) ?_
        refine z_bf (by decide) ?_
        refine z_ca (z_cv 1 (c5_within _ _ _ _ _ (Nat.le_of_ble_eq_true rfl)) (zb_1 hy)) ?_
        refine z_bf (by decide) ?_
        refine z_go ?_
        refine z_swi (k := 2) (t := 78) rfl (by rfl) ?_
        refine z_go ?_
        refine And.intro (z_inN0 (by omega) (by omega)) ?_
        refine z_rq hret (z_vi ?_) ⟨hI, fun _ _ => rfl⟩
        show M 11 (nI k).toNatClampNeg = _
        rw [aHouse_y hk hj, aHs, if_neg (by decide), if_neg (by decide), if_pos rfl, z_cl (by omega)]
        exact (hI.1.2.2.2.2.2.1 k hk).2.2.1
      · subst e
        refine z_ca (z_cv 1 (d5_isHouse n 15 M w hI.1 _) (zb_1 hx)) ?_
        refine z_bf (by decide) ?_
        refine z_ca (z_cv 1 (c5_within _ _ _ _ _ (Nat.le_of_ble_eq_true rfl)) (zb_1 hy)) ?_
        refine z_bf (by decide) ?_
        refine z_go ?_
        refine z_swi (k := 3) (t := 91) rfl (by rfl) ?_
        refine z_go ?_
        refine And.intro (z_inN0 (by omega) (by omega)) ?_
        refine z_rq hret (z_vi ?_) ⟨hI, fun _ _ => rfl⟩
        show M 12 (nI k).toNatClampNeg = _
        rw [aHouse_y hk hj, aHs, if_neg (by decide), if_neg (by decide), if_neg (by decide), if_pos rfl, z_cl (by omega)]
        exact (hI.1.2.2.2.2.2.1 k hk).2.2.2.1
      · have hsb : nI j - 4 = nI (j - 4) := by rw [show (4 : Int32) = nI 4 from rfl, pk_sub e]
        refine z_ca (z_cv 1 (d5_isHouse n 15 M w hI.1 _) (zb_1 hx)) ?_
        refine z_bf (by decide) ?_
        refine z_ca (z_cv 1 (c5_within _ _ _ _ _ (Nat.le_of_ble_eq_true rfl)) (zb_1 hy)) ?_
        refine z_bf (by decide) ?_
        refine z_go ?_
        refine z_swo (by right; rw [nI_toInt (by omega)]; simp; omega) ?_
        refine z_go ?_
        refine z_ca ((by show zMet zi_X2_letter [.ref 8, .int (nI k), .int (nI j - 4)] _ _ _ _; rw [hsb]; exact d2_letter n 15 M w hI.1 k (j - 4) h8 hk (by omega))) ?_
        exact z_rq hret (z_vi (by rw [aHouse_y hk hj]; unfold aHs; simp only [show ¬ j = 0 by omega, show ¬ j = 1 by omega, show ¬ j = 2 by omega, show ¬ j = 3 by omega, if_false])) ⟨hI, fun _ _ => rfl⟩
    · refine z_ca (z_cv 1 (d5_isHouse n 15 M w hI.1 _) (zb_1 hx)) ?_
      refine z_bf (by decide) ?_
      refine z_ca (z_cv 0 (c5_within _ _ _ _ _ (Nat.le_of_ble_eq_true rfl)) (zb_0 hy)) ?_
      refine z_bt (by decide) ?_
      exact z_rq hret (z_vi (show _ = aHouse w x y from (if_neg (fun z => hy z.2)).symm)) ⟨hI, fun _ _ => rfl⟩
  · refine z_ca (z_cv 0 (d5_isHouse n 15 M w hI.1 _) (zb_0 hx)) ?_
    refine z_bt (by decide) ?_
    refine z_go ?_
    exact z_rq hret (z_vi (show _ = aHouse w x y from (if_neg (fun z => hx z.1)).symm)) ⟨hI, fun _ _ => rfl⟩
set_option maxRecDepth 10000 in
set_option maxHeartbeats 1000000 in
theorem d6_houseOf0 (n eb : Nat) (M : zM) (w : Rw) (hm : rHm (w.1 1) (w.2 0) (tN w) M) (k : Nat) (hk : k < tN w) : zMet zi_X6_houseOf [.ref 45, .int (nI k), .int (nI 0)] (zLay n eb) M (zLay n eb) (zx (some (.int (aHouse w (nI k) (nI 0)))) M) := by
  refine z_me (zk_X6_houseOf _ _) rfl (Nat.le_of_ble_eq_true rfl) rfl (fun ret hret => ?_)
  have h8 := tN8 w
  refine z_bt (by decide) ?_
  refine And.intro (z_inN0 (by omega) (by omega)) ?_
  refine z_go ?_
  refine z_re hret (z_vi ?_) rfl
  show M 48 (nI k).toNatClampNeg = _
  rw [aHouse_y hk (by omega), aHs, if_pos rfl, z_cl (by omega)]
  exact (hm k hk).1
set_option maxRecDepth 10000 in
set_option maxHeartbeats 1000000 in
theorem d6_houseOf1 (n eb : Nat) (M : zM) (w : Rw) (hm : rHm (w.1 1) (w.2 0) (tN w) M) (k : Nat) (hk : k < tN w) : zMet zi_X6_houseOf [.ref 45, .int (nI k), .int (nI 1)] (zLay n eb) M (zLay n eb) (zx (some (.int (aHouse w (nI k) (nI 1)))) M) := by
  refine z_me (zk_X6_houseOf _ _) rfl (Nat.le_of_ble_eq_true rfl) rfl (fun ret hret => ?_)
  have h8 := tN8 w
  refine z_bf (by decide) ?_
  refine z_go ?_
  refine z_bt (by decide) ?_
  refine And.intro (z_inN0 (by omega) (by omega)) ?_
  refine z_go ?_
  refine z_re hret (z_vi ?_) rfl
  show M 49 (nI k).toNatClampNeg = _
  rw [aHouse_y hk (by omega), aHs, if_neg (by decide), if_pos rfl, z_cl (by omega)]
  exact (hm k hk).2.1
set_option maxRecDepth 10000 in
set_option maxHeartbeats 1000000 in
theorem d6_houseOf2 (n eb : Nat) (M : zM) (w : Rw) (hm : rHm (w.1 1) (w.2 0) (tN w) M) (k : Nat) (hk : k < tN w) : zMet zi_X6_houseOf [.ref 45, .int (nI k), .int (nI 2)] (zLay n eb) M (zLay n eb) (zx (some (.int (aHouse w (nI k) (nI 2)))) M) := by
  refine z_me (zk_X6_houseOf _ _) rfl (Nat.le_of_ble_eq_true rfl) rfl (fun ret hret => ?_)
  have h8 := tN8 w
  refine z_bf (by decide) ?_
  refine z_go ?_
  refine z_bf (by decide) ?_
  refine z_go ?_
  refine z_bt (by decide) ?_
  refine And.intro (z_inN0 (by omega) (by omega)) ?_
  refine z_go ?_
  refine z_re hret (z_vi ?_) rfl
  show M 50 (nI k).toNatClampNeg = _
  rw [aHouse_y hk (by omega), aHs, if_neg (by decide), if_neg (by decide), if_pos rfl, z_cl (by omega)]
  exact (hm k hk).2.2.1
set_option maxRecDepth 10000 in
set_option maxHeartbeats 1000000 in
theorem d6_houseOf3 (n eb : Nat) (M : zM) (w : Rw) (hm : rHm (w.1 1) (w.2 0) (tN w) M) (k : Nat) (hk : k < tN w) : zMet zi_X6_houseOf [.ref 45, .int (nI k), .int (nI 3)] (zLay n eb) M (zLay n eb) (zx (some (.int (aHouse w (nI k) (nI 3)))) M) := by
  refine z_me (zk_X6_houseOf _ _) rfl (Nat.le_of_ble_eq_true rfl) rfl (fun ret hret => ?_)
  have h8 := tN8 w
  refine z_bf (by decide) ?_
  refine z_go ?_
  refine z_bf (by decide) ?_
  refine z_go ?_
  refine z_bf (by decide) ?_
  refine z_go ?_
  refine z_bt (by decide) ?_
  refine And.intro (z_inN0 (by omega) (by omega)) ?_
  refine z_go ?_
  refine z_re hret (z_vi ?_) rfl
  show M 51 (nI k).toNatClampNeg = _
  rw [aHouse_y hk (by omega), aHs, if_neg (by decide), if_neg (by decide), if_neg (by decide), if_pos rfl, z_cl (by omega)]
  exact (hm k hk).2.2.2.1
set_option maxRecDepth 10000 in
set_option maxHeartbeats 1000000 in
theorem d6_houseOf4 (n eb : Nat) (M : zM) (w : Rw) (hm : rHm (w.1 1) (w.2 0) (tN w) M) (k j : Nat) (hk : k < tN w) (h4 : 4 ≤ j) (hj : j ≤ 6) : zMet zi_X6_houseOf [.ref 45, .int (nI k), .int (nI j)] (zLay n eb) M (zLay n eb) (zx (some (.int (aHouse w (nI k) (nI j)))) M) := by
  refine z_me (zk_X6_houseOf _ _) rfl (Nat.le_of_ble_eq_true rfl) rfl (fun ret hret => ?_)
  have h8 := tN8 w
  have hl := pLn_1 (w.1 1) (w.2 0) k
  have e51 : M 51 (nI k).toNatClampNeg = nI (pLn (w.1 1) (w.2 0) k) := by rw [z_cl (by omega)]; exact (hm k hk).2.2.2.1
  have hsb : nI j - 4 = nI (j - 4) := by rw [show (4 : Int32) = nI 4 from rfl, pk_sub h4]
  have hix : 3 * nI k + nI j - 4 = nI (3 * k + (j - 4)) := by rw [show (3 : Int32) = nI 3 from rfl, pk_mul, nI_add, show (4 : Int32) = nI 4 from rfl, pk_sub (by omega), show 3 * k + j - 4 = 3 * k + (j - 4) by omega]
  by_cases hs : j - 4 < pLn (w.1 1) (w.2 0) k
  · refine z_bf (fun z => absurd ((nI_eq (a := j) (b := 0) (by omega) (by omega)).mp z) (by omega)) ?_
    refine z_go ?_
    refine z_bf (fun z => absurd ((nI_eq (a := j) (b := 1) (by omega) (by omega)).mp z) (by omega)) ?_
    refine z_go ?_
    refine z_bf (fun z => absurd ((nI_eq (a := j) (b := 2) (by omega) (by omega)).mp z) (by omega)) ?_
    refine z_go ?_
    refine z_bf (fun z => absurd ((nI_eq (a := j) (b := 3) (by omega) (by omega)).mp z) (by omega)) ?_
    refine z_go ?_
    refine And.intro (z_inN0 (by omega) (by omega)) ?_
    refine z_bf (by show ¬ M 51 (nI k).toNatClampNeg ≤ nI j - 4; rw [e51, hsb]; exact nI_ge hs (by omega)) ?_
    refine And.intro (by show vp_in (3 * nI k + nI j - 4) 27; rw [hix]; exact z_inN0 (by omega) (by omega)) ?_
    refine z_go ?_
    refine z_re hret (z_vi ?_) rfl
    show M 52 (3 * nI k + nI j - 4).toNatClampNeg = _
    rw [hix, z_cl (by omega), aHouse_y hk hj, aHs, if_neg (by omega), if_neg (by omega), if_neg (by omega), if_neg (by omega), if_pos hs]
    exact (hm k hk).2.2.2.2 _ hs
  · refine z_bf (fun z => absurd ((nI_eq (a := j) (b := 0) (by omega) (by omega)).mp z) (by omega)) ?_
    refine z_go ?_
    refine z_bf (fun z => absurd ((nI_eq (a := j) (b := 1) (by omega) (by omega)).mp z) (by omega)) ?_
    refine z_go ?_
    refine z_bf (fun z => absurd ((nI_eq (a := j) (b := 2) (by omega) (by omega)).mp z) (by omega)) ?_
    refine z_go ?_
    refine z_bf (fun z => absurd ((nI_eq (a := j) (b := 3) (by omega) (by omega)).mp z) (by omega)) ?_
    refine z_go ?_
    refine And.intro (z_inN0 (by omega) (by omega)) ?_
    refine z_bt (by show M 51 (nI k).toNatClampNeg ≤ nI j - 4; rw [e51, hsb]; exact nI_le (by omega) (by omega)) ?_
    refine z_go ?_
    exact z_re hret (z_vi (by rw [aHouse_y hk hj, aHs, if_neg (by omega), if_neg (by omega), if_neg (by omega), if_neg (by omega), if_neg hs])) rfl
set_option maxRecDepth 10000 in
set_option maxHeartbeats 1000000 in
theorem e6_house (n eb : Nat) (M : zM) (w : Rw) (hC : rC w M) (x y : Int32) : zMet zi_X6_house [.ref 45, .int x, .int y] (zLay n eb) M (zLay n eb) (zr (some (.int (aHouse w x y))) (fun M' => rC w M' ∧ rSm M M')) := by
  refine z_mr (zk_X6_house _ _) rfl (Nat.le_of_ble_eq_true rfl) rfl (fun ret hret => ?_)
  have h8 := tN8 w
  by_cases hx : 0 ≤ x ∧ x ≤ nI (tN w) - 1
  · by_cases hy : 0 ≤ y ∧ y ≤ 6
    · obtain ⟨k, hk, rfl⟩ := rgH h8 hx
      obtain ⟨j, hj, rfl⟩ := rg 6 rfl (by omega) hy
      rcases (show j = 0 ∨ j = 1 ∨ j = 2 ∨ j = 3 ∨ 4 ≤ j by omega) with e | e | e | e | e
      · subst e
        refine z_cx (zMet_v 1 (d6_isHouse n eb M w hC _) (zb_1 hx)) (fun M1 h1 => ?_)
        refine z_bf (by decide) ?_
        refine z_ca (z_cv 1 (c6_in _ _ _ _ _ (Nat.le_of_ble_eq_true rfl)) (zb_1 hy)) ?_
        refine z_bf (by decide) ?_
        refine z_ca (d6_houseOf0 n eb M1 w h1.2.2.2.2.1 k hk) ?_
        refine z_go ?_
        exact z_rq hret rfl ⟨h1.1, h1.2.1⟩
      · subst e
        refine z_cx (zMet_v 1 (d6_isHouse n eb M w hC _) (zb_1 hx)) (fun M1 h1 => ?_)
        refine z_bf (by decide) ?_
        refine z_ca (z_cv 1 (c6_in _ _ _ _ _ (Nat.le_of_ble_eq_true rfl)) (zb_1 hy)) ?_
        refine z_bf (by decide) ?_
        refine z_ca (d6_houseOf1 n eb M1 w h1.2.2.2.2.1 k hk) ?_
        refine z_go ?_
        exact z_rq hret rfl ⟨h1.1, h1.2.1⟩
      · subst e
        refine z_cx (zMet_v 1 (d6_isHouse n eb M w hC _) (zb_1 hx)) (fun M1 h1 => ?_)
        refine z_bf (by decide) ?_
        refine z_ca (z_cv 1 (c6_in _ _ _ _ _ (Nat.le_of_ble_eq_true rfl)) (zb_1 hy)) ?_
        refine z_bf (by decide) ?_
        refine z_ca (d6_houseOf2 n eb M1 w h1.2.2.2.2.1 k hk) ?_
        refine z_go ?_
        exact z_rq hret rfl ⟨h1.1, h1.2.1⟩
      · subst e
        refine z_cx (zMet_v 1 (d6_isHouse n eb M w hC _) (zb_1 hx)) (fun M1 h1 => ?_)
        refine z_bf (by decide) ?_
        refine z_ca (z_cv 1 (c6_in _ _ _ _ _ (Nat.le_of_ble_eq_true rfl)) (zb_1 hy)) ?_
        refine z_bf (by decide) ?_
        refine z_ca (d6_houseOf3 n eb M1 w h1.2.2.2.2.1 k hk) ?_
        refine z_go ?_
        exact z_rq hret rfl ⟨h1.1, h1.2.1⟩
      · refine z_cx (zMet_v 1 (d6_isHouse n eb M w hC _) (zb_1 hx)) (fun M1 h1 => ?_)
        refine z_bf (by decide) ?_
        refine z_ca (z_cv 1 (c6_in _ _ _ _ _ (Nat.le_of_ble_eq_true rfl)) (zb_1 hy)) ?_
        refine z_bf (by decide) ?_
        refine z_ca (d6_houseOf4 n eb M1 w h1.2.2.2.2.1 k j hk e hj) ?_
        refine z_go ?_
        exact z_rq hret rfl ⟨h1.1, h1.2.1⟩
    · refine z_cx (zMet_v 1 (d6_isHouse n eb M w hC _) (zb_1 hx)) (fun M1 h1 => ?_)
      refine z_bf (by decide) ?_
      refine z_ca (z_cv 0 (c6_in _ _ _ _ _ (Nat.le_of_ble_eq_true rfl)) (zb_0 hy)) ?_
      refine z_bt (by decide) ?_
      refine z_go ?_
      exact z_rq hret (z_vi (show _ = aHouse w x y from (if_neg (fun z => hy z.2)).symm)) ⟨h1.1, h1.2.1⟩
  · refine z_cx (zMet_v 0 (d6_isHouse n eb M w hC _) (zb_0 hx)) (fun M1 h1 => ?_)
    refine z_bt (by decide) ?_
    refine z_go ?_
    exact z_rq hret (z_vi (show _ = aHouse w x y from (if_neg (fun z => hx z.1)).symm)) ⟨h1.1, h1.2.1⟩
