/-! shut, patch, least: the reference; least of the class -/
set_option maxRecDepth 10000 in
set_option maxHeartbeats 1000000 in
theorem d6_shutOf0 (n eb : Nat) (M : zM) (w : Rw) (hC : rC w M) (k : Nat) (hk : k < tN w) : zMet zi_X6_shutOf [.ref 45, .int (nI k), .int (nI 0)] (zLay n eb) M (zLay n eb) (zr (some (.int (aShut w (nI k) (nI 0)))) (fun M' => rC w M' ∧ rSm M M')) := by
  refine z_mr (zk_X6_shutOf _ _) rfl (Nat.le_of_ble_eq_true rfl) rfl (fun ret hret => ?_)
  have h8 := tN8 w
  refine z_cx (d6_asTold n eb M w hC) (fun M1 h1 => ?_)
  have loop := z_l3 (P := zp_X6_shutOf) (ret := ret) (pc := 14) (L := zLay n eb) (N := tN w) (lo := fun b f x => [some (.ref 45), some (.int (nI k)), some (.int (nI 0)), some (.int b), some (.int f), some (.int x), none]) (I := fun h b f x M' => rkT 21 M1 M' ∧ b = pB (pBest (gShut w k) h) ∧ f = pM (pBest (gShut w k) h) ∧ x = nI h) (by
    rintro h b f x M' hh ⟨hM, rfl, rfl, rfl⟩ ih
    have hch : (nI h).toNatClampNeg = h := z_cl (by omega)
    by_cases ek : h = k
    · have hno : gShut w k h = none := if_pos ek
      refine z_go ?_
      refine z_bf (by show ¬ M' 45 2 ≤ nI h; rw [hM.2 2 (by omega) (by omega), h1.2.1.1.1.2.1]; exact nI_ge hh (by omega)) ?_
      refine z_bt (by rw [ek]) ?_
      refine z_go ?_
      exact ih _ _ _ _ ⟨hM, (pBest_no hno).symm ▸ rfl, (pBest_no hno).symm ▸ rfl, nI_1 h⟩
    · have ht := rTr_21 (v := nI h) h1.2.1 hM
      rcases pBest_st (n := h) (v := _) (gShut_lt w k) (if_neg ek) with hq | hq
      · refine z_go ?_
        refine z_bf (by show ¬ M' 45 2 ≤ nI h; rw [hM.2 2 (by omega) (by omega), h1.2.1.1.1.2.1]; exact nI_ge hh (by omega)) ?_
        refine z_bf (fun c => ek ((nI_eq (by omega) (by omega)).mp c)) ?_
        refine z_cx (d_runs n eb _ (ht)) (fun M2 h2 => ?_)
        obtain ⟨q1, q2, q3⟩ := h2
        refine z_ca (c6_shortOf n eb _ (tN w) k _ h8 hk (fun t ht => (show M2 65 t = _ from crs_sh q3 t ht))) ?_
        refine z_bt hq.1 ?_
        refine z_go ?_
        refine z_bt hq.1 ?_
        refine z_go ?_
        refine ih _ _ _ _ ⟨rkT_run hM q1 q2, ?_, ?_, nI_1 h⟩
        · show pB (pBest (gShut w k) h) = _; rw [hq.2]
        · show pM (pBest (gShut w k) h) = _; rw [hq.2]
      · refine z_go ?_
        refine z_bf (by show ¬ M' 45 2 ≤ nI h; rw [hM.2 2 (by omega) (by omega), h1.2.1.1.1.2.1]; exact nI_ge hh (by omega)) ?_
        refine z_bf (fun c => ek ((nI_eq (by omega) (by omega)).mp c)) ?_
        refine z_cx (d_runs n eb _ (ht)) (fun M2 h2 => ?_)
        obtain ⟨q1, q2, q3⟩ := h2
        refine z_ca (c6_shortOf n eb _ (tN w) k _ h8 hk (fun t ht => (show M2 65 t = _ from crs_sh q3 t ht))) ?_
        refine z_bf hq.1 ?_
        refine z_go ?_
        refine z_bf hq.1 ?_
        refine z_go ?_
        refine ih _ _ _ _ ⟨rkT_run hM q1 q2, ?_, ?_, nI_1 h⟩
        · show nI h = _; exact (pB_p hq.2).1.symm
        · show nI _ = _; exact (pB_p hq.2).2.symm) (by
    rintro b f x M' ⟨hM, rfl, rfl, rfl⟩
    rcases pB_ne (pBest (gShut w k) (tN w)) (fun q hq => by have := (pBest_lt _ q hq).1; omega) with hz | hz
    · refine z_go ?_
      refine z_bt (by show M' 45 2 ≤ nI (tN w); rw [hM.2 2 (by omega) (by omega), h1.2.1.1.1.2.1]; exact nI_le (Nat.le_refl _) (by omega)) ?_
      refine z_go ?_
      refine z_bt hz.1 ?_
      refine z_go ?_
      refine z_go ?_
      refine z_rq hret (z_vi ?_) ⟨rC_sm h1.1 (rSm_rkT hM (by omega) (by omega) (by omega) (by omega)), rSm_tr h1.2.2 (rSm_rkT hM (by omega) (by omega) (by omega) (by omega))⟩
      rw [aShut, if_pos ⟨rgH' hk h8, by decide⟩, z_cl (by omega), show (nI 0).toNatClampNeg = 0 from rfl, hz.2]
      rfl
    · refine z_go ?_
      refine z_bt (by show M' 45 2 ≤ nI (tN w); rw [hM.2 2 (by omega) (by omega), h1.2.1.1.1.2.1]; exact nI_le (Nat.le_refl _) (by omega)) ?_
      refine z_go ?_
      refine z_bf hz.1 ?_
      refine z_bt rfl ?_
      refine z_go ?_
      refine z_rq hret (z_vi ?_) ⟨rC_sm h1.1 (rSm_rkT hM (by omega) (by omega) (by omega) (by omega)), rSm_tr h1.2.2 (rSm_rkT hM (by omega) (by omega) (by omega) (by omega))⟩
      rw [aShut, if_pos ⟨rgH' hk h8, by decide⟩, z_cl (by omega), show (nI 0).toNatClampNeg = 0 from rfl, pAns_0])
  exact loop 0 _ _ _ _ (Nat.zero_le _) ⟨rkT_rf _ _, rfl, rfl, rfl⟩
set_option maxRecDepth 10000 in
set_option maxHeartbeats 1000000 in
theorem d6_shutOf1 (n eb : Nat) (M : zM) (w : Rw) (hC : rC w M) (k : Nat) (hk : k < tN w) : zMet zi_X6_shutOf [.ref 45, .int (nI k), .int (nI 1)] (zLay n eb) M (zLay n eb) (zr (some (.int (aShut w (nI k) (nI 1)))) (fun M' => rC w M' ∧ rSm M M')) := by
  refine z_mr (zk_X6_shutOf _ _) rfl (Nat.le_of_ble_eq_true rfl) rfl (fun ret hret => ?_)
  have h8 := tN8 w
  refine z_cx (d6_asTold n eb M w hC) (fun M1 h1 => ?_)
  have loop := z_l3 (P := zp_X6_shutOf) (ret := ret) (pc := 14) (L := zLay n eb) (N := tN w) (lo := fun b f x => [some (.ref 45), some (.int (nI k)), some (.int (nI 1)), some (.int b), some (.int f), some (.int x), none]) (I := fun h b f x M' => rkT 21 M1 M' ∧ b = pB (pBest (gShut w k) h) ∧ f = pM (pBest (gShut w k) h) ∧ x = nI h) (by
    rintro h b f x M' hh ⟨hM, rfl, rfl, rfl⟩ ih
    have hch : (nI h).toNatClampNeg = h := z_cl (by omega)
    by_cases ek : h = k
    · have hno : gShut w k h = none := if_pos ek
      refine z_go ?_
      refine z_bf (by show ¬ M' 45 2 ≤ nI h; rw [hM.2 2 (by omega) (by omega), h1.2.1.1.1.2.1]; exact nI_ge hh (by omega)) ?_
      refine z_bt (by rw [ek]) ?_
      refine z_go ?_
      exact ih _ _ _ _ ⟨hM, (pBest_no hno).symm ▸ rfl, (pBest_no hno).symm ▸ rfl, nI_1 h⟩
    · have ht := rTr_21 (v := nI h) h1.2.1 hM
      rcases pBest_st (n := h) (v := _) (gShut_lt w k) (if_neg ek) with hq | hq
      · refine z_go ?_
        refine z_bf (by show ¬ M' 45 2 ≤ nI h; rw [hM.2 2 (by omega) (by omega), h1.2.1.1.1.2.1]; exact nI_ge hh (by omega)) ?_
        refine z_bf (fun c => ek ((nI_eq (by omega) (by omega)).mp c)) ?_
        refine z_cx (d_runs n eb _ (ht)) (fun M2 h2 => ?_)
        obtain ⟨q1, q2, q3⟩ := h2
        refine z_ca (c6_shortOf n eb _ (tN w) k _ h8 hk (fun t ht => (show M2 65 t = _ from crs_sh q3 t ht))) ?_
        refine z_bt hq.1 ?_
        refine z_go ?_
        refine z_bt hq.1 ?_
        refine z_go ?_
        refine ih _ _ _ _ ⟨rkT_run hM q1 q2, ?_, ?_, nI_1 h⟩
        · show pB (pBest (gShut w k) h) = _; rw [hq.2]
        · show pM (pBest (gShut w k) h) = _; rw [hq.2]
      · refine z_go ?_
        refine z_bf (by show ¬ M' 45 2 ≤ nI h; rw [hM.2 2 (by omega) (by omega), h1.2.1.1.1.2.1]; exact nI_ge hh (by omega)) ?_
        refine z_bf (fun c => ek ((nI_eq (by omega) (by omega)).mp c)) ?_
        refine z_cx (d_runs n eb _ (ht)) (fun M2 h2 => ?_)
        obtain ⟨q1, q2, q3⟩ := h2
        refine z_ca (c6_shortOf n eb _ (tN w) k _ h8 hk (fun t ht => (show M2 65 t = _ from crs_sh q3 t ht))) ?_
        refine z_bf hq.1 ?_
        refine z_go ?_
        refine z_bf hq.1 ?_
        refine z_go ?_
        refine ih _ _ _ _ ⟨rkT_run hM q1 q2, ?_, ?_, nI_1 h⟩
        · show nI h = _; exact (pB_p hq.2).1.symm
        · show nI _ = _; exact (pB_p hq.2).2.symm) (by
    rintro b f x M' ⟨hM, rfl, rfl, rfl⟩
    rcases pB_ne (pBest (gShut w k) (tN w)) (fun q hq => by have := (pBest_lt _ q hq).1; omega) with hz | hz
    · refine z_go ?_
      refine z_bt (by show M' 45 2 ≤ nI (tN w); rw [hM.2 2 (by omega) (by omega), h1.2.1.1.1.2.1]; exact nI_le (Nat.le_refl _) (by omega)) ?_
      refine z_go ?_
      refine z_bt hz.1 ?_
      refine z_go ?_
      refine z_go ?_
      refine z_rq hret (z_vi ?_) ⟨rC_sm h1.1 (rSm_rkT hM (by omega) (by omega) (by omega) (by omega)), rSm_tr h1.2.2 (rSm_rkT hM (by omega) (by omega) (by omega) (by omega))⟩
      rw [aShut, if_pos ⟨rgH' hk h8, by decide⟩, z_cl (by omega), show (nI 1).toNatClampNeg = 1 from rfl, hz.2]
      rfl
    · obtain ⟨hz1, q, hq⟩ := hz
      refine z_go ?_
      refine z_bt (by show M' 45 2 ≤ nI (tN w); rw [hM.2 2 (by omega) (by omega), h1.2.1.1.1.2.1]; exact nI_le (Nat.le_refl _) (by omega)) ?_
      refine z_go ?_
      refine z_bf hz1 ?_
      refine z_bf (by decide) ?_
      refine z_go ?_
      refine z_rq hret (z_vi ?_) ⟨rC_sm h1.1 (rSm_rkT hM (by omega) (by omega) (by omega) (by omega)), rSm_tr h1.2.2 (rSm_rkT hM (by omega) (by omega) (by omega) (by omega))⟩
      rw [aShut, if_pos ⟨rgH' hk h8, by decide⟩, z_cl (by omega), show (nI 1).toNatClampNeg = 1 from rfl, pAns_1 hq])
  exact loop 0 _ _ _ _ (Nat.zero_le _) ⟨rkT_rf _ _, rfl, rfl, rfl⟩
set_option maxRecDepth 10000 in
set_option maxHeartbeats 1000000 in
theorem e6_shut (n eb : Nat) (M : zM) (w : Rw) (hC : rC w M) (x y : Int32) : zMet zi_X6_shut [.ref 45, .int x, .int y] (zLay n eb) M (zLay n eb) (zr (some (.int (aShut w x y))) (fun M' => rC w M' ∧ rSm M M')) := by
  refine z_mr (zk_X6_shut _ _) rfl (Nat.le_of_ble_eq_true rfl) rfl (fun ret hret => ?_)
  have h8 := tN8 w
  by_cases hx : 0 ≤ x ∧ x ≤ nI (tN w) - 1
  · by_cases hy : 0 ≤ y ∧ y ≤ 1
    · obtain ⟨k, hk, rfl⟩ := rgH h8 hx
      obtain ⟨j, hj, rfl⟩ := rg 1 rfl (by omega) hy
      rcases (show j = 0 ∨ j = 1 by omega) with e | e
      · subst e
        refine z_cx (zMet_v 1 (d6_isHouse n eb M w hC _) (zb_1 hx)) (fun M1 h1 => ?_)
        refine z_bf (by decide) ?_
        refine z_ca (z_cv 1 (c6_in _ _ _ _ _ (Nat.le_of_ble_eq_true rfl)) (zb_1 hy)) ?_
        refine z_bf (by decide) ?_
        refine z_cx (d6_shutOf0 n eb M1 w h1.1 k hk) (fun M2 h2 => ?_)
        refine z_go ?_
        exact z_rq hret rfl ⟨h2.1, rSm_tr h1.2.1 h2.2⟩
      · subst e
        refine z_cx (zMet_v 1 (d6_isHouse n eb M w hC _) (zb_1 hx)) (fun M1 h1 => ?_)
        refine z_bf (by decide) ?_
        refine z_ca (z_cv 1 (c6_in _ _ _ _ _ (Nat.le_of_ble_eq_true rfl)) (zb_1 hy)) ?_
        refine z_bf (by decide) ?_
        refine z_cx (d6_shutOf1 n eb M1 w h1.1 k hk) (fun M2 h2 => ?_)
        refine z_go ?_
        exact z_rq hret rfl ⟨h2.1, rSm_tr h1.2.1 h2.2⟩
    · refine z_cx (zMet_v 1 (d6_isHouse n eb M w hC _) (zb_1 hx)) (fun M1 h1 => ?_)
      refine z_bf (by decide) ?_
      refine z_ca (z_cv 0 (c6_in _ _ _ _ _ (Nat.le_of_ble_eq_true rfl)) (zb_0 hy)) ?_
      refine z_bt (by decide) ?_
      refine z_go ?_
      exact z_rq hret (z_vi (show _ = aShut w x y from (if_neg (fun z => hy z.2)).symm)) ⟨h1.1, h1.2.1⟩
  · refine z_cx (zMet_v 0 (d6_isHouse n eb M w hC _) (zb_0 hx)) (fun M1 h1 => ?_)
    refine z_bt (by decide) ?_
    refine z_go ?_
    exact z_rq hret (z_vi (show _ = aShut w x y from (if_neg (fun z => hx z.1)).symm)) ⟨h1.1, h1.2.1⟩
set_option maxRecDepth 10000 in
set_option maxHeartbeats 1000000 in
theorem d6_patchOf0 (n eb : Nat) (M : zM) (w : Rw) (hC : rC w M) : zMet zi_X6_patchOf [.ref 45, .int (nI 0)] (zLay n eb) M (zLay n eb) (zr (some (.int (aPatch w (nI 0)))) (fun M' => rC w M' ∧ rSm M M')) := by
  refine z_mr (zk_X6_patchOf _ _) rfl (Nat.le_of_ble_eq_true rfl) rfl (fun ret hret => ?_)
  have h6 := hC.1.1.2.2.1
  refine z_cx (d6_asTold n eb M w hC) (fun M1 h1 => ?_)
  have loop := z_l3 (P := zp_X6_patchOf) (ret := ret) (pc := 13) (L := zLay n eb) (N := w.2 2) (lo := fun b f x => [some (.ref 45), some (.int (nI 0)), some (.int b), some (.int f), some (.int x), none]) (I := fun h b f x M' => rkT 19 M1 M' ∧ b = pB (pBest (gPatch w) h) ∧ f = pM (pBest (gPatch w) h) ∧ x = nI h) (by
    rintro h b f x M' hh ⟨hM, rfl, rfl, rfl⟩ ih
    have hch : (nI h).toNatClampNeg = h := z_cl (by omega)
    have ht := rTr_19 (v := (1 : Int32) <<< (nI h &&& 31)) (thL := nB h) h1.2.1 hM (fun i hi => thN_but h (by omega) i (by omega))
    rcases pBest_st (n := h) (v := _) (gPatch_lt w) rfl with hq | hq
    · refine z_go ?_
      refine z_bf (by show ¬ M' 45 11 ≤ nI h; rw [hM.2 11 (by omega) (by omega), h1.2.1.1.1.2.2.2.1]; exact nI_ge hh (by omega)) ?_
      refine z_cx (d_runs n eb _ (ht)) (fun M2 h2 => ?_)
      obtain ⟨q1, q2, q3⟩ := h2
      refine z_ca (c6_shortAll n eb _ (tN w) _ (tN8 w) (by show M2 45 2 = _; rw [q1, upd_ne (by omega)]; show M' 45 2 = _; rw [hM.2 2 (by omega) (by omega)]; exact h1.2.1.1.1.2.1) (fun t ht => (show M2 65 t = _ from crs_sh q3 t ht))) ?_
      refine z_bt hq.1 ?_
      refine z_go ?_
      refine z_bt hq.1 ?_
      refine z_go ?_
      refine ih _ _ _ _ ⟨rkT_run hM q1 q2, ?_, ?_, nI_1 h⟩
      · show pB (pBest (gPatch w) h) = _; rw [hq.2]
      · show pM (pBest (gPatch w) h) = _; rw [hq.2]
    · refine z_go ?_
      refine z_bf (by show ¬ M' 45 11 ≤ nI h; rw [hM.2 11 (by omega) (by omega), h1.2.1.1.1.2.2.2.1]; exact nI_ge hh (by omega)) ?_
      refine z_cx (d_runs n eb _ (ht)) (fun M2 h2 => ?_)
      obtain ⟨q1, q2, q3⟩ := h2
      refine z_ca (c6_shortAll n eb _ (tN w) _ (tN8 w) (by show M2 45 2 = _; rw [q1, upd_ne (by omega)]; show M' 45 2 = _; rw [hM.2 2 (by omega) (by omega)]; exact h1.2.1.1.1.2.1) (fun t ht => (show M2 65 t = _ from crs_sh q3 t ht))) ?_
      refine z_bf hq.1 ?_
      refine z_go ?_
      refine z_bf hq.1 ?_
      refine z_go ?_
      refine ih _ _ _ _ ⟨rkT_run hM q1 q2, ?_, ?_, nI_1 h⟩
      · show nI h = _; exact (pB_p hq.2).1.symm
      · show nI _ = _; exact (pB_p hq.2).2.symm) (by
    rintro b f x M' ⟨hM, rfl, rfl, rfl⟩
    rcases pB_ne (pBest (gPatch w) (w.2 2)) (fun q hq => by have := (pBest_lt _ q hq).1; omega) with hz | hz
    · refine z_go ?_
      refine z_bt (by show M' 45 11 ≤ nI (w.2 2); rw [hM.2 11 (by omega) (by omega), h1.2.1.1.1.2.2.2.1]; exact nI_le (Nat.le_refl _) (by omega)) ?_
      refine z_go ?_
      refine z_bt hz.1 ?_
      refine z_go ?_
      refine z_go ?_
      refine z_rq hret (z_vi ?_) ⟨rC_sm h1.1 (rSm_rkT hM (by omega) (by omega) (by omega) (by omega)), rSm_tr h1.2.2 (rSm_rkT hM (by omega) (by omega) (by omega) (by omega))⟩
      rw [aPatch, if_pos (by decide), show (nI 0).toNatClampNeg = 0 from rfl, hz.2]
      rfl
    · refine z_go ?_
      refine z_bt (by show M' 45 11 ≤ nI (w.2 2); rw [hM.2 11 (by omega) (by omega), h1.2.1.1.1.2.2.2.1]; exact nI_le (Nat.le_refl _) (by omega)) ?_
      refine z_go ?_
      refine z_bf hz.1 ?_
      refine z_bt rfl ?_
      refine z_go ?_
      refine z_rq hret (z_vi ?_) ⟨rC_sm h1.1 (rSm_rkT hM (by omega) (by omega) (by omega) (by omega)), rSm_tr h1.2.2 (rSm_rkT hM (by omega) (by omega) (by omega) (by omega))⟩
      rw [aPatch, if_pos (by decide), show (nI 0).toNatClampNeg = 0 from rfl, pAns_0])
  exact loop 0 _ _ _ _ (Nat.zero_le _) ⟨rkT_rf _ _, rfl, rfl, rfl⟩
set_option maxRecDepth 10000 in
set_option maxHeartbeats 1000000 in
theorem d6_patchOf1 (n eb : Nat) (M : zM) (w : Rw) (hC : rC w M) : zMet zi_X6_patchOf [.ref 45, .int (nI 1)] (zLay n eb) M (zLay n eb) (zr (some (.int (aPatch w (nI 1)))) (fun M' => rC w M' ∧ rSm M M')) := by
  refine z_mr (zk_X6_patchOf _ _) rfl (Nat.le_of_ble_eq_true rfl) rfl (fun ret hret => ?_)
  have h6 := hC.1.1.2.2.1
  refine z_cx (d6_asTold n eb M w hC) (fun M1 h1 => ?_)
  have loop := z_l3 (P := zp_X6_patchOf) (ret := ret) (pc := 13) (L := zLay n eb) (N := w.2 2) (lo := fun b f x => [some (.ref 45), some (.int (nI 1)), some (.int b), some (.int f), some (.int x), none]) (I := fun h b f x M' => rkT 19 M1 M' ∧ b = pB (pBest (gPatch w) h) ∧ f = pM (pBest (gPatch w) h) ∧ x = nI h) (by
    rintro h b f x M' hh ⟨hM, rfl, rfl, rfl⟩ ih
    have hch : (nI h).toNatClampNeg = h := z_cl (by omega)
    have ht := rTr_19 (v := (1 : Int32) <<< (nI h &&& 31)) (thL := nB h) h1.2.1 hM (fun i hi => thN_but h (by omega) i (by omega))
    rcases pBest_st (n := h) (v := _) (gPatch_lt w) rfl with hq | hq
    · refine z_go ?_
      refine z_bf (by show ¬ M' 45 11 ≤ nI h; rw [hM.2 11 (by omega) (by omega), h1.2.1.1.1.2.2.2.1]; exact nI_ge hh (by omega)) ?_
      refine z_cx (d_runs n eb _ (ht)) (fun M2 h2 => ?_)
      obtain ⟨q1, q2, q3⟩ := h2
      refine z_ca (c6_shortAll n eb _ (tN w) _ (tN8 w) (by show M2 45 2 = _; rw [q1, upd_ne (by omega)]; show M' 45 2 = _; rw [hM.2 2 (by omega) (by omega)]; exact h1.2.1.1.1.2.1) (fun t ht => (show M2 65 t = _ from crs_sh q3 t ht))) ?_
      refine z_bt hq.1 ?_
      refine z_go ?_
      refine z_bt hq.1 ?_
      refine z_go ?_
      refine ih _ _ _ _ ⟨rkT_run hM q1 q2, ?_, ?_, nI_1 h⟩
      · show pB (pBest (gPatch w) h) = _; rw [hq.2]
      · show pM (pBest (gPatch w) h) = _; rw [hq.2]
    · refine z_go ?_
      refine z_bf (by show ¬ M' 45 11 ≤ nI h; rw [hM.2 11 (by omega) (by omega), h1.2.1.1.1.2.2.2.1]; exact nI_ge hh (by omega)) ?_
      refine z_cx (d_runs n eb _ (ht)) (fun M2 h2 => ?_)
      obtain ⟨q1, q2, q3⟩ := h2
      refine z_ca (c6_shortAll n eb _ (tN w) _ (tN8 w) (by show M2 45 2 = _; rw [q1, upd_ne (by omega)]; show M' 45 2 = _; rw [hM.2 2 (by omega) (by omega)]; exact h1.2.1.1.1.2.1) (fun t ht => (show M2 65 t = _ from crs_sh q3 t ht))) ?_
      refine z_bf hq.1 ?_
      refine z_go ?_
      refine z_bf hq.1 ?_
      refine z_go ?_
      refine ih _ _ _ _ ⟨rkT_run hM q1 q2, ?_, ?_, nI_1 h⟩
      · show nI h = _; exact (pB_p hq.2).1.symm
      · show nI _ = _; exact (pB_p hq.2).2.symm) (by
    rintro b f x M' ⟨hM, rfl, rfl, rfl⟩
    rcases pB_ne (pBest (gPatch w) (w.2 2)) (fun q hq => by have := (pBest_lt _ q hq).1; omega) with hz | hz
    · refine z_go ?_
      refine z_bt (by show M' 45 11 ≤ nI (w.2 2); rw [hM.2 11 (by omega) (by omega), h1.2.1.1.1.2.2.2.1]; exact nI_le (Nat.le_refl _) (by omega)) ?_
      refine z_go ?_
      refine z_bt hz.1 ?_
      refine z_go ?_
      refine z_go ?_
      refine z_rq hret (z_vi ?_) ⟨rC_sm h1.1 (rSm_rkT hM (by omega) (by omega) (by omega) (by omega)), rSm_tr h1.2.2 (rSm_rkT hM (by omega) (by omega) (by omega) (by omega))⟩
      rw [aPatch, if_pos (by decide), show (nI 1).toNatClampNeg = 1 from rfl, hz.2]
      rfl
    · obtain ⟨hz1, q, hq⟩ := hz
      refine z_go ?_
      refine z_bt (by show M' 45 11 ≤ nI (w.2 2); rw [hM.2 11 (by omega) (by omega), h1.2.1.1.1.2.2.2.1]; exact nI_le (Nat.le_refl _) (by omega)) ?_
      refine z_go ?_
      refine z_bf hz1 ?_
      refine z_bf (by decide) ?_
      refine z_go ?_
      refine z_rq hret (z_vi ?_) ⟨rC_sm h1.1 (rSm_rkT hM (by omega) (by omega) (by omega) (by omega)), rSm_tr h1.2.2 (rSm_rkT hM (by omega) (by omega) (by omega) (by omega))⟩
      rw [aPatch, if_pos (by decide), show (nI 1).toNatClampNeg = 1 from rfl, pAns_1 hq])
  exact loop 0 _ _ _ _ (Nat.zero_le _) ⟨rkT_rf _ _, rfl, rfl, rfl⟩
set_option maxRecDepth 10000 in
set_option maxHeartbeats 1000000 in
theorem e6_patch (n eb : Nat) (M : zM) (w : Rw) (hC : rC w M) (x : Int32) : zMet zi_X6_patch [.ref 45, .int x] (zLay n eb) M (zLay n eb) (zr (some (.int (aPatch w x))) (fun M' => rC w M' ∧ rSm M M')) := by
  refine z_mr (zk_X6_patch _ _) rfl (Nat.le_of_ble_eq_true rfl) rfl (fun ret hret => ?_)
  by_cases hx : 0 ≤ x ∧ x ≤ 1
  · obtain ⟨j, hj, rfl⟩ := rg 1 rfl (by omega) hx
    rcases (show j = 0 ∨ j = 1 by omega) with e | e
    · subst e
      refine z_ca (z_cv 1 (c6_in _ _ _ _ _ (Nat.le_of_ble_eq_true rfl)) (zb_1 hx)) ?_
      refine z_bf (by decide) ?_
      refine z_cx (d6_patchOf0 n eb M w hC) (fun M1 h1 => ?_)
      refine z_go ?_
      exact z_rq hret rfl h1
    · subst e
      refine z_ca (z_cv 1 (c6_in _ _ _ _ _ (Nat.le_of_ble_eq_true rfl)) (zb_1 hx)) ?_
      refine z_bf (by decide) ?_
      refine z_cx (d6_patchOf1 n eb M w hC) (fun M1 h1 => ?_)
      refine z_go ?_
      exact z_rq hret rfl h1
  · refine z_ca (z_cv 0 (c6_in _ _ _ _ _ (Nat.le_of_ble_eq_true rfl)) (zb_0 hx)) ?_
    refine z_bt (by decide) ?_
    refine z_go ?_
    exact z_rq hret (z_vi (show _ = aPatch w x from (if_neg hx).symm)) ⟨hC, rSm_rf M⟩
/-- the first so many that p holds of; NONE -/
def fN (p : Nat → Bool) (n : Nat) : Int32 := if fa_first p n < n then nI (fa_first p n) else -1
theorem fF_stop {p : Nat → Bool} {i : Nat} (h : fa_first p i < i) : ∀ n, i ≤ n → fa_first p n = fa_first p i
  | 0, hn => by rw [show i = 0 by omega]
  | n + 1, hn => by
    by_cases e : i = n + 1
    · rw [e]
    · have ih := fF_stop h n (by omega)
      rw [fa_first, if_pos (by omega), ih]
theorem fN_stop {p : Nat → Bool} {i n : Nat} (h : fa_first p i < i) (hn : i ≤ n) : fN p i = fN p n := by
  unfold fN
  rw [fF_stop h n hn, if_pos h, if_pos (by omega)]
theorem fN_go {p : Nat → Bool} {i : Nat} (h : ¬ fa_first p i < i) : fN p i = -1 := if_neg h
theorem fN_is {p : Nat → Bool} {i : Nat} (h : fa_first p i < i) : fN p i = nI (fa_first p i) := if_pos h
theorem fN_yes {p : Nat → Bool} {i : Nat} (h : ¬ fa_first p i < i) (hp : p i = true) : fN p (i + 1) = nI i := by
  unfold fN
  have e : fa_first p (i + 1) = i := by rw [fa_first, if_neg h, if_pos hp]
  rw [e, if_pos (Nat.lt_succ_self i)]
theorem fN_no {p : Nat → Bool} {i : Nat} (h : ¬ fa_first p i < i) (hp : ¬ p i = true) : fN p (i + 1) = -1 := by
  unfold fN
  have e : fa_first p (i + 1) = i + 1 := by rw [fa_first, if_neg h, if_neg hp]
  rw [e, if_neg (Nat.lt_irrefl _)]
theorem fst40_none {p : Nat → Prop} [DecidablePred p] (h : ∀ t, t < 40 → ¬ p t) : fst40 p = -1 := by
  unfold fst40
  rw [fst_no h, if_neg (Nat.lt_irrefl _)]
theorem fst40_some {p : Nat → Prop} [DecidablePred p] (h : fst40 p = -1) : ∀ t, t < 40 → ¬ p t := by
  intro t ht hp
  unfold fst40 at h
  by_cases q : fa_first (fun h => decide (p h)) 40 < 40
  · rw [if_pos q] at h
    exact nI_nm1 (by omega) h
  · have e := fa_first_le (fun h => decide (p h)) 40
    have z := fa_first_no (fun h => decide (p h)) 40 t (by omega)
    exact absurd hp (of_decide_eq_false z)
theorem sm_0 {f : Nat → Nat} : ∀ {n : Nat}, sm f n = 0 → ∀ j, j < n → f j = 0
  | 0, _, j, hj => absurd hj (Nat.not_lt_zero j)
  | n + 1, h, j, hj => by
    unfold sm at h
    by_cases e : j = n
    · subst e; omega
    · exact sm_0 (n := n) (by omega) j (by omega)
theorem sm_0' {f : Nat → Nat} : ∀ n, (∀ j, j < n → f j = 0) → sm f n = 0
  | 0, _ => rfl
  | n + 1, h => by
    unfold sm
    rw [sm_0' n (fun j hj => h j (by omega)), h n (by omega)]
theorem bw_0 (g : Nat → Bool) : ∀ n, bw g n = 0 ↔ cnt g n = 0
  | 0 => ⟨fun _ => rfl, fun _ => rfl⟩
  | n + 1 => by
    have ih := bw_0 g n
    have := Nat.two_pow_pos n
    unfold bw cnt
    split <;> omega
theorem tAll_0 {w : Rw} {thL thP : Nat → Bool} {sh : Int32} {wd el : Nat → Int32} {st : Int32} (h : tAll w thL thP sh wd el st = 0) : ∀ t, t < 40 → bw (tSh w thL thP sh wd el st t) (tN w) = 0 := fun t ht => (bw_0 _ _).mpr (sm_0 h t ht)
theorem tAll_0' {w : Rw} {thL thP : Nat → Bool} {sh : Int32} {wd el : Nat → Int32} {st : Int32} (h : ∀ t, t < 40 → bw (tSh w thL thP sh wd el st t) (tN w) = 0) : tAll w thL thP sh wd el st = 0 := sm_0' 40 (fun t ht => (bw_0 _ _).mp (h t ht))
noncomputable section
def pLs (w : Rw) (v : Nat) : Bool := decide (tAll w allB allB (-1) (pWd (w.1 1) (w.2 0)) (eEl (w.1 2) (w.2 1)) (nI v) = 0)
def aLeast (w : Rw) : Int32 := fN (pLs w) 61
end
theorem pLs_t {w : Rw} {v : Nat} : pLs w v = true ↔ tAll w allB allB (-1) (pWd (w.1 1) (w.2 0)) (eEl (w.1 2) (w.2 1)) (nI v) = 0 := by
  unfold pLs
  exact decide_eq_true_iff
theorem aLeast_e (w : Rw) : fN (pLs w) 61 = aLeast w := by unfold aLeast; rfl
theorem fN_z (p : Nat → Bool) : -1 = fN p 0 := (fN_go (Nat.not_lt_zero _)).symm
set_option maxRecDepth 10000 in
set_option maxHeartbeats 1000000 in
theorem e5_least (n : Nat) (M : zM) (w : Rw) (hI : cI w M) : zMet zi_X5_least [.ref 2] (zLay n 15) M (zLay n 15) (zr (some (.int (aLeast w))) (fun M' => cI w M' ∧ ∀ p, 45 ≤ p → M' p = M p)) := by
  refine z_mr (zk_X5_least _ _) rfl (Nat.le_of_ble_eq_true rfl) rfl (fun ret hret => ?_)
  have loop := z_l2 (P := zp_X5_least) (ret := ret) (pc := 12) (L := zLay n 15) (N := 61) (lo := fun b x => [some (.ref 2), some (.int (M 7 3)), some (.int b), some (.int x)]) (I := fun h b x M' => kpU 3 M M' ∧ b = fN (pLs w) h ∧ x = nI h) (by
    rintro h b x M' hh ⟨hM, rfl, rfl⟩ ih
    by_cases hs : fa_first (pLs w) h < h
    · refine z_go ?_
      refine z_bf (fun c => absurd ((nI_ltI (a := 60) (b := h) (by omega) (by omega)).mp c) (by omega)) ?_
      refine z_bf (by rw [fN_is hs]; exact nI_nm1 (by omega)) ?_
      refine z_go ?_
      exact z_rq hret (z_vi ((fN_stop (n := 61) hs (by omega)).trans (aLeast_e w))) ⟨cI_kpT hI (kpU_end hM rfl), fun p hp => kpU_end hM rfl p (by omega)⟩
    · have ht := cTr_3 (v := nI h) hI.1 hM
      by_cases hp : pLs w h = true
      · refine z_go ?_
        refine z_bf (fun c => absurd ((nI_ltI (a := 60) (b := h) (by omega) (by omega)).mp c) (by omega)) ?_
        refine z_bt (fN_go hs) ?_
        refine z_cx (d_fol28_15 n _ (ht)) (fun M2 h2 => ?_)
        obtain ⟨q1, q2⟩ := h2
        refine z_ca (z_cv (-1) (c0_firstShort28 n 15 _ (-1)) (fst40_none (fun t ht => by rw [and_m1, show M2 32 t = _ from crs_sh q2 t ht, tAll_0 (pLs_t.mp hp) t ht]; exact fun q => q rfl))) ?_
        refine z_bt rfl ?_
        exact ih _ _ _ ⟨kpU_fol hM q1, (fN_yes hs hp).symm, nI_1 h⟩
      · refine z_go ?_
        refine z_bf (fun c => absurd ((nI_ltI (a := 60) (b := h) (by omega) (by omega)).mp c) (by omega)) ?_
        refine z_bt (fN_go hs) ?_
        refine z_cx (d_fol28_15 n _ (ht)) (fun M2 h2 => ?_)
        obtain ⟨q1, q2⟩ := h2
        refine z_ca (c0_firstShort28 n 15 _ (-1)) ?_
        refine z_bf (fun c => hp (pLs_t.mpr (tAll_0' (fun t ht => by
          have z := fst40_some c t ht
          rw [and_m1, show M2 32 t = _ from crs_sh q2 t ht] at z
          have z2 := Classical.not_not.mp z
          have h2 := bw_lt256 (tSh w allB allB (-1) (pWd (w.1 1) (w.2 0)) (eEl (w.1 2) (w.2 1)) (nI h) t) (tN8 w)
          exact (nI_eq (by omega) (by omega)).mp z2)))) ?_
        refine z_go ?_
        exact ih _ _ _ ⟨kpU_fol hM q1, by rw [fN_no hs hp]; exact fN_go hs, nI_1 h⟩) (by
    rintro b x M' ⟨hM, hb, rfl⟩
    refine z_go ?_
    refine z_bt (nI_lt (a := 60) (b := 61) (by omega) (by omega)) ?_
    refine z_go ?_
    exact z_rq hret (z_vi (hb.trans (aLeast_e w))) ⟨cI_kpT hI (kpU_end hM rfl), fun p hp => kpU_end hM rfl p (by omega)⟩)
  exact loop 0 _ _ _ (Nat.zero_le _) ⟨kpU_rf _ _, fN_z _, rfl⟩
set_option maxRecDepth 10000 in
set_option maxHeartbeats 1000000 in
theorem d6_leastNow (n eb : Nat) (M : zM) (w : Rw) (hC : rC w M) : zMet zi_X6_leastNow [.ref 45] (zLay n eb) M (zLay n eb) (zr (some (.int (aLeast w))) (fun M' => rC w M' ∧ rSm M M')) := by
  refine z_mr (zk_X6_leastNow _ _) rfl (Nat.le_of_ble_eq_true rfl) rfl (fun ret hret => ?_)
  refine z_cx (d6_asTold n eb M w hC) (fun M1 h1 => ?_)
  have loop := z_l2 (P := zp_X6_leastNow) (ret := ret) (pc := 8) (L := zLay n eb) (N := 61) (lo := fun b x => [some (.ref 45), some (.int b), some (.int x)]) (I := fun h b x M' => rkT 22 M1 M' ∧ b = fN (pLs w) h ∧ x = nI h) (by
    rintro h b x M' hh ⟨hM, rfl, rfl⟩ ih
    by_cases hs : fa_first (pLs w) h < h
    · refine z_go ?_
      refine z_bf (nI_ge (a := h) (b := 61) hh (by omega)) ?_
      refine z_bf (by rw [fN_is hs]; exact nI_nm1 (by omega)) ?_
      refine z_go ?_
      exact z_rq hret (z_vi ((fN_stop (n := 61) hs (by omega)).trans (aLeast_e w))) ⟨rC_sm h1.1 (rSm_rkT hM (by omega) (by omega) (by omega) (by omega)), rSm_tr h1.2.2 (rSm_rkT hM (by omega) (by omega) (by omega) (by omega))⟩
    · have ht := rTr_22 (v := nI h) h1.2.1 hM
      by_cases hp : pLs w h = true
      · refine z_go ?_
        refine z_bf (nI_ge (a := h) (b := 61) hh (by omega)) ?_
        refine z_bt (fN_go hs) ?_
        refine z_cx (d_runs n eb _ (ht)) (fun M2 h2 => ?_)
        obtain ⟨q1, q2, q3⟩ := h2
        refine z_ca (z_cv 0 (c6_shortAll n eb _ (tN w) _ (tN8 w) (by show M2 45 2 = _; rw [q1, upd_ne (by omega)]; show M' 45 2 = _; rw [hM.2 2 (by omega) (by omega)]; exact h1.2.1.1.1.2.1) (fun t ht => (show M2 65 t = _ from crs_sh q3 t ht))) (by have z := pLs_t.mp hp; unfold tAll at z; rw [z]; rfl)) ?_
        refine z_bt rfl ?_
        refine z_go ?_
        exact ih _ _ _ ⟨rkT_run hM q1 q2, (fN_yes hs hp).symm, nI_1 h⟩
      · refine z_go ?_
        refine z_bf (nI_ge (a := h) (b := 61) hh (by omega)) ?_
        refine z_bt (fN_go hs) ?_
        refine z_cx (d_runs n eb _ (ht)) (fun M2 h2 => ?_)
        obtain ⟨q1, q2, q3⟩ := h2
        refine z_ca (c6_shortAll n eb _ (tN w) _ (tN8 w) (by show M2 45 2 = _; rw [q1, upd_ne (by omega)]; show M' 45 2 = _; rw [hM.2 2 (by omega) (by omega)]; exact h1.2.1.1.1.2.1) (fun t ht => (show M2 65 t = _ from crs_sh q3 t ht))) ?_
        refine z_bf (fun c => hp (pLs_t.mpr ((nI_eq (b := 0) (by have := tAll_lt w allB allB (-1) (pWd (w.1 1) (w.2 0)) (eEl (w.1 2) (w.2 1)) (nI h); omega) (by omega)).mp c))) ?_
        refine z_go ?_
        exact ih _ _ _ ⟨rkT_run hM q1 q2, by rw [fN_no hs hp], nI_1 h⟩) (by
    rintro b x M' ⟨hM, hb, rfl⟩
    refine z_go ?_
    refine z_bt (nI_le (a := 61) (b := 61) (Nat.le_refl _) (by omega)) ?_
    refine z_go ?_
    exact z_rq hret (z_vi (hb.trans (aLeast_e w))) ⟨rC_sm h1.1 (rSm_rkT hM (by omega) (by omega) (by omega) (by omega)), rSm_tr h1.2.2 (rSm_rkT hM (by omega) (by omega) (by omega) (by omega))⟩)
  exact loop 0 _ _ _ (Nat.zero_le _) ⟨rkT_rf _ _, fN_z _, rfl⟩
set_option maxRecDepth 10000 in
set_option maxHeartbeats 1000000 in
theorem e6_least (n eb : Nat) (M : zM) (w : Rw) (hC : rC w M) : zMet zi_X6_least [.ref 45] (zLay n eb) M (zLay n eb) (zr (some (.int (aLeast w))) (fun M' => rC w M' ∧ rSm M M')) := by
  refine z_mr (zk_X6_least _ _) rfl (Nat.le_of_ble_eq_true rfl) rfl (fun ret hret => ?_)
  refine z_cx (d6_leastNow n eb M w hC) (fun M1 h1 => ?_)
  exact z_rq hret rfl h1
