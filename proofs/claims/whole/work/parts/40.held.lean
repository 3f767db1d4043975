/-! held, bag, got, fault, elbows, in both -/
theorem rRd_sm {w : Rw} {M M' : zM} (hC : rC w M) (h : rRd (w.1 1) (w.1 2) (w.2 0) (w.2 1) M M') : rC w M' ∧ rSm M M' ∧ M' 45 2 = nI (tN w) ∧ M' 45 8 = nI (eMn (w.1 2) (w.2 1)) ∧ rHm (w.1 1) (w.2 0) (tN w) M' ∧ ∀ h, h < 40 → M' 53 h = eEl (w.1 2) (w.2 1) h := by
  obtain ⟨a1, a2, a3, a4⟩ := h
  have sm : rSm M M' := ⟨fun p hp => a2 p (by omega) (by omega), by rw [a1]; rfl, by rw [a1]; rfl, by rw [a1]; rfl, by rw [a1]; rfl⟩
  exact ⟨rC_sm hC sm, sm, by rw [a1]; rfl, by rw [a1]; rfl, a3, a4⟩
theorem d6_isHouse (n eb : Nat) (M : zM) (w : Rw) (hC : rC w M) (x : Int32) : zMet zi_X6_isHouse [.ref 45, .int x] (zLay n eb) M (zLay n eb) (zr (some (.int (zb (0 ≤ x ∧ x ≤ nI (tN w) - 1)))) (fun M' => rC w M' ∧ rSm M M' ∧ M' 45 2 = nI (tN w) ∧ M' 45 8 = nI (eMn (w.1 2) (w.2 1)) ∧ rHm (w.1 1) (w.2 0) (tN w) M' ∧ ∀ h, h < 40 → M' 53 h = eEl (w.1 2) (w.2 1) h)) :=
  zMet_imp (c6_isHouse n eb M _ _ _ _ (rC_tx hC) (rC_te hC) x) (fun M' q => rRd_sm hC q)
theorem d6_reads (n eb : Nat) (M : zM) (w : Rw) (hC : rC w M) : zMet zi_X6_reads [.ref 45] (zLay n eb) M (zLay n eb) (zr none (fun M' => rC w M' ∧ rSm M M' ∧ M' 45 2 = nI (tN w) ∧ M' 45 8 = nI (eMn (w.1 2) (w.2 1)) ∧ rHm (w.1 1) (w.2 0) (tN w) M' ∧ ∀ h, h < 40 → M' 53 h = eEl (w.1 2) (w.2 1) h)) :=
  zMet_imp (c6_reads n eb M _ _ _ _ (rC_tx hC) (rC_te hC)) (fun M' q => rRd_sm hC q)
theorem d6_faultOf (n eb : Nat) (M : zM) (w : Rw) (hC : rC w M) (x : Int32) : zMet zi_X6_faultOf [.ref 45, .int x] (zLay n eb) M (zLay n eb) (zr (some (.int (if x = 0 then (pRes (w.1 1) (w.2 0)).1 else eFt (w.1 2) (w.2 1)))) (fun M' => rC w M' ∧ rSm M M' ∧ M' 45 2 = nI (tN w) ∧ M' 45 8 = nI (eMn (w.1 2) (w.2 1)) ∧ rHm (w.1 1) (w.2 0) (tN w) M' ∧ ∀ h, h < 40 → M' 53 h = eEl (w.1 2) (w.2 1) h)) :=
  zMet_imp (c6_faultOf n eb M _ _ _ _ (rC_tx hC) (rC_te hC) x) (fun M' q => rRd_sm hC q)
theorem d5_isHouse (n eb : Nat) (M : zM) (w : Rw) (hC : cC w M) (x : Int32) : zMet zi_X5_isHouse [.ref 2, .int x] (zLay n eb) M (zLay n eb) (zx (some (.int (zb (0 ≤ x ∧ x ≤ nI (tN w) - 1)))) M) := by
  have h := c5_isHouse n eb M x
  have e : M 8 6 = nI (tN w) := hC.2.2.2.2.1
  rw [e] at h
  exact h
theorem tN8 (w : Rw) : tN w ≤ 8 := (pRes_ok _ _).1
noncomputable section
def aHeld (w : Rw) (x y : Int32) : Int32 := if (0 ≤ x ∧ x ≤ nI (tN w) - 1) ∧ 0 ≤ y ∧ y ≤ 1 then (if y = 0 then fst40 (fun h => tSt w h x.toNatClampNeg = true) else nI (cnt (fun h => tSt w h x.toNatClampNeg) 40)) else -2
end
theorem aHeld_no {w : Rw} {x y : Int32} (h : ¬ ((0 ≤ x ∧ x ≤ nI (tN w) - 1) ∧ 0 ≤ y ∧ y ≤ 1)) : aHeld w x y = -2 := if_neg h
theorem aHeld_0 {w : Rw} {k : Nat} (hk : k < tN w) : aHeld w (nI k) (nI 0) = fst40 (fun h => tSt w h k = true) := by
  have h8 := tN8 w
  unfold aHeld
  rw [if_pos ⟨rgH' hk h8, by decide⟩, if_pos (by rfl), z_cl (by omega)]
theorem aHeld_1 {w : Rw} {k : Nat} (hk : k < tN w) : aHeld w (nI k) (nI 1) = nI (cnt (fun h => tSt w h k) 40) := by
  have h8 := tN8 w
  unfold aHeld
  rw [if_pos ⟨rgH' hk h8, by decide⟩, if_neg (by decide), z_cl (by omega)]
theorem zMet_v {i : zI} {as : List Value} {L : zL} {M : zM} {e : Int32} (y : Int32) {R : zM → Prop} (hc : zMet i as L M L (zr (some (.int e)) R)) (h : e = y) : zMet i as L M L (zr (some (.int y)) R) := by
  subst h
  exact hc
set_option maxRecDepth 10000 in
set_option maxHeartbeats 1000000 in
theorem e5_held (n : Nat) (M : zM) (w : Rw) (hI : cI w M) (x y : Int32) : zMet zi_X5_held [.ref 2, .int x, .int y] (zLay n 15) M (zLay n 15) (zr (some (.int (aHeld w x y))) (fun M' => cI w M' ∧ ∀ p, 45 ≤ p → M' p = M p)) := by
  refine z_mr (zk_X5_held _ _) rfl (Nat.le_of_ble_eq_true rfl) rfl (fun ret hret => ?_)
  have h8 := tN8 w
  by_cases hx : 0 ≤ x ∧ x ≤ nI (tN w) - 1
  · by_cases hy : 0 ≤ y ∧ y ≤ 1
    · obtain ⟨k, hk, rfl⟩ := rgH h8 hx
      obtain ⟨j, hj, rfl⟩ := rg 1 rfl (by omega) hy
      rcases (show j = 0 ∨ j = 1 by omega) with e | e
      · subst e
        refine z_ca (z_cv 1 (d5_isHouse n 15 M w hI.1 _) (zb_1 hx)) ?_
        refine z_bf (by decide) ?_
        refine z_ca (z_cv 1 (c5_within _ _ _ _ _ (Nat.le_of_ble_eq_true rfl)) (zb_1 hy)) ?_
        refine z_bf (by decide) ?_
        refine z_go ?_
        refine z_cx (d5_toldCourse n M w hI) (fun M1 h1 => ?_)
        obtain ⟨i1, i2, i3⟩ := h1
        refine z_bt (by decide) ?_
        refine z_ca (c0_firstShort21 n 15 M1 _) ?_
        refine z_go ?_
        exact z_rq hret (z_vi (by rw [aHeld_0 hk]; exact fst40_cong (fun t ht => by rw [show M1 25 t = _ from crs_sh i2 t ht]; exact bw_and _ h8 hk))) ⟨i1, i3⟩
      · subst e
        refine z_ca (z_cv 1 (d5_isHouse n 15 M w hI.1 _) (zb_1 hx)) ?_
        refine z_bf (by decide) ?_
        refine z_ca (z_cv 1 (c5_within _ _ _ _ _ (Nat.le_of_ble_eq_true rfl)) (zb_1 hy)) ?_
        refine z_bf (by decide) ?_
        refine z_go ?_
        refine z_cx (d5_toldCourse n M w hI) (fun M1 h1 => ?_)
        obtain ⟨i1, i2, i3⟩ := h1
        refine z_bf (by decide) ?_
        refine z_go ?_
        refine z_ca (c0_shortHours21 n 15 M1 (tN w) k (tSt w) h8 hk (crs_sh i2)) ?_
        exact z_rq hret (z_vi (aHeld_1 hk).symm) ⟨i1, i3⟩
    · refine z_ca (z_cv 1 (d5_isHouse n 15 M w hI.1 _) (zb_1 hx)) ?_
      refine z_bf (by decide) ?_
      refine z_ca (z_cv 0 (c5_within _ _ _ _ _ (Nat.le_of_ble_eq_true rfl)) (zb_0 hy)) ?_
      refine z_bt (by decide) ?_
      exact z_rq hret (z_vi (aHeld_no (fun z => hy z.2)).symm) ⟨hI, fun _ _ => rfl⟩
  · refine z_ca (z_cv 0 (d5_isHouse n 15 M w hI.1 _) (zb_0 hx)) ?_
    refine z_bt (by decide) ?_
    refine z_go ?_
    exact z_rq hret (z_vi (aHeld_no (fun z => hx z.1)).symm) ⟨hI, fun _ _ => rfl⟩
set_option maxRecDepth 10000 in
set_option maxHeartbeats 1000000 in
theorem d6_heldOf0 (n eb : Nat) (M : zM) (w : Rw) (hC : rC w M) (k : Nat) (hk : k < tN w) : zMet zi_X6_heldOf [.ref 45, .int (nI k), .int (nI 0)] (zLay n eb) M (zLay n eb) (zr (some (.int (aHeld w (nI k) (nI 0)))) (fun M' => rC w M' ∧ rSm M M')) := by
  refine z_mr (zk_X6_heldOf _ _) rfl (Nat.le_of_ble_eq_true rfl) rfl (fun ret hret => ?_)
  have h8 := tN8 w
  refine z_cx (d6_runsTold n eb M w hC) (fun M1 h1 => ?_)
  obtain ⟨i1, i2, i3, i4, i5, i6⟩ := h1
  have loop := z_l2 (P := zp_X6_heldOf) (ret := ret) (pc := 10) (L := zLay n eb) (N := 40) (lo := fun a x => [some (.ref 45), some (.int (nI k)), some (.int (nI 0)), some (.int a), some (.int x)]) (I := fun d a x M' => M' = M1 ∧ a = dn (fun HH => (M1 65 HH >>> (nI k &&& 31)) &&& 1 = 1) d ∧ ((d = 40 ∧ x = -1) ∨ (d < 40 ∧ x = nI (39 - d)))) (by
    rintro d a x M' hd ⟨rfl, rfl, hx⟩ ih
    have hx : x = nI (39 - d) := by
      rcases hx with q | q
      · omega
      · exact q.2
    subst hx
    have hcl : (nI (39 - d)).toNatClampNeg = 39 - d := z_cl (by omega)
    refine z_go ?_
    refine z_bf (nI_pos (by omega)) ?_
    refine And.intro (z_inN0 (by omega) (by omega)) ?_
    refine z_ca (c6_isIn _ _ _ _ (Nat.le_of_ble_eq_true rfl)) ?_
    refine z_br (fun h1j => ?_) (fun h1n => ?_)
    · refine z_go ?_
      refine ih _ _ _ ⟨rfl, by rw [dn, if_neg (show ¬ ((M' 65 (39 - d) >>> (nI k &&& 31)) &&& 1 = 1) by have z := zb_eq0.mp h1j; simp only [hcl] at z; exact z)], ?_⟩
      rcases Nat.eq_or_lt_of_le (show d ≤ 39 by omega) with e | e
      · left; rw [e]; exact ⟨rfl, rfl⟩
      · right; exact ⟨by omega, (by show nI (39 - d) + -1 = _; rw [show (39 - d) = (39 - (d + 1)) + 1 by omega, pk_m1])⟩
    · refine z_go ?_
      refine ih _ _ _ ⟨rfl, by rw [dn, if_pos (show (M' 65 (39 - d) >>> (nI k &&& 31)) &&& 1 = 1 by have z := h1n; apply Classical.not_not.mp; intro q; exact z (show zb _ = 0 from zb_0 (by simp only [hcl]; exact q)))], ?_⟩
      rcases Nat.eq_or_lt_of_le (show d ≤ 39 by omega) with e | e
      · left; rw [e]; exact ⟨rfl, rfl⟩
      · right; exact ⟨by omega, (by show nI (39 - d) + -1 = _; rw [show (39 - d) = (39 - (d + 1)) + 1 by omega, pk_m1])⟩) (by
    rintro a x M' ⟨rfl, rfl, hx⟩
    have hx : x = -1 := by
      rcases hx with q | q
      · exact q.2
      · omega
    subst hx
    refine z_go ?_
    refine z_bt (by decide) ?_
    refine z_go ?_
    refine z_bt (by decide) ?_
    refine z_go ?_
    exact z_rq hret (z_vi (by rw [dn_fst, aHeld_0 hk]; exact fst40_cong (fun t ht => by rw [show M' 65 t = _ from crs_sh i2 t ht, bw_get _ h8 (by omega)]; by_cases q : tSt w t k = true <;> simp [q, hk, show tSh w allB allB (-1) (pWd (w.1 1) (w.2 0)) (eEl (w.1 2) (w.2 1)) (w.1 0 0) t k = tSt w t k from rfl]))) ⟨i1, i3⟩)
  exact loop 0 _ _ _ (Nat.zero_le _) ⟨rfl, rfl, Or.inr ⟨by omega, rfl⟩⟩
set_option maxRecDepth 10000 in
set_option maxHeartbeats 1000000 in
theorem d6_heldOf1 (n eb : Nat) (M : zM) (w : Rw) (hC : rC w M) (k : Nat) (hk : k < tN w) : zMet zi_X6_heldOf [.ref 45, .int (nI k), .int (nI 1)] (zLay n eb) M (zLay n eb) (zr (some (.int (aHeld w (nI k) (nI 1)))) (fun M' => rC w M' ∧ rSm M M')) := by
  refine z_mr (zk_X6_heldOf _ _) rfl (Nat.le_of_ble_eq_true rfl) rfl (fun ret hret => ?_)
  have h8 := tN8 w
  refine z_cx (d6_runsTold n eb M w hC) (fun M1 h1 => ?_)
  obtain ⟨i1, i2, i3, i4, i5, i6⟩ := h1
  have loop := z_l2 (P := zp_X6_heldOf) (ret := ret) (pc := 10) (L := zLay n eb) (N := 40) (lo := fun a x => [some (.ref 45), some (.int (nI k)), some (.int (nI 1)), some (.int a), some (.int x)]) (I := fun d a x M' => M' = M1 ∧ a = dn (fun HH => (M1 65 HH >>> (nI k &&& 31)) &&& 1 = 1) d ∧ ((d = 40 ∧ x = -1) ∨ (d < 40 ∧ x = nI (39 - d)))) (by
    rintro d a x M' hd ⟨rfl, rfl, hx⟩ ih
    have hx : x = nI (39 - d) := by
      rcases hx with q | q
      · omega
      · exact q.2
    subst hx
    have hcl : (nI (39 - d)).toNatClampNeg = 39 - d := z_cl (by omega)
    refine z_go ?_
    refine z_bf (nI_pos (by omega)) ?_
    refine And.intro (z_inN0 (by omega) (by omega)) ?_
    refine z_ca (c6_isIn _ _ _ _ (Nat.le_of_ble_eq_true rfl)) ?_
    refine z_br (fun h1j => ?_) (fun h1n => ?_)
    · refine z_go ?_
      refine ih _ _ _ ⟨rfl, by rw [dn, if_neg (show ¬ ((M' 65 (39 - d) >>> (nI k &&& 31)) &&& 1 = 1) by have z := zb_eq0.mp h1j; simp only [hcl] at z; exact z)], ?_⟩
      rcases Nat.eq_or_lt_of_le (show d ≤ 39 by omega) with e | e
      · left; rw [e]; exact ⟨rfl, rfl⟩
      · right; exact ⟨by omega, (by show nI (39 - d) + -1 = _; rw [show (39 - d) = (39 - (d + 1)) + 1 by omega, pk_m1])⟩
    · refine z_go ?_
      refine ih _ _ _ ⟨rfl, by rw [dn, if_pos (show (M' 65 (39 - d) >>> (nI k &&& 31)) &&& 1 = 1 by have z := h1n; apply Classical.not_not.mp; intro q; exact z (show zb _ = 0 from zb_0 (by simp only [hcl]; exact q)))], ?_⟩
      rcases Nat.eq_or_lt_of_le (show d ≤ 39 by omega) with e | e
      · left; rw [e]; exact ⟨rfl, rfl⟩
      · right; exact ⟨by omega, (by show nI (39 - d) + -1 = _; rw [show (39 - d) = (39 - (d + 1)) + 1 by omega, pk_m1])⟩) (by
    rintro a x M' ⟨rfl, rfl, hx⟩
    have hx : x = -1 := by
      rcases hx with q | q
      · exact q.2
      · omega
    subst hx
    refine z_go ?_
    refine z_bt (by decide) ?_
    refine z_go ?_
    refine z_bf (by decide) ?_
    refine z_go ?_
    refine z_ca (c6_shortOf n eb _ (tN w) k (tSt w) h8 hk (crs_sh i2)) ?_
    exact z_rq hret (z_vi (aHeld_1 hk).symm) ⟨i1, i3⟩)
  exact loop 0 _ _ _ (Nat.zero_le _) ⟨rfl, rfl, Or.inr ⟨by omega, rfl⟩⟩
set_option maxRecDepth 10000 in
set_option maxHeartbeats 1000000 in
theorem e6_held (n eb : Nat) (M : zM) (w : Rw) (hC : rC w M) (x y : Int32) : zMet zi_X6_held [.ref 45, .int x, .int y] (zLay n eb) M (zLay n eb) (zr (some (.int (aHeld w x y))) (fun M' => rC w M' ∧ rSm M M')) := by
  refine z_mr (zk_X6_held _ _) rfl (Nat.le_of_ble_eq_true rfl) rfl (fun ret hret => ?_)
  have h8 := tN8 w
  by_cases hx : 0 ≤ x ∧ x ≤ nI (tN w) - 1
  · by_cases hy : 0 ≤ y ∧ y ≤ 1
    · obtain ⟨k, hk, rfl⟩ := rgH h8 hx
      obtain ⟨j, hj, rfl⟩ := rg 1 rfl (by omega) hy
      rcases (show j = 0 ∨ j = 1 by omega) with e | e
      · subst e
        refine z_cx (zMet_v 1 (d6_isHouse n eb M w hC _) (zb_1 hx)) (fun M1 h1 => ?_)
        refine z_bf (by decide) ?_
        refine z_ca (z_cv 1 (c6_in _ _ _ _ _ (Nat.le_of_ble_eq_true rfl)) (zb_1 hy)) ?_
        refine z_bf (by decide) ?_
        refine z_cx (d6_heldOf0 n eb M1 w h1.1 k hk) (fun M2 h2 => ?_)
        refine z_go ?_
        exact z_rq hret rfl ⟨h2.1, rSm_tr h1.2.1 h2.2⟩
      · subst e
        refine z_cx (zMet_v 1 (d6_isHouse n eb M w hC _) (zb_1 hx)) (fun M1 h1 => ?_)
        refine z_bf (by decide) ?_
        refine z_ca (z_cv 1 (c6_in _ _ _ _ _ (Nat.le_of_ble_eq_true rfl)) (zb_1 hy)) ?_
        refine z_bf (by decide) ?_
        refine z_cx (d6_heldOf1 n eb M1 w h1.1 k hk) (fun M2 h2 => ?_)
        refine z_go ?_
        exact z_rq hret rfl ⟨h2.1, rSm_tr h1.2.1 h2.2⟩
    · refine z_cx (zMet_v 1 (d6_isHouse n eb M w hC _) (zb_1 hx)) (fun M1 h1 => ?_)
      refine z_bf (by decide) ?_
      refine z_ca (z_cv 0 (c6_in _ _ _ _ _ (Nat.le_of_ble_eq_true rfl)) (zb_0 hy)) ?_
      refine z_bt (by decide) ?_
      refine z_go ?_
      exact z_rq hret (z_vi (aHeld_no (fun z => hy z.2)).symm) ⟨h1.1, h1.2.1⟩
  · refine z_cx (zMet_v 0 (d6_isHouse n eb M w hC _) (zb_0 hx)) (fun M1 h1 => ?_)
    refine z_bt (by decide) ?_
    refine z_go ?_
    exact z_rq hret (z_vi (aHeld_no (fun z => hx z.1)).symm) ⟨h1.1, h1.2.1⟩
