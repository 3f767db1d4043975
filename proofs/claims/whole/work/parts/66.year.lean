/-! year, in both -/
def ltS (seed : Int32) (nn : Nat) : Nat → Int32
  | 0 => seed
  | h + 1 => if h < nn then 1103515245 * ltS seed nn h + 12345 else ltS seed nn h
def lt16 (u : Int32) : Int32 := (u.toUInt32 >>> (Int32.toUInt32 16 &&& Int32.toUInt32 31)).toInt32 - (u.toUInt32 >>> (Int32.toUInt32 16 &&& Int32.toUInt32 31)).toInt32 / 10 * 10
def ltE (seed : Int32) (nn h : Nat) : Int32 := if h < nn then lt16 (ltS seed nn (h + 1)) else 3
theorem ltS_y {seed : Int32} {nn h : Nat} (c : h < nn) : ltS seed nn (h + 1) = 1103515245 * ltS seed nn h + 12345 := if_pos c
theorem ltS_n {seed : Int32} {nn h : Nat} (c : ¬ h < nn) : ltS seed nn (h + 1) = ltS seed nn h := if_neg c
noncomputable section
def aYearN (w : Rw) (seed : Int32) (nn j : Nat) : Int32 := if j = 0 then nI (tAll w allB allB (-1) (pWd (w.1 1) (w.2 0)) (ltE seed nn) (w.1 0 0)) else (tHr w allB allB (-1) (pWd (w.1 1) (w.2 0)) (ltE seed nn) (w.1 0 0) 39).1
def aYear (w : Rw) (x y z : Int32) : Int32 := if (0 ≤ y ∧ y ≤ 40) ∧ 0 ≤ z ∧ z ≤ 1 then aYearN w x y.toNatClampNeg z.toNatClampNeg else -2
end
theorem aYear_y {w : Rw} {x : Int32} {nn j : Nat} (hn : nn ≤ 40) (hj : j ≤ 1) : aYear w x (nI nn) (nI j) = aYearN w x nn j := by
  unfold aYear
  rw [if_pos ⟨⟨nI_pos' (by omega), nI_le (a := nn) (b := 40) hn (by omega)⟩, nI_pos' (by omega), nI_le (a := j) (b := 1) hj (by omega)⟩, z_cl (by omega), z_cl (by omega)]
theorem aYear_0 (w : Rw) (x : Int32) (nn : Nat) : aYearN w x nn 0 = nI (sm (fun h => cnt (tSh w allB allB (-1) (pWd (w.1 1) (w.2 0)) (ltE x nn) (w.1 0 0) h) (tN w)) 40) := by
  unfold aYearN tAll
  rw [if_pos rfl]
theorem aYear_1 (w : Rw) (x : Int32) (nn : Nat) : aYearN w x nn 1 = (tHr w allB allB (-1) (pWd (w.1 1) (w.2 0)) (ltE x nn) (w.1 0 0) 39).1 := by
  unfold aYearN
  rw [if_neg (by omega)]
set_option maxRecDepth 10000 in
set_option maxHeartbeats 1000000 in
theorem c5_drawLots (n : Nat) (M : zM) (seed : Int32) (nn : Nat) (hn : nn ≤ 40) : zMet zi_X5_drawLots [.ref 2, .int seed, .int (nI nn)] (zLay n 15) M (zLay n 15) (zr none (fun M' => (∀ p, p ≠ 36 → M' p = M p) ∧ ∀ t, t < 40 → M' 36 t = ltE seed nn t)) := by
  refine z_mr (zk_X5_drawLots _ _) rfl (Nat.le_of_ble_eq_true rfl) rfl (fun ret hret => ?_)
  have loop := z_l2 (P := zp_X5_drawLots) (ret := ret) (pc := 5) (L := zLay n 15) (N := 40) (lo := fun b x => [some (.ref 2), none, some (.int (nI nn)), some (.int b), some (.int x)]) (I := fun h b x M' => (∀ p, p ≠ 36 → M' p = M p) ∧ b = ltS seed nn h ∧ x = nI h ∧ ∀ t, t < h → M' 36 t = ltE seed nn t) (by
    rintro h b x M' hh ⟨hM, rfl, rfl, hA⟩ ih
    have hch : (nI h).toNatClampNeg = h := z_cl (by omega)
    by_cases c : h < nn
    · refine z_go ?_
      refine z_bf (nI_ge (a := h) (b := 40) hh (by omega)) ?_
      refine z_bf (nI_ge c (by omega)) ?_
      refine And.intro (by decide) ?_
      refine And.intro (z_inN0 (by omega) (by omega)) ?_
      refine z_go ?_
      refine ih _ _ _ ⟨fun p hp => ?_, (ltS_y c).symm, nI_1 h, fun t ht => ?_⟩
      · rw [z_un hp]; exact hM p hp
      · rw [z_us, hch]
        by_cases e : t = h
        · subst e
          rw [upd_eq, ltE, if_pos c, ltS_y c]
          rfl
        · rw [upd_ne e]; exact hA t (by omega)
    · refine z_go ?_
      refine z_bf (nI_ge (a := h) (b := 40) hh (by omega)) ?_
      refine z_bt (nI_le (by omega) (by omega)) ?_
      refine z_go ?_
      refine And.intro (z_inN0 (by omega) (by omega)) ?_
      refine ih _ _ _ ⟨fun p hp => ?_, (ltS_n c).symm, nI_1 h, fun t ht => ?_⟩
      · rw [z_un hp]; exact hM p hp
      · rw [z_us, hch]
        by_cases e : t = h
        · subst e
          rw [upd_eq, ltE, if_neg c]
        · rw [upd_ne e]; exact hA t (by omega)) (by
    rintro b x M' ⟨hM, hb, rfl, hA⟩
    refine z_go ?_
    refine z_bt (nI_le (a := 40) (b := 40) (Nat.le_refl _) (by omega)) ?_
    refine z_go ?_
    exact z_rq hret rfl ⟨hM, hA⟩)
  exact loop 0 _ _ _ (Nat.zero_le _) ⟨fun _ _ => rfl, rfl, rfl, fun t ht => absurd ht (Nat.not_lt_zero t)⟩
set_option maxRecDepth 10000 in
set_option maxHeartbeats 1000000 in
theorem e5_year (n : Nat) (M : zM) (w : Rw) (hI : cI w M) (x y z : Int32) : zMet zi_X5_year [.ref 2, .int x, .int y, .int z] (zLay n 15) M (zLay n 15) (zr (some (.int (aYear w x y z))) (fun M' => cI w M' ∧ ∀ p, 45 ≤ p → M' p = M p)) := by
  refine z_mr (zk_X5_year _ _) rfl (Nat.le_of_ble_eq_true rfl) rfl (fun ret hret => ?_)
  by_cases hy : 0 ≤ y ∧ y ≤ 40
  · by_cases hz : 0 ≤ z ∧ z ≤ 1
    · obtain ⟨nn, hn, rfl⟩ := rg 40 rfl (by omega) hy
      obtain ⟨j, hj, rfl⟩ := rg 1 rfl (by omega) hz
      rcases (show j = 0 ∨ j = 1 by omega) with e | e
      · subst e
        rw [aYear_y hn (by omega)] at hret
        refine z_ca (z_cv 1 (c5_within _ _ _ _ _ (Nat.le_of_ble_eq_true rfl)) (zb_1 hy)) ?_
        refine z_bf (by decide) ?_
        refine z_ca (z_cv 1 (c5_within _ _ _ _ _ (Nat.le_of_ble_eq_true rfl)) (zb_1 hz)) ?_
        refine z_bf (by decide) ?_
        refine z_go ?_
        refine z_cx (c5_drawLots n M x nn hn) (fun M1 h1 => ?_)
        have ht : cTr w M1 36 allB allB (-1) (pWd (w.1 1) (w.2 0)) (ltE x nn) (w.1 0 0) := by
          have hc1 : cC w M1 := cC_sm hI.1 ⟨fun p _ _ => h1.1 p (by omega), fun p _ _ => h1.1 p (by omega), by rw [h1.1 2 (by omega)], by rw [h1.1 2 (by omega)]⟩
          obtain ⟨b0, b1, b2, b3, b4, b5, b6⟩ := cC_tr hc1
          exact ⟨b0, b1, b2, b3, b4, h1.2, b6⟩
        refine z_cx (d_fol28_36 n _ ht) (fun M2 h2 => ?_)
        obtain ⟨q1, q2⟩ := h2
        refine z_bt rfl ?_
        refine z_ca (c0_shortsInAll28 n 15 _ (tN w) _ (tN8 w) (fun t ht => (show M2 32 t = _ from crs_sh q2 t ht))) ?_
        refine z_go ?_
        have kk : ∀ p, p ≠ 36 → p ≤ 28 ∨ 34 < p → M2 p = M p := fun p p1 p2 => (q1 p p2).trans (h1.1 p p1)
        refine z_rq hret (z_vi ?_) ⟨⟨cC_sm hI.1 ⟨fun p _ _ => kk p (by omega) (by omega), fun p _ _ => kk p (by omega) (by omega), by rw [kk 2 (by omega) (by omega)], by rw [kk 2 (by omega) (by omega)]⟩, cT_kp hI.2.1 (by rw [kk 2 (by omega) (by omega)]) (fun p _ _ => kk p (by omega) (by omega)), cL_kp hI.2.2 (by rw [kk 2 (by omega) (by omega)]) (kk 35 (by omega) (by omega))⟩, fun p hp => kk p (by omega) (by omega)⟩
        exact (aYear_0 w x nn).symm
      · subst e
        rw [aYear_y hn (by omega)] at hret
        refine z_ca (z_cv 1 (c5_within _ _ _ _ _ (Nat.le_of_ble_eq_true rfl)) (zb_1 hy)) ?_
        refine z_bf (by decide) ?_
        refine z_ca (z_cv 1 (c5_within _ _ _ _ _ (Nat.le_of_ble_eq_true rfl)) (zb_1 hz)) ?_
        refine z_bf (by decide) ?_
        refine z_go ?_
        refine z_cx (c5_drawLots n M x nn hn) (fun M1 h1 => ?_)
        have ht : cTr w M1 36 allB allB (-1) (pWd (w.1 1) (w.2 0)) (ltE x nn) (w.1 0 0) := by
          have hc1 : cC w M1 := cC_sm hI.1 ⟨fun p _ _ => h1.1 p (by omega), fun p _ _ => h1.1 p (by omega), by rw [h1.1 2 (by omega)], by rw [h1.1 2 (by omega)]⟩
          obtain ⟨b0, b1, b2, b3, b4, b5, b6⟩ := cC_tr hc1
          exact ⟨b0, b1, b2, b3, b4, h1.2, b6⟩
        refine z_cx (d_fol28_36 n _ ht) (fun M2 h2 => ?_)
        obtain ⟨q1, q2⟩ := h2
        refine z_bf (by decide) ?_
        refine z_go ?_
        refine And.intro (show vp_in (nI 39) 40 from z_inN0 (by omega) (by omega)) ?_
        have kk : ∀ p, p ≠ 36 → p ≤ 28 ∨ 34 < p → M2 p = M p := fun p p1 p2 => (q1 p p2).trans (h1.1 p p1)
        refine z_rq hret (z_vi ?_) ⟨⟨cC_sm hI.1 ⟨fun p _ _ => kk p (by omega) (by omega), fun p _ _ => kk p (by omega) (by omega), by rw [kk 2 (by omega) (by omega)], by rw [kk 2 (by omega) (by omega)]⟩, cT_kp hI.2.1 (by rw [kk 2 (by omega) (by omega)]) (fun p _ _ => kk p (by omega) (by omega)), cL_kp hI.2.2 (by rw [kk 2 (by omega) (by omega)]) (kk 35 (by omega) (by omega))⟩, fun p hp => kk p (by omega) (by omega)⟩
        rw [aYear_1]
        exact (q2 39 (by omega)).1
    · refine z_ca (z_cv 1 (c5_within _ _ _ _ _ (Nat.le_of_ble_eq_true rfl)) (zb_1 hy)) ?_
      refine z_bf (by decide) ?_
      refine z_ca (z_cv 0 (c5_within _ _ _ _ _ (Nat.le_of_ble_eq_true rfl)) (zb_0 hz)) ?_
      refine z_bt (by decide) ?_
      exact z_rq hret (z_vi (show _ = aYear w x y z from (if_neg (fun q => hz q.2)).symm)) ⟨hI, fun _ _ => rfl⟩
  · refine z_ca (z_cv 0 (c5_within _ _ _ _ _ (Nat.le_of_ble_eq_true rfl)) (zb_0 hy)) ?_
    refine z_bt (by decide) ?_
    refine z_go ?_
    exact z_rq hret (z_vi (show _ = aYear w x y z from (if_neg (fun q => hy q.1)).symm)) ⟨hI, fun _ _ => rfl⟩
set_option maxRecDepth 10000 in
set_option maxHeartbeats 1000000 in
theorem d6_yearOf0 (n eb : Nat) (M : zM) (w : Rw) (hC : rC w M) (x : Int32) (nn : Nat) (hn : nn ≤ 40) : zMet zi_X6_yearOf [.ref 45, .int x, .int (nI nn), .int (nI 0)] (zLay n eb) M (zLay n eb) (zr (some (.int (aYearN w x nn 0))) (fun M' => rC w M' ∧ rSm M M')) := by
  refine z_mr (zk_X6_yearOf _ _) rfl (Nat.le_of_ble_eq_true rfl) rfl (fun ret hret => ?_)
  refine z_cx (d6_asTold n eb M w hC) (fun M1 h1 => ?_)
  have loop := z_l2 (P := zp_X6_yearOf) (ret := ret) (pc := 10) (L := zLay n eb) (N := 40) (lo := fun b x => [some (.ref 45), none, some (.int (nI nn)), some (.int (nI 0)), some (.int b), some (.int x)]) (I := fun h b y M' => (∀ p, p ≠ 60 → M' p = M1 p) ∧ b = ltS x nn h ∧ y = nI h ∧ ∀ t, t < h → M' 60 t = ltE x nn t) (by
    rintro h b y M' hh ⟨hM, rfl, rfl, hA⟩ ih
    have hch : (nI h).toNatClampNeg = h := z_cl (by omega)
    by_cases c : h < nn
    · refine z_go ?_
      refine z_bf (nI_ge (a := h) (b := 40) hh (by omega)) ?_
      refine z_bf (nI_ge c (by omega)) ?_
      refine z_go ?_
      refine z_bf (nI_ge c (by omega)) ?_
      refine And.intro (by decide) ?_
      refine z_go ?_
      refine And.intro (z_inN0 (by omega) (by omega)) ?_
      refine ih _ _ _ ⟨fun p hp => ?_, (ltS_y c).symm, nI_1 h, fun t ht => ?_⟩
      · rw [z_un hp]; exact hM p hp
      · rw [z_us, hch]
        by_cases e : t = h
        · subst e
          rw [upd_eq, ltE, if_pos c, ltS_y c]
          rfl
        · rw [upd_ne e]; exact hA t (by omega)
    · refine z_go ?_
      refine z_bf (nI_ge (a := h) (b := 40) hh (by omega)) ?_
      refine z_bt (nI_le (by omega) (by omega)) ?_
      refine z_go ?_
      refine z_bt (nI_le (by omega) (by omega)) ?_
      refine z_go ?_
      refine And.intro (z_inN0 (by omega) (by omega)) ?_
      refine ih _ _ _ ⟨fun p hp => ?_, (ltS_n c).symm, nI_1 h, fun t ht => ?_⟩
      · rw [z_un hp]; exact hM p hp
      · rw [z_us, hch]
        by_cases e : t = h
        · subst e
          rw [upd_eq, ltE, if_neg c]
        · rw [upd_ne e]; exact hA t (by omega)) (by
    rintro b y M' ⟨hM, hb, rfl, hA⟩
    have ht : rTr w M' allB allB (-1) (pWd (w.1 1) (w.2 0)) (ltE x nn) (w.1 0 0) := by
      obtain ⟨⟨-, b1, b2, b3, b4, b5, b6⟩, -⟩ := id h1.2.1
      have m45 : M' 45 = M1 45 := hM 45 (by omega)
      refine rTr_of h1.2.1 (fun p p1 p2 p3 => hM p (by omega)) (by rw [m45]) (by rw [m45]) (by rw [m45]) (by rw [m45]; exact b1) (by rw [m45]; exact b2) (by rw [m45]; exact b3) (fun k hk => by rw [hM 50 (by omega)]; exact b4 k hk) hA (by rw [m45]; exact b6)
    refine z_go ?_
    refine z_bt (nI_le (a := 40) (b := 40) (Nat.le_refl _) (by omega)) ?_
    refine z_go ?_
    refine z_cx (d_runs n eb _ (ht)) (fun M2 h2 => ?_)
    obtain ⟨q1, q2, q3⟩ := h2
    refine z_bt rfl ?_
    refine z_ca (c6_shortAll n eb _ (tN w) _ (tN8 w) (by rw [q1, upd_ne (by omega), hM 45 (by omega)]; exact h1.2.1.1.1.2.1) (fun t ht => (show M2 65 t = _ from crs_sh q3 t ht))) ?_
    refine z_go ?_
    have sm2 : rSm M1 M2 := ⟨fun p hp => by rw [q2 p (by omega) (by omega)]; exact hM p (by omega), by rw [q1, upd_ne (by omega), hM 45 (by omega)], by rw [q1, upd_ne (by omega), hM 45 (by omega)], by rw [q1, upd_ne (by omega), hM 45 (by omega)], by rw [q1, upd_ne (by omega), hM 45 (by omega)]⟩
    refine z_rq hret (z_vi ?_) ⟨rC_sm h1.1 sm2, rSm_tr h1.2.2 sm2⟩
    exact (aYear_0 w x nn).symm)
  exact loop 0 _ _ _ (Nat.zero_le _) ⟨fun _ _ => rfl, rfl, rfl, fun t ht => absurd ht (Nat.not_lt_zero t)⟩
set_option maxRecDepth 10000 in
set_option maxHeartbeats 1000000 in
theorem d6_yearOf1 (n eb : Nat) (M : zM) (w : Rw) (hC : rC w M) (x : Int32) (nn : Nat) (hn : nn ≤ 40) : zMet zi_X6_yearOf [.ref 45, .int x, .int (nI nn), .int (nI 1)] (zLay n eb) M (zLay n eb) (zr (some (.int (aYearN w x nn 1))) (fun M' => rC w M' ∧ rSm M M')) := by
  refine z_mr (zk_X6_yearOf _ _) rfl (Nat.le_of_ble_eq_true rfl) rfl (fun ret hret => ?_)
  refine z_cx (d6_asTold n eb M w hC) (fun M1 h1 => ?_)
  have loop := z_l2 (P := zp_X6_yearOf) (ret := ret) (pc := 10) (L := zLay n eb) (N := 40) (lo := fun b x => [some (.ref 45), none, some (.int (nI nn)), some (.int (nI 1)), some (.int b), some (.int x)]) (I := fun h b y M' => (∀ p, p ≠ 60 → M' p = M1 p) ∧ b = ltS x nn h ∧ y = nI h ∧ ∀ t, t < h → M' 60 t = ltE x nn t) (by
    rintro h b y M' hh ⟨hM, rfl, rfl, hA⟩ ih
    have hch : (nI h).toNatClampNeg = h := z_cl (by omega)
    by_cases c : h < nn
    · refine z_go ?_
      refine z_bf (nI_ge (a := h) (b := 40) hh (by omega)) ?_
      refine z_bf (nI_ge c (by omega)) ?_
      refine z_go ?_
      refine z_bf (nI_ge c (by omega)) ?_
      refine And.intro (by decide) ?_
      refine z_go ?_
      refine And.intro (z_inN0 (by omega) (by omega)) ?_
      refine ih _ _ _ ⟨fun p hp => ?_, (ltS_y c).symm, nI_1 h, fun t ht => ?_⟩
      · rw [z_un hp]; exact hM p hp
      · rw [z_us, hch]
        by_cases e : t = h
        · subst e
          rw [upd_eq, ltE, if_pos c, ltS_y c]
          rfl
        · rw [upd_ne e]; exact hA t (by omega)
    · refine z_go ?_
      refine z_bf (nI_ge (a := h) (b := 40) hh (by omega)) ?_
      refine z_bt (nI_le (by omega) (by omega)) ?_
      refine z_go ?_
      refine z_bt (nI_le (by omega) (by omega)) ?_
      refine z_go ?_
      refine And.intro (z_inN0 (by omega) (by omega)) ?_
      refine ih _ _ _ ⟨fun p hp => ?_, (ltS_n c).symm, nI_1 h, fun t ht => ?_⟩
      · rw [z_un hp]; exact hM p hp
      · rw [z_us, hch]
        by_cases e : t = h
        · subst e
          rw [upd_eq, ltE, if_neg c]
        · rw [upd_ne e]; exact hA t (by omega)) (by
    rintro b y M' ⟨hM, hb, rfl, hA⟩
    have ht : rTr w M' allB allB (-1) (pWd (w.1 1) (w.2 0)) (ltE x nn) (w.1 0 0) := by
      obtain ⟨⟨-, b1, b2, b3, b4, b5, b6⟩, -⟩ := id h1.2.1
      have m45 : M' 45 = M1 45 := hM 45 (by omega)
      refine rTr_of h1.2.1 (fun p p1 p2 p3 => hM p (by omega)) (by rw [m45]) (by rw [m45]) (by rw [m45]) (by rw [m45]; exact b1) (by rw [m45]; exact b2) (by rw [m45]; exact b3) (fun k hk => by rw [hM 50 (by omega)]; exact b4 k hk) hA (by rw [m45]; exact b6)
    refine z_go ?_
    refine z_bt (nI_le (a := 40) (b := 40) (Nat.le_refl _) (by omega)) ?_
    refine z_go ?_
    refine z_cx (d_runs n eb _ (ht)) (fun M2 h2 => ?_)
    obtain ⟨q1, q2, q3⟩ := h2
    refine z_bf (by decide) ?_
    refine z_go ?_
    have sm2 : rSm M1 M2 := ⟨fun p hp => by rw [q2 p (by omega) (by omega)]; exact hM p (by omega), by rw [q1, upd_ne (by omega), hM 45 (by omega)], by rw [q1, upd_ne (by omega), hM 45 (by omega)], by rw [q1, upd_ne (by omega), hM 45 (by omega)], by rw [q1, upd_ne (by omega), hM 45 (by omega)]⟩
    refine z_rq hret (z_vi ?_) ⟨rC_sm h1.1 sm2, rSm_tr h1.2.2 sm2⟩
    rw [aYear_1]
    show M2 45 23 = _
    rw [q1, upd_eq])
  exact loop 0 _ _ _ (Nat.zero_le _) ⟨fun _ _ => rfl, rfl, rfl, fun t ht => absurd ht (Nat.not_lt_zero t)⟩
set_option maxRecDepth 10000 in
set_option maxHeartbeats 1000000 in
theorem e6_year (n eb : Nat) (M : zM) (w : Rw) (hC : rC w M) (x y z : Int32) : zMet zi_X6_year [.ref 45, .int x, .int y, .int z] (zLay n eb) M (zLay n eb) (zr (some (.int (aYear w x y z))) (fun M' => rC w M' ∧ rSm M M')) := by
  refine z_mr (zk_X6_year _ _) rfl (Nat.le_of_ble_eq_true rfl) rfl (fun ret hret => ?_)
  by_cases hy : 0 ≤ y ∧ y ≤ 40
  · by_cases hz : 0 ≤ z ∧ z ≤ 1
    · obtain ⟨nn, hn, rfl⟩ := rg 40 rfl (by omega) hy
      obtain ⟨j, hj, rfl⟩ := rg 1 rfl (by omega) hz
      rcases (show j = 0 ∨ j = 1 by omega) with e | e
      · subst e
        rw [aYear_y hn (by omega)] at hret
        refine z_ca (z_cv 1 (c6_in _ _ _ _ _ (Nat.le_of_ble_eq_true rfl)) (zb_1 hy)) ?_
        refine z_bf (by decide) ?_
        refine z_ca (z_cv 1 (c6_in _ _ _ _ _ (Nat.le_of_ble_eq_true rfl)) (zb_1 hz)) ?_
        refine z_bf (by decide) ?_
        refine z_cx (d6_yearOf0 n eb M w hC x nn hn) (fun M1 h1 => ?_)
        refine z_go ?_
        exact z_rq hret rfl h1
      · subst e
        rw [aYear_y hn (by omega)] at hret
        refine z_ca (z_cv 1 (c6_in _ _ _ _ _ (Nat.le_of_ble_eq_true rfl)) (zb_1 hy)) ?_
        refine z_bf (by decide) ?_
        refine z_ca (z_cv 1 (c6_in _ _ _ _ _ (Nat.le_of_ble_eq_true rfl)) (zb_1 hz)) ?_
        refine z_bf (by decide) ?_
        refine z_cx (d6_yearOf1 n eb M w hC x nn hn) (fun M1 h1 => ?_)
        refine z_go ?_
        exact z_rq hret rfl h1
    · refine z_ca (z_cv 1 (c6_in _ _ _ _ _ (Nat.le_of_ble_eq_true rfl)) (zb_1 hy)) ?_
      refine z_bf (by decide) ?_
      refine z_ca (z_cv 0 (c6_in _ _ _ _ _ (Nat.le_of_ble_eq_true rfl)) (zb_0 hz)) ?_
      refine z_bt (by decide) ?_
      refine z_go ?_
      exact z_rq hret (z_vi (show _ = aYear w x y z from (if_neg (fun q => hz q.2)).symm)) ⟨hC, rSm_rf M⟩
  · refine z_ca (z_cv 0 (c6_in _ _ _ _ _ (Nat.le_of_ble_eq_true rfl)) (zb_0 hy)) ?_
    refine z_bt (by decide) ?_
    refine z_go ?_
    exact z_rq hret (z_vi (show _ = aYear w x y z from (if_neg (fun q => hy q.1)).symm)) ⟨hC, rSm_rf M⟩
