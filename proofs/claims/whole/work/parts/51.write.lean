/-! write, read, count, in both -/
noncomputable section
def wrG (w : Rw) (k s h : Nat) : Int32 := nar (w.1 12 s) ((tHt w h).2.2.2.2 k)
def stWrite (w : Rw) (x y : Int32) : Int32 × Rw := if 0 ≤ x ∧ x ≤ nI (tN w) - 1 then (if 0 ≤ y ∧ y ≤ 3 then (if w.1 11 y.toNatClampNeg = 0 then (-11, wU w 0 3 1) else (nI (min (w.1 13 y.toNatClampNeg).toNatClampNeg 40), wC w 14 (fb_put (w.1 14) (wrG w x.toNatClampNeg y.toNatClampNeg) (60 * y.toNatClampNeg) (min (w.1 13 y.toNatClampNeg).toNatClampNeg 40)))) else (-2, w)) else (-2, w)
end
set_option maxRecDepth 10000 in
set_option maxHeartbeats 1000000 in
theorem e5_write (n : Nat) (M : zM) (w : Rw) (hI : cI w M) (x y : Int32) : zMet zi_X5_write [.ref 2, .int x, .int y] (zLay n 15) M (zLay n 15) (zr (some (.int (stWrite w x y).1)) (cTo (stWrite w x y).2 M)) := by
  refine z_mr (zk_X5_write _ _) rfl (Nat.le_of_ble_eq_true rfl) rfl (fun ret hret => ?_)
  obtain ⟨⟨⟨w1, w2, w3, w4, w5⟩, wb, wp, ws, wt⟩, c1, c2, c3, c4, c5, c6, c7, c8, c9, c10, c11, c12⟩ := hI.1
  have h8 := tN8 w
  by_cases hx : 0 ≤ x ∧ x ≤ nI (tN w) - 1
  · obtain ⟨k, hk, rfl⟩ := rgH h8 hx
    have hck : (nI k).toNatClampNeg = k := z_cl (by omega)
    by_cases hy : 0 ≤ y ∧ y ≤ 3
    · obtain ⟨s, hs, rfl⟩ := rg 3 rfl (by omega) hy
      have hcs : (nI s).toNatClampNeg = s := z_cl (by omega)
      by_cases h1 : w.1 11 s = 0
      · have hno : stWrite w (nI k) (nI s) = (-11, wU w 0 3 1) := by unfold stWrite; rw [if_pos hx, if_pos hy, hcs, if_pos h1]
        rw [hno] at hret
        refine z_ca (z_cv 1 (d5_isHouse n 15 M w hI.1 _) (zb_1 hx)) ?_
        refine z_bf (by decide) ?_
        refine z_ca (z_cv 1 (c5_isSheet _ _ _ (Nat.le_of_ble_eq_true rfl)) (zb_1 hy)) ?_
        refine z_bf (by decide) ?_
        refine z_go ?_
        refine z_ca (z_cv 1 (c1_isLost n 15 M s (by omega)) (zb_1 (cSh0 hI.1 (by omega) h1))) ?_
        refine z_bf (by decide) ?_
        refine z_ca (c5_found n 15 _ _) ?_
        exact z_rq hret rfl ⟨cI_find hI _, fun p hp => z_un (by omega)⟩
      · obtain ⟨q1, q2, q3, z, q4, q5, q6⟩ := cSh1 hI.1 (show s < 4 by omega) h1
        have hno : stWrite w (nI k) (nI s) = (nI (min z 40), wC w 14 (fb_put (w.1 14) (wrG w k s) (60 * s) (min z 40))) := by unfold stWrite; rw [if_pos hx, if_pos hy, hcs, if_neg h1, hck, q5, z_cl (by omega)]
        rw [hno] at hret
        have hmin : min z 40 ≤ 40 := Nat.min_le_right _ _
        have hmin2 : min z 40 ≤ z := Nat.min_le_left _ _
        refine z_ca (z_cv 1 (d5_isHouse n 15 M w hI.1 _) (zb_1 hx)) ?_
        refine z_bf (by decide) ?_
        refine z_ca (z_cv 1 (c5_isSheet _ _ _ (Nat.le_of_ble_eq_true rfl)) (zb_1 hy)) ?_
        refine z_bf (by decide) ?_
        refine z_go ?_
        refine z_ca (z_cv 0 (c1_isLost n 15 M s (by omega)) (zb_0 q2)) ?_
        refine z_bt (by decide) ?_
        refine z_go ?_
        refine z_cx (d5_toldCourse n M w hI) (fun M1 h1 => ?_)
        obtain ⟨i1, i2, i3⟩ := h1
        refine And.intro (z_inN0 (by omega) (by omega)) ?_
        obtain ⟨r1, r2, r3, z', r4, r5, r6⟩ := cSh1 i1.1 (show s < 4 by omega) h1
        have hzy : z' = z := (nI_eq (by omega) (by omega)).mp (r5.symm.trans q5)
        subst hzy
        have e44 : M1 44 = w.1 14 := i1.1.2.2.2.2.2.2.2.2.2.2.1
        have e43 : ∀ f, va_up M1 44 f 43 s = nI z' := fun f => by rw [z_un (by omega)]; exact r6
        have hg : ∀ h, h < 40 → nar (M1 42 s) (M1 26 (8 * h + k)) = wrG w k s h := fun h hh => by
          unfold wrG
          rw [r1, show M1 26 (8 * h + k) = _ from (i2 h hh).2.2.2.2 k hk]
        have loop := z_l1 (P := zp_X5_write) (ret := ret) (pc := 59) (L := zLay n 15) (N := min z' 40) (lo := fun x => [some (.ref 2), some (.int (nI k)), some (.int (nI s)), some (.ref 21), some (.int (nI (min z' 40))), some (.int x)]) (I := fun h x M' => M' = va_up M1 44 (fb_put (w.1 14) (wrG w k s) (60 * s) h) ∧ x = nI h) (by
          rintro h x M' hh ⟨rfl, rfl⟩ ih
          refine z_go ?_
          refine z_bf (nI_ge (a := h) (b := min z' 40) hh (by omega)) ?_
          refine z_ca (c0_gotBy21 n 15 _ h k (by omega) (by omega)) ?_
          refine z_ca (c1_store n 15 _ s z' h (by omega) (e43 _) q4 (by omega) _) ?_
          refine ih _ _ ⟨?_, nI_1 h⟩
          rw [z_uu]
          show va_up M1 44 (upd (fb_put (w.1 14) (wrG w k s) (60 * s) h) (60 * s + h) (nar (M1 42 s) (M1 26 (8 * h + k)))) = _
          rw [hg h (by omega), fb_put_succ (w.1 14) (wrG w k s) (60 * s) h]) (by
          rintro x M' ⟨rfl, rfl⟩
          refine z_go ?_
          refine z_bt (nI_le (a := min z' 40) (b := min z' 40) (Nat.le_refl _) (by omega)) ?_
          refine z_go ?_
          refine z_rq hret rfl ⟨?_, fun p hp => ?_⟩
          · obtain ⟨⟨⟨⟨w1, w2, w3, w4, w5⟩, wb, wp, ws, wt⟩, c1, c2, c3, c4, c5, c6, c7, c8, c9, c10, c11, c12⟩, hT, hL⟩ := i1
            exact ⟨⟨⟨⟨w1, w2, w3, w4, w5⟩, wb, wp, ws, wt⟩, c1, c2, c3, c4, c5, c6, c7, c8, c9, z_us, c11, c12⟩, hT, hL⟩
          · rw [z_un (by omega)]
            exact i3 p hp)
        have emin : (if (40 : Int32) < M1 43 (nI s).toNatClampNeg then (40 : Int32) else M1 43 (nI s).toNatClampNeg) = nI (min z' 40) := by
          rw [hcs, r6]
          by_cases hz : 40 < z'
          · rw [if_pos (show (40 : Int32) < nI z' from nI_lt (a := 40) hz (by omega)), Nat.min_eq_right (by omega)]; rfl
          · rw [if_neg (show ¬ (40 : Int32) < nI z' from fun q => hz ((nI_ltI (a := 40) (by omega) (by omega)).mp q)), Nat.min_eq_left (by omega)]
        refine fa_post (P := fun q => z_E _ _ _ [some (.ref 2), some (.int (nI k)), some (.int (nI s)), some (.ref 21), some (.int q), some (.int (nI 0))] [] _ _) emin ?_
        refine loop 0 _ _ (Nat.zero_le _) ⟨?_, rfl⟩
        rw [fb_put_0, ← e44]
        exact (z_uid (M := M1) (p := 44)).symm
    · have hno : stWrite w (nI k) y = (-2, w) := by unfold stWrite; rw [if_pos hx, if_neg hy]
      rw [hno] at hret
      refine z_ca (z_cv 1 (d5_isHouse n 15 M w hI.1 _) (zb_1 hx)) ?_
      refine z_bf (by decide) ?_
      refine z_ca (z_cv 0 (c5_isSheet _ _ _ (Nat.le_of_ble_eq_true rfl)) (zb_0 hy)) ?_
      refine z_bt (by decide) ?_
      exact z_rq hret rfl ⟨hI, fun _ _ => rfl⟩
  · have hno : stWrite w x y = (-2, w) := by unfold stWrite; rw [if_neg hx]
    rw [hno] at hret
    refine z_ca (z_cv 0 (d5_isHouse n 15 M w hI.1 _) (zb_0 hx)) ?_
    refine z_bt (by decide) ?_
    refine z_go ?_
    exact z_rq hret rfl ⟨hI, fun _ _ => rfl⟩
set_option maxRecDepth 10000 in
set_option maxHeartbeats 1000000 in
theorem e6_write (n eb : Nat) (M : zM) (w : Rw) (hC : rC w M) (x y : Int32) : zMet zi_X6_write [.ref 45, .int x, .int y] (zLay n eb) M (zLay n eb) (zr (some (.int (stWrite w x y).1)) (rTo (stWrite w x y).2 M)) := by
  refine z_mr (zk_X6_write _ _) rfl (Nat.le_of_ble_eq_true rfl) rfl (fun ret hret => ?_)
  have hC0 := hC
  obtain ⟨⟨⟨w1, w2, w3, w4, w5⟩, wb, wp, ws, wt⟩, c1, c2, c3, c4, ⟨c5, c6, c7, c8⟩, c9, c10, c11⟩ := hC
  have h8 := tN8 w
  by_cases hx : 0 ≤ x ∧ x ≤ nI (tN w) - 1
  · obtain ⟨k, hk, rfl⟩ := rgH h8 hx
    have hck : (nI k).toNatClampNeg = k := z_cl (by omega)
    by_cases hy : 0 ≤ y ∧ y ≤ 3
    · obtain ⟨s, hs, rfl⟩ := rg 3 rfl (by omega) hy
      have hcs : (nI s).toNatClampNeg = s := z_cl (by omega)
      by_cases h1 : w.1 11 s = 0
      · have hno : stWrite w (nI k) (nI s) = (-11, wU w 0 3 1) := by unfold stWrite; rw [if_pos hx, if_pos hy, hcs, if_pos h1]
        rw [hno] at hret
        refine z_cx (zMet_v 1 (d6_isHouse n eb M w hC0 _) (zb_1 hx)) (fun M0 h0 => ?_)
        have e71 : M0 71 (nI s).toNatClampNeg = w.1 11 s := by rw [hcs, h0.1.2.2.2.2.2.2.2.2.1]
        refine z_bf (by decide) ?_
        refine z_ca (z_cv 1 (c6_isSheet _ _ _ (Nat.le_of_ble_eq_true rfl)) (zb_1 hy)) ?_
        refine z_bf (by decide) ?_
        refine z_go ?_
        refine And.intro (z_inN0 (by omega) (by omega)) ?_
        refine z_bt (by rw [e71]; exact h1) ?_
        refine z_ca (c6_meets n eb _ _) ?_
        exact z_rq hret rfl ⟨rC_find h0.1 _, fun p hp => by rw [z_un (by omega)]; exact h0.2.1.1 p (Or.inl hp)⟩
      · obtain ⟨z, q4, q5⟩ : ∃ z, z ≤ 60 ∧ w.1 13 s = nI z := by
          rcases wSh ⟨⟨w1, w2, w3, w4, w5⟩, wb, wp, ws, wt⟩ (show s < 4 by omega) with q | q
          · exact absurd q h1
          · exact q.2.2
        have hno : stWrite w (nI k) (nI s) = (nI (min z 40), wC w 14 (fb_put (w.1 14) (wrG w k s) (60 * s) (min z 40))) := by unfold stWrite; rw [if_pos hx, if_pos hy, hcs, if_neg h1, hck, q5, z_cl (by omega)]
        rw [hno] at hret
        have hmin : min z 40 ≤ 40 := Nat.min_le_right _ _
        have hmin2 : min z 40 ≤ z := Nat.min_le_left _ _
        refine z_cx (zMet_v 1 (d6_isHouse n eb M w hC0 _) (zb_1 hx)) (fun M0 h0 => ?_)
        have e71 : M0 71 (nI s).toNatClampNeg = w.1 11 s := by rw [hcs, h0.1.2.2.2.2.2.2.2.2.1]
        refine z_bf (by decide) ?_
        refine z_ca (z_cv 1 (c6_isSheet _ _ _ (Nat.le_of_ble_eq_true rfl)) (zb_1 hy)) ?_
        refine z_bf (by decide) ?_
        refine z_go ?_
        refine And.intro (z_inN0 (by omega) (by omega)) ?_
        refine z_bf (by rw [e71]; exact h1) ?_
        refine z_go ?_
        refine z_cx (d6_runsTold n eb M0 w h0.1) (fun M1 h1' => ?_)
        obtain ⟨i1, i2, i3, i4, i5, i6⟩ := h1'
        have e73 : M1 73 (nI s).toNatClampNeg = nI z := by rw [hcs, i1.2.2.2.2.2.2.2.2.2.2.1, q5]
        have e72 : M1 72 s = w.1 12 s := by rw [i1.2.2.2.2.2.2.2.2.2.1]
        have e74 : M1 74 = w.1 14 := i1.2.2.2.2.2.2.2.2.2.2.2
        have hat : ∀ h, 8 * nI h + nI k = nI (8 * h + k) := fun h => by rw [show (8 : Int32) = nI 8 from rfl, pk_mul, nI_add]
        have hg : ∀ h, h < 40 → nar (M1 72 s) (M1 66 (8 * h + k)) = wrG w k s h := fun h hh => by
          unfold wrG
          rw [e72, show M1 66 (8 * h + k) = _ from (i2 h hh).2.2.2.2 k hk]
        have loop := z_l1 (P := zp_X6_write) (ret := ret) (pc := 39) (L := zLay n eb) (N := min z 40) (lo := fun x => [some (.ref 45), some (.int (nI k)), some (.int (nI s)), some (.int x)]) (I := fun h x M' => M' = va_up M1 74 (fb_put (w.1 14) (wrG w k s) (60 * s) h) ∧ x = nI h) (by
          rintro h x M' hh ⟨rfl, rfl⟩ ih
          refine z_go ?_
          refine And.intro (z_inN0 (by omega) (by omega)) ?_
          refine z_bf (by show ¬ M1 73 (nI s).toNatClampNeg ≤ nI h; rw [e73]; exact nI_ge (a := h) (b := z) (by omega) (by omega)) ?_
          refine z_bf (nI_ge (a := h) (b := 40) (by omega) (by omega)) ?_
          refine And.intro (by show vp_in (8 * nI h + nI k) 320; rw [hat h]; exact z_inN0 (by omega) (by omega)) ?_
          refine z_ca (c6_keep n eb _ s h (by omega) (by omega) _) ?_
          refine ih _ _ ⟨?_, nI_1 h⟩
          rw [z_uu]
          show va_up M1 74 (upd (fb_put (w.1 14) (wrG w k s) (60 * s) h) (60 * s + h) (nar (M1 72 s) (M1 66 (8 * nI h + nI k).toNatClampNeg))) = _
          rw [hat h, z_cl (by omega), hg h (by omega), fb_put_succ (w.1 14) (wrG w k s) (60 * s) h]) (by
          rintro x M' ⟨rfl, rfl⟩
          refine z_go ?_
          by_cases hz : z ≤ 40
          · refine And.intro (z_inN0 (by omega) (by omega)) ?_
            refine z_bt (by show M1 73 (nI s).toNatClampNeg ≤ nI (min z 40); rw [e73]; exact nI_le (by omega) (by omega)) ?_
            refine z_go ?_
            refine z_rq hret rfl ⟨?_, fun p hp => ?_⟩
            · obtain ⟨⟨⟨w1, w2, w3, w4, w5⟩, wb, wp, ws, wt⟩, c1, c2, c3, c4, ⟨c5, c6, c7, c8⟩, c9, c10, c11⟩ := i1
              exact ⟨⟨⟨w1, w2, w3, w4, w5⟩, wb, wp, ws, wt⟩, c1, c2, c3, c4, ⟨c5, c6, c7, c8⟩, c9, c10, c11.1, c11.2.1, c11.2.2.1, z_us⟩
            · rw [z_un (by omega), i3.1 p (Or.inl hp)]
              exact h0.2.1.1 p (Or.inl hp)
          · refine And.intro (z_inN0 (by omega) (by omega)) ?_
            refine z_bf (by show ¬ M1 73 (nI s).toNatClampNeg ≤ nI (min z 40); rw [e73]; exact nI_ge (by omega) (by omega)) ?_
            refine z_bt (by show (40 : Int32) ≤ nI (min z 40); exact nI_le (a := 40) (by omega) (by omega)) ?_
            refine z_go ?_
            refine z_rq hret rfl ⟨?_, fun p hp => ?_⟩
            · obtain ⟨⟨⟨w1, w2, w3, w4, w5⟩, wb, wp, ws, wt⟩, c1, c2, c3, c4, ⟨c5, c6, c7, c8⟩, c9, c10, c11⟩ := i1
              exact ⟨⟨⟨w1, w2, w3, w4, w5⟩, wb, wp, ws, wt⟩, c1, c2, c3, c4, ⟨c5, c6, c7, c8⟩, c9, c10, c11.1, c11.2.1, c11.2.2.1, z_us⟩
            · rw [z_un (by omega), i3.1 p (Or.inl hp)]
              exact h0.2.1.1 p (Or.inl hp))
        refine loop 0 _ _ (Nat.zero_le _) ⟨?_, rfl⟩
        rw [fb_put_0, ← e74]
        exact (z_uid (M := M1) (p := 74)).symm
    · have hno : stWrite w (nI k) y = (-2, w) := by unfold stWrite; rw [if_pos hx, if_neg hy]
      rw [hno] at hret
      refine z_cx (zMet_v 1 (d6_isHouse n eb M w hC0 _) (zb_1 hx)) (fun M0 h0 => ?_)
      refine z_bf (by decide) ?_
      refine z_ca (z_cv 0 (c6_isSheet _ _ _ (Nat.le_of_ble_eq_true rfl)) (zb_0 hy)) ?_
      refine z_bt (by decide) ?_
      exact z_rq hret rfl ⟨h0.1, fun p hp => h0.2.1.1 p (Or.inl hp)⟩
  · have hno : stWrite w x y = (-2, w) := by unfold stWrite; rw [if_neg hx]
    rw [hno] at hret
    refine z_cx (zMet_v 0 (d6_isHouse n eb M w hC0 _) (zb_0 hx)) (fun M0 h0 => ?_)
    refine z_bt (by decide) ?_
    refine z_go ?_
    exact z_rq hret rfl ⟨h0.1, fun p hp => h0.2.1.1 p (Or.inl hp)⟩
