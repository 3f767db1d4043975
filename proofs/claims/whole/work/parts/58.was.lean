/-! was, in both -/
noncomputable section
/-- the hours, if the pipe of the house k is so wide -/
def tWd (w : Rw) (k v : Nat) : Nat → Int32 × Int32 × Int32 × Int32 × (Nat → Int32) := tHr w allB allB (-1) (upd (pWd (w.1 1) (w.2 0)) k (nI v)) (eEl (w.1 2) (w.2 1)) (w.1 0 0)
def gWas (w : Rw) (k v : Nat) : Bool := decide (1 ≤ v) && sOut w (tWd w k v)
def aWasN (w : Rw) (k : Nat) : Nat := bw (gWas w k) 10
def aWas (w : Rw) (x : Int32) : Int32 := if 0 ≤ x ∧ x ≤ nI (tN w) - 1 then nI (aWasN w x.toNatClampNeg) else -2
end
theorem gWas_y {w : Rw} {k v : Nat} (hv : 1 ≤ v) : gWas w k v = sOut w (tWd w k v) := by
  unfold gWas
  rw [decide_eq_true hv, Bool.true_and]
theorem aWasN_e (w : Rw) (k : Nat) : nI (bw (gWas w k) 10) = nI (aWasN w k) := by unfold aWasN; rfl
theorem aWas_e {w : Rw} {k : Nat} (hk : k < tN w) : aWas w (nI k) = nI (bw (gWas w k) 10) := by
  have h8 := tN8 w
  unfold aWas
  rw [if_pos (rgH' hk h8), z_cl (by omega), aWasN_e]
theorem bw_z (g : Nat → Bool) : (0 : Int32) = nI (bw g 0) := rfl
theorem gWas_0 (w : Rw) (k : Nat) : (0 : Int32) = nI (bw (gWas w k) 1) := by
  rw [bw_n (by unfold gWas; simp)]
  rfl
theorem kpT_tr {M M' M'' : zM} (h : kpT M M') (h' : kpT M' M'') : kpT M M'' := fun p hp => (h' p hp).trans (h p hp)
set_option maxRecDepth 10000 in
set_option maxHeartbeats 1000000 in
theorem d5_tryWide (n : Nat) (M : zM) (w : Rw) (hI : cI w M) (k v : Nat) (hk : k < tN w) : zMet zi_X5_tryWide [.ref 2, .int (nI k), .int (nI v)] (zLay n 15) M (zLay n 15) (zr none (fun M' => kpT M M' ∧ crs 28 (tN w) (tWd w k v) M')) := by
  refine z_mr (zk_X5_tryWide _ _) rfl (Nat.le_of_ble_eq_true rfl) rfl (fun ret hret => ?_)
  have h8 := tN8 w
  have hck : (nI k).toNatClampNeg = k := z_cl (by omega)
  have ht : cTr w (va_up M 11 (upd (M 11) (nI k).toNatClampNeg (nI v))) 15 allB allB (-1) (upd (pWd (w.1 1) (w.2 0)) k (nI v)) (eEl (w.1 2) (w.2 1)) (w.1 0 0) := by
    rw [hck]
    obtain ⟨-, b1, b2, b3, b4, b5, b6⟩ := cC_tr hI.1
    refine cTr_of hI.1 (fun p p1 p2 p3 p4 => z_un p3) rfl rfl rfl rfl b1 b2 b3 ?_ b5 b6
    intro q hq
    rw [z_us]
    by_cases e : q = k
    · subst e; rw [upd_eq, upd_eq]
    · rw [upd_ne e, upd_ne e, b4 q hq]
  refine And.intro (z_inN0 (by omega) (by omega)) ?_
  refine And.intro (z_inN0 (by omega) (by omega)) ?_
  refine z_cx (d_fol28_15 n _ (ht)) (fun M2 h2 => ?_)
  obtain ⟨q1, q2⟩ := h2
  refine And.intro (z_inN0 (by omega) (by omega)) ?_
  refine z_rq hret rfl ⟨fun p hp => ?_, q2⟩
  by_cases e : p = 11
  · subst e
    rw [z_us, q1 11 (by omega), z_us, fa_upd_twice]
    exact fa_upd_same rfl
  · rw [z_un e, q1 p hp, z_un e]
set_option maxRecDepth 10000 in
set_option maxHeartbeats 1000000 in
theorem e5_was (n : Nat) (M : zM) (w : Rw) (hI : cI w M) (x : Int32) : zMet zi_X5_was [.ref 2, .int x] (zLay n 15) M (zLay n 15) (zr (some (.int (aWas w x))) (fun M' => cI w M' ∧ ∀ p, 45 ≤ p → M' p = M p)) := by
  refine z_mr (zk_X5_was _ _) rfl (Nat.le_of_ble_eq_true rfl) rfl (fun ret hret => ?_)
  have h8 := tN8 w
  by_cases hx : 0 ≤ x ∧ x ≤ nI (tN w) - 1
  · obtain ⟨k, hk, rfl⟩ := rgH h8 hx
    refine z_ca (z_cv 1 (d5_isHouse n 15 M w hI.1 _) (zb_1 hx)) ?_
    refine z_bf (by decide) ?_
    refine z_go ?_
    have loop := z_l2 (P := zp_X5_was) (ret := ret) (pc := 15) (L := zLay n 15) (N := 10) (lo := fun b x => [some (.ref 2), some (.int (nI k)), some (.int b), some (.int x)]) (I := fun h b x M' => kpT M M' ∧ b = nI (bw (gWas w k) h) ∧ x = nI h ∧ 1 ≤ h) (by
      rintro h b x M' hh ⟨hM, rfl, rfl, h1⟩ ih
      by_cases hp : sOut w (tWd w k h) = true
      · refine z_go ?_
        refine z_bf (fun c => absurd ((nI_ltI (a := 9) (b := h) (by omega) (by omega)).mp c) (by omega)) ?_
        refine z_cx (d5_tryWide n M' w (cI_kpT hI hM) k h hk) (fun M2 h2 => ?_)
        obtain ⟨q1, q2⟩ := h2
        refine z_ca (z_cv 1 (d5_comesOut n (j := 0) hI.1 (kpU_kpT (kpT_tr hM q1)) q2) (zb_1 hp)) ?_
        refine z_bf (by decide) ?_
        exact ih _ _ _ ⟨kpT_tr hM q1, bwI_y (by omega) (by rw [gWas_y h1]; exact hp), nI_1 h, by omega⟩
      · refine z_go ?_
        refine z_bf (fun c => absurd ((nI_ltI (a := 9) (b := h) (by omega) (by omega)).mp c) (by omega)) ?_
        refine z_cx (d5_tryWide n M' w (cI_kpT hI hM) k h hk) (fun M2 h2 => ?_)
        obtain ⟨q1, q2⟩ := h2
        refine z_ca (z_cv 0 (d5_comesOut n (j := 0) hI.1 (kpU_kpT (kpT_tr hM q1)) q2) (zb_0 hp)) ?_
        refine z_bt (by decide) ?_
        refine z_go ?_
        exact ih _ _ _ ⟨kpT_tr hM q1, by rw [bw_n (by rw [gWas_y h1]; exact hp)], nI_1 h, by omega⟩) (by
      rintro b x M' ⟨hM, hb, rfl, h1⟩
      refine z_go ?_
      refine z_bt (nI_lt (a := 9) (b := 10) (by omega) (by omega)) ?_
      refine z_go ?_
      exact z_rq hret (z_vi (hb.trans (aWas_e hk).symm)) ⟨cI_kpT hI hM, fun p hp => hM p (by omega)⟩)
    exact loop 1 _ _ _ (by omega) ⟨fun _ _ => rfl, gWas_0 w k, rfl, Nat.le_refl _⟩
  · refine z_ca (z_cv 0 (d5_isHouse n 15 M w hI.1 _) (zb_0 hx)) ?_
    refine z_bt (by decide) ?_
    exact z_rq hret (z_vi (show _ = aWas w x from (if_neg hx).symm)) ⟨hI, fun _ _ => rfl⟩
/-- the reference's trial of widths: what has changed -/
abbrev rkW (k : Nat) (M M' : zM) : Prop := (∀ p, p ≠ 45 → p ≠ 50 → p ≠ 70 → p < 61 ∨ 66 < p → M' p = M p) ∧ (∀ j, j ≠ 23 → M' 45 j = M 45 j) ∧ ∀ q, q ≠ k → M' 50 q = M 50 q
/-- what the house k got by each width less than v -/
def rWs (w : Rw) (k v : Nat) (M : zM) : Prop := ∀ u, 1 ≤ u → u < v → ∀ h, h < 40 → M 70 (40 * u + h) = (tWd w k u h).2.2.2.2 k
theorem rSm_rkW {k : Nat} {M M' : zM} (h : rkW k M M') : rSm M M' := ⟨fun p hp => h.1 p (by omega) (by omega) (by omega) (by omega), h.2.1 11 (by omega), h.2.1 15 (by omega), h.2.1 30 (by omega), h.2.1 40 (by omega)⟩
theorem rTr_wd {w : Rw} {M M' : zM} {k v : Nat} (h : rTd w M) (hM : rkW k M M') : rTr w (va_up M' 50 (upd (M' 50) k (nI v))) allB allB (-1) (upd (pWd (w.1 1) (w.2 0)) k (nI v)) (eEl (w.1 2) (w.2 1)) (w.1 0 0) := by
  obtain ⟨⟨-, b1, b2, b3, b4, b5, b6⟩, -⟩ := id h
  refine rTr_of h (fun p p1 p2 p3 => by rw [z_un p3]; exact hM.1 p (by omega) (by omega) (by omega) (by omega)) ?_ ?_ ?_ ?_ ?_ ?_ ?_ ?_ ?_
  · show M' 45 2 = _; exact hM.2.1 2 (by omega)
  · show M' 45 11 = _; exact hM.2.1 11 (by omega)
  · show M' 45 15 = _; exact hM.2.1 15 (by omega)
  · intro i hi; show mThN (M' 45 19) i = _; rw [hM.2.1 19 (by omega)]; exact b1 i hi
  · intro i hi; show mThN (M' 45 20) i = _; rw [hM.2.1 20 (by omega)]; exact b2 i hi
  · show M' 45 21 = _; rw [hM.2.1 21 (by omega)]; exact b3
  · intro q hq
    rw [z_us]
    by_cases e : q = k
    · subst e; rw [upd_eq, upd_eq]
    · rw [upd_ne e, upd_ne e, hM.2.2 q e]; exact b4 q hq
  · intro q hq; show M' 60 q = _; rw [hM.1 60 (by omega) (by omega) (by omega) (by omega)]; exact b5 q hq
  · show M' 45 22 = _; rw [hM.2.1 22 (by omega)]; exact b6
set_option maxRecDepth 10000 in
set_option maxHeartbeats 1000000 in
theorem d6_wasOf (n eb : Nat) (M : zM) (w : Rw) (hC : rC w M) (k : Nat) (hk : k < tN w) : zMet zi_X6_wasOf [.ref 45, .int (nI k)] (zLay n eb) M (zLay n eb) (zr (some (.int (nI (aWasN w k)))) (fun M' => rC w M' ∧ rSm M M' ∧ rWs w k 10 M')) := by
  refine z_mr (zk_X6_wasOf _ _) rfl (Nat.le_of_ble_eq_true rfl) rfl (fun ret hret => ?_)
  have h8 := tN8 w
  have hck : (nI k).toNatClampNeg = k := z_cl (by omega)
  refine z_cx (d6_asTold n eb M w hC) (fun M1 h1 => ?_)
  refine And.intro (z_inN0 (by omega) (by omega)) ?_
  have loop := z_l2 (P := zp_X6_wasOf) (ret := ret) (pc := 16) (L := zLay n eb) (N := 10) (lo := fun b x => [some (.ref 45), some (.int (nI k)), some (.int (M1 50 (nI k).toNatClampNeg)), some (.int b), some (.int x), none]) (I := fun h b x M' => rkW k M1 M' ∧ b = nI (bw (gWas w k) h) ∧ x = nI h ∧ 1 ≤ h ∧ rWs w k h M') (by
    rintro h b x M' hh ⟨hM, rfl, rfl, hh1, hG⟩ ih
    have ht : rTr w (va_up M' 50 (upd (M' 50) (nI k).toNatClampNeg (nI h))) allB allB (-1) (upd (pWd (w.1 1) (w.2 0)) k (nI h)) (eEl (w.1 2) (w.2 1)) (w.1 0 0) := by rw [hck]; exact rTr_wd h1.2.1 hM
    have hCu : rC w (va_up M' 50 (upd (M' 50) (nI k).toNatClampNeg (nI h))) := rC_sm h1.1 (rSm_rkW (k := k) ⟨fun p p1 p2 p3 p4 => by rw [z_un p2]; exact hM.1 p p1 p2 p3 p4, fun j hj => by rw [z_un (by omega)]; exact hM.2.1 j hj, fun q hq => by rw [z_us, hck, upd_ne hq]; exact hM.2.2 q hq⟩)
    have e1 : ∀ t, 40 * nI h + nI t = nI (40 * h + t) := fun t => by rw [show (40 : Int32) = nI 40 from rfl, pk_mul, nI_add]
    have e2 : ∀ t, 8 * nI t + nI k = nI (8 * t + k) := fun t => by rw [show (8 : Int32) = nI 8 from rfl, pk_mul, nI_add]
    generalize hGe : (fun t => (tWd w k h t).2.2.2.2 k) = G
    have hGt : ∀ t, G t = (tWd w k h t).2.2.2.2 k := fun t => by rw [← hGe]
    by_cases hp : sOut w (tWd w k h) = true
    · refine z_go ?_
      refine z_bf (nI_ge (a := h) (b := 10) hh (by omega)) ?_
      refine And.intro (z_inN0 (by omega) (by omega)) ?_
      refine z_cx (zMet_v 1 (d6_isSeen n eb _ hCu ht) (zb_1 hp)) (fun M2 h2 => ?_)
      obtain ⟨q1, q2, q3⟩ := h2
      refine z_bf (by decide) ?_
      refine z_go ?_
      have inn := z_l1 (P := zp_X6_wasOf) (ret := ret) (pc := 52) (L := zLay n eb) (N := 40) (lo := fun x => [some (.ref 45), some (.int (nI k)), some (.int (M1 50 (nI k).toNatClampNeg)), some (.int (nI (bw (gWas w k) h) ||| (1 <<< (nI h &&& 31)))), some (.int (nI h)), some (.int x)]) (I := fun t x M' => M' = va_up M2 70 (fb_put (M2 70) G (40 * h) t) ∧ x = nI t) (by
        rintro t x M9 ht4 ⟨rfl, rfl⟩ ihn
        refine z_go ?_
        refine z_bf (nI_ge (a := t) (b := 40) ht4 (by omega)) ?_
        refine And.intro (by show vp_in (8 * nI t + nI k) 320; rw [e2]; exact z_inN0 (by omega) (by omega)) ?_
        refine And.intro (by show vp_in (40 * nI h + nI t) 400; rw [e1]; exact z_inN0 (by omega) (by omega)) ?_
        refine ihn _ _ ⟨?_, nI_1 t⟩
        show va_up (va_up M2 70 (fb_put (M2 70) G (40 * h) t)) 70 (upd (fb_put (M2 70) G (40 * h) t) (40 * nI h + nI t).toNatClampNeg (M2 66 (8 * nI t + nI k).toNatClampNeg)) = _
        rw [z_uu, e1 t, e2 t, z_cl (by omega), z_cl (by omega), show M2 66 (8 * t + k) = G t from ((q3 t ht4).2.2.2.2 k hk).trans (hGt t).symm, fb_put_succ]) (by
        rintro x M9 ⟨rfl, rfl⟩
        refine z_go ?_
        refine z_bt (nI_le (a := 40) (b := 40) (Nat.le_refl _) (by omega)) ?_
        refine z_go ?_
        refine ih _ _ _ ⟨⟨fun p p1 p2 p3 p4 => ?_, fun j hj => ?_, fun q hq => ?_⟩, bwI_y (by omega) (by rw [gWas_y hh1]; exact hp), nI_1 h, by omega, ?_⟩
        · rw [z_un p3, q2 p p1 p4, z_un p2]; exact hM.1 p p1 p2 p3 p4
        · rw [z_un (by omega), q1, upd_ne hj, z_un (by omega)]; exact hM.2.1 j hj
        · rw [z_un (by omega), q2 50 (by omega) (by omega), z_us, hck, upd_ne hq]; exact hM.2.2 q hq
        · intro u u1 u2 t t1
          rw [z_us]
          by_cases e : u = h
          · subst e
            rw [fb_put_in (by omega) (by omega), show 40 * u + t - 40 * u = t by omega, hGt]
          · rw [fb_put_out (by omega), q2 70 (by omega) (by omega), z_un (by omega)]
            exact hG u u1 (by omega) t t1)
      exact inn 0 _ _ (Nat.zero_le _) ⟨by rw [fb_put_0, z_uid], rfl⟩
    · refine z_go ?_
      refine z_bf (nI_ge (a := h) (b := 10) hh (by omega)) ?_
      refine And.intro (z_inN0 (by omega) (by omega)) ?_
      refine z_cx (zMet_v 0 (d6_isSeen n eb _ hCu ht) (zb_0 hp)) (fun M2 h2 => ?_)
      obtain ⟨q1, q2, q3⟩ := h2
      refine z_bt (by decide) ?_
      refine z_go ?_
      have inn := z_l1 (P := zp_X6_wasOf) (ret := ret) (pc := 52) (L := zLay n eb) (N := 40) (lo := fun x => [some (.ref 45), some (.int (nI k)), some (.int (M1 50 (nI k).toNatClampNeg)), some (.int (nI (bw (gWas w k) h) ||| 0)), some (.int (nI h)), some (.int x)]) (I := fun t x M' => M' = va_up M2 70 (fb_put (M2 70) G (40 * h) t) ∧ x = nI t) (by
        rintro t x M9 ht4 ⟨rfl, rfl⟩ ihn
        refine z_go ?_
        refine z_bf (nI_ge (a := t) (b := 40) ht4 (by omega)) ?_
        refine And.intro (by show vp_in (8 * nI t + nI k) 320; rw [e2]; exact z_inN0 (by omega) (by omega)) ?_
        refine And.intro (by show vp_in (40 * nI h + nI t) 400; rw [e1]; exact z_inN0 (by omega) (by omega)) ?_
        refine ihn _ _ ⟨?_, nI_1 t⟩
        show va_up (va_up M2 70 (fb_put (M2 70) G (40 * h) t)) 70 (upd (fb_put (M2 70) G (40 * h) t) (40 * nI h + nI t).toNatClampNeg (M2 66 (8 * nI t + nI k).toNatClampNeg)) = _
        rw [z_uu, e1 t, e2 t, z_cl (by omega), z_cl (by omega), show M2 66 (8 * t + k) = G t from ((q3 t ht4).2.2.2.2 k hk).trans (hGt t).symm, fb_put_succ]) (by
        rintro x M9 ⟨rfl, rfl⟩
        refine z_go ?_
        refine z_bt (nI_le (a := 40) (b := 40) (Nat.le_refl _) (by omega)) ?_
        refine z_go ?_
        refine ih _ _ _ ⟨⟨fun p p1 p2 p3 p4 => ?_, fun j hj => ?_, fun q hq => ?_⟩, by rw [bw_n (by rw [gWas_y hh1]; exact hp)]; exact Int32.or_zero, nI_1 h, by omega, ?_⟩
        · rw [z_un p3, q2 p p1 p4, z_un p2]; exact hM.1 p p1 p2 p3 p4
        · rw [z_un (by omega), q1, upd_ne hj, z_un (by omega)]; exact hM.2.1 j hj
        · rw [z_un (by omega), q2 50 (by omega) (by omega), z_us, hck, upd_ne hq]; exact hM.2.2 q hq
        · intro u u1 u2 t t1
          rw [z_us]
          by_cases e : u = h
          · subst e
            rw [fb_put_in (by omega) (by omega), show 40 * u + t - 40 * u = t by omega, hGt]
          · rw [fb_put_out (by omega), q2 70 (by omega) (by omega), z_un (by omega)]
            exact hG u u1 (by omega) t t1)
      exact inn 0 _ _ (Nat.zero_le _) ⟨by rw [fb_put_0, z_uid], rfl⟩) (by
    rintro b x M' ⟨hM, hb, rfl, hh1, hG⟩
    refine z_go ?_
    refine z_bt (nI_le (a := 10) (b := 10) (Nat.le_refl _) (by omega)) ?_
    refine z_go ?_
    refine And.intro (z_inN0 (by omega) (by omega)) ?_
    have k2 : rkW k M1 (va_up M' 50 (upd (M' 50) (nI k).toNatClampNeg (M1 50 (nI k).toNatClampNeg))) := ⟨fun p p1 p2 p3 p4 => by rw [z_un p2]; exact hM.1 p p1 p2 p3 p4, fun j hj => by rw [z_un (by omega)]; exact hM.2.1 j hj, fun q hq => by rw [z_us, hck, upd_ne hq]; exact hM.2.2 q hq⟩
    exact z_rq hret (z_vi (hb.trans (aWasN_e w k))) ⟨rC_sm h1.1 (rSm_rkW k2), rSm_tr h1.2.2 (rSm_rkW k2), fun u u1 u2 t t1 => by rw [z_un (by omega)]; exact hG u u1 u2 t t1⟩)
  exact loop 1 _ _ _ (by omega) ⟨⟨fun _ _ _ _ _ => rfl, fun _ _ => rfl, fun _ _ => rfl⟩, gWas_0 w k, rfl, Nat.le_refl _, fun u u1 u2 => absurd u2 (by omega)⟩
set_option maxRecDepth 10000 in
set_option maxHeartbeats 1000000 in
theorem e6_was (n eb : Nat) (M : zM) (w : Rw) (hC : rC w M) (x : Int32) : zMet zi_X6_was [.ref 45, .int x] (zLay n eb) M (zLay n eb) (zr (some (.int (aWas w x))) (fun M' => rC w M' ∧ rSm M M')) := by
  refine z_mr (zk_X6_was _ _) rfl (Nat.le_of_ble_eq_true rfl) rfl (fun ret hret => ?_)
  have h8 := tN8 w
  by_cases hx : 0 ≤ x ∧ x ≤ nI (tN w) - 1
  · obtain ⟨k, hk, rfl⟩ := rgH h8 hx
    refine z_cx (zMet_v 1 (d6_isHouse n eb M w hC _) (zb_1 hx)) (fun M1 h1 => ?_)
    refine z_bf (by decide) ?_
    refine z_cx (d6_wasOf n eb M1 w h1.1 k hk) (fun M2 h2 => ?_)
    refine z_go ?_
    exact z_rq hret (z_vi (by rw [aWas, if_pos hx, z_cl (by omega)])) ⟨h2.1, rSm_tr h1.2.1 h2.2.1⟩
  · refine z_cx (zMet_v 0 (d6_isHouse n eb M w hC _) (zb_0 hx)) (fun M1 h1 => ?_)
    refine z_bt (by decide) ?_
    refine z_go ?_
    exact z_rq hret (z_vi (show _ = aWas w x from (if_neg hx).symm)) ⟨h1.1, h1.2.1⟩
