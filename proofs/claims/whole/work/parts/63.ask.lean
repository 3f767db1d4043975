/-! ask: the reference -/
def pL0 : Option (Nat × Nat) → Int32
  | none => 0
  | some q => nI q.2
theorem was_get (w : Rw) (k : Nat) {a : Nat} (ha : a < 10) : zb ((nI (aWasN w k) >>> (nI a &&& 31)) &&& 1 = 1) = zb (gWas w k a = true) := by
  rw [← aWasN_e]
  exact bw_get10 _ ha
theorem aAskN_e (w : Rw) (k : Nat) : pB (pBest (gAsk w k) 40) = aAskN w k := by unfold aAskN; rfl
theorem nPr_0 (w : Rw) (k h : Nat) : (0 : Int32) = nI (mx (nPr w k h) 1) := by
  have : nPr w k h 0 = 0 := cnt_f 10 (fun b _ => by unfold gWas; simp)
  rw [show mx (nPr w k h) 1 = if mx (nPr w k h) 0 < nPr w k h 0 then nPr w k h 0 else mx (nPr w k h) 0 from rfl, this]
  rfl
theorem nPr_1 (w : Rw) (k h a : Nat) : (0 : Int32) = nI (cnt (fun b => gWas w k a && (gWas w k b && decide (gW w k h a = gW w k h b))) 1) := by
  rw [cnt_n (by unfold gWas; simp)]
  rfl
set_option maxRecDepth 10000 in
set_option maxHeartbeats 2000000 in
theorem d6_askOf (n eb : Nat) (M : zM) (w : Rw) (hC : rC w M) (hB : wb2 w) (k : Nat) (hk : k < tN w) : zMet zi_X6_askOf [.ref 45, .int (nI k)] (zLay n eb) M (zLay n eb) (zr (some (.int (aAskN w k))) (fun M' => rC w M' ∧ rSm M M')) := by
  refine z_mr (zk_X6_askOf _ _) rfl (Nat.le_of_ble_eq_true rfl) rfl (fun ret hret => ?_)
  have h8 := tN8 w
  refine z_cx (d6_wasOf n eb M w hC k hk) (fun M1 h1 => ?_)
  have hW : ∀ u, 1 ≤ u → u < 10 → ∀ h, h < 40 → M1 70 (40 * u + h) = gW w k h u := h1.2.2
  have loop := z_l3 (P := zp_X6_askOf) (ret := ret) (pc := 14) (L := zLay n eb) (N := 40) (lo := fun b l x => [some (.ref 45), none, some (.int (nI (aWasN w k))), some (.int (b)), some (.int (l)), some (.int (x)), none, none, none, none]) (I := fun h b l x M' => M' = M1 ∧ b = pB (pBest (gAsk w k) h) ∧ l = pL0 (pBest (gAsk w k) h) ∧ x = nI h) (by
    rintro h b l x M' hh ⟨rfl, rfl, rfl, rfl⟩ ih
    have ix : ∀ t, 40 * nI t + nI h = nI (40 * t + h) := fun t => by rw [show (40 : Int32) = nI 40 from rfl, pk_mul, nI_add]
    refine z_go ?_
    refine z_bf (nI_ge (a := h) (b := 40) hh (by omega)) ?_
    have lpa := z_l2 (P := zp_X6_askOf) (ret := ret) (pc := 27) (L := zLay n eb) (N := 10) (lo := fun m y => [some (.ref 45), none, some (.int (nI (aWasN w k))), some (.int (pB (pBest (gAsk w k) h))), some (.int (pL0 (pBest (gAsk w k) h))), some (.int (nI h)), some (.int (m)), some (.int (y)), none, none]) (I := fun a m y M9 => M9 = M' ∧ m = nI (mx (nPr w k h) a) ∧ y = nI a ∧ 1 ≤ a) (by
      rintro a m y M9 ha10 ⟨rfl, rfl, rfl, ha1⟩ iha
      have hmx : mx (nPr w k h) a ≤ 10 := mx_le (fun j _ => nPr_lt w k h j)
      refine z_go ?_
      refine z_bf (nI_ge (a := a) (b := 10) ha10 (by omega)) ?_
      have inn := z_l2 (P := zp_X6_askOf) (ret := ret) (pc := 40) (L := zLay n eb) (N := 10) (lo := fun c y => [some (.ref 45), none, some (.int (nI (aWasN w k))), some (.int (pB (pBest (gAsk w k) h))), some (.int (pL0 (pBest (gAsk w k) h))), some (.int (nI h)), some (.int (nI (mx (nPr w k h) a))), some (.int (nI a)), some (.int (c)), some (.int (y))]) (I := fun b c y M8 => M8 = M9 ∧ c = nI (cnt (fun b => gWas w k a && (gWas w k b && decide (gW w k h a = gW w k h b))) b) ∧ y = nI b ∧ 1 ≤ b) (by
        rintro b c y M8 hb10 ⟨rfl, rfl, rfl, hb1⟩ ihb
        by_cases ga : gWas w k a = true
        · by_cases gb : gWas w k b = true
          · by_cases ge : gW w k h a = gW w k h b
            · refine z_go ?_
              refine z_bf (nI_ge (a := b) (b := 10) hb10 (by omega)) ?_
              refine z_ca (z_cv 1 (c6_isIn _ _ _ _ (Nat.le_of_ble_eq_true rfl)) ((was_get w k (by omega)).trans (zb_1 ga))) ?_
              refine z_bf (by decide) ?_
              refine z_ca (z_cv 1 (c6_isIn _ _ _ _ (Nat.le_of_ble_eq_true rfl)) ((was_get w k (by omega)).trans (zb_1 gb))) ?_
              refine z_bf (by decide) ?_
              refine And.intro (by show vp_in (40 * nI a + nI h) 400; rw [ix a]; exact z_inN0 (by omega) (by omega)) ?_
              refine And.intro (by show vp_in (40 * nI b + nI h) 400; rw [ix b]; exact z_inN0 (by omega) (by omega)) ?_
              refine z_bt (by show M8 70 (40 * nI a + nI h).toNatClampNeg = M8 70 (40 * nI b + nI h).toNatClampNeg; rw [ix a, ix b, z_cl (by omega), z_cl (by omega), hW a ha1 ha10 h hh, hW b hb1 hb10 h hh]; exact ge) ?_
              refine z_go ?_
              exact ihb _ _ _ ⟨rfl, cnt_y (by rw [ga, gb, Bool.true_and, Bool.true_and]; exact decide_eq_true ge), nI_1 b, by omega⟩
            · refine z_go ?_
              refine z_bf (nI_ge (a := b) (b := 10) hb10 (by omega)) ?_
              refine z_ca (z_cv 1 (c6_isIn _ _ _ _ (Nat.le_of_ble_eq_true rfl)) ((was_get w k (by omega)).trans (zb_1 ga))) ?_
              refine z_bf (by decide) ?_
              refine z_ca (z_cv 1 (c6_isIn _ _ _ _ (Nat.le_of_ble_eq_true rfl)) ((was_get w k (by omega)).trans (zb_1 gb))) ?_
              refine z_bf (by decide) ?_
              refine And.intro (by show vp_in (40 * nI a + nI h) 400; rw [ix a]; exact z_inN0 (by omega) (by omega)) ?_
              refine And.intro (by show vp_in (40 * nI b + nI h) 400; rw [ix b]; exact z_inN0 (by omega) (by omega)) ?_
              refine z_bf (by show ¬ M8 70 (40 * nI a + nI h).toNatClampNeg = M8 70 (40 * nI b + nI h).toNatClampNeg; rw [ix a, ix b, z_cl (by omega), z_cl (by omega), hW a ha1 ha10 h hh, hW b hb1 hb10 h hh]; exact ge) ?_
              refine z_go ?_
              exact ihb _ _ _ ⟨rfl, by show nI (cnt _ b) + 0 = _; rw [Int32.add_zero, cnt_n (by rw [ga, gb, Bool.true_and, Bool.true_and, decide_eq_false ge]; decide)], nI_1 b, by omega⟩
          · refine z_go ?_
            refine z_bf (nI_ge (a := b) (b := 10) hb10 (by omega)) ?_
            refine z_ca (z_cv 1 (c6_isIn _ _ _ _ (Nat.le_of_ble_eq_true rfl)) ((was_get w k (by omega)).trans (zb_1 ga))) ?_
            refine z_bf (by decide) ?_
            refine z_ca (z_cv 0 (c6_isIn _ _ _ _ (Nat.le_of_ble_eq_true rfl)) ((was_get w k (by omega)).trans (zb_0 gb))) ?_
            refine z_bt (by decide) ?_
            refine z_go ?_
            exact ihb _ _ _ ⟨rfl, by show nI (cnt _ b) + 0 = _; rw [Int32.add_zero, cnt_n (by rw [ga, Bool.true_and, Bool.eq_false_iff.mpr gb, Bool.false_and]; decide)], nI_1 b, by omega⟩
        · refine z_go ?_
          refine z_bf (nI_ge (a := b) (b := 10) hb10 (by omega)) ?_
          refine z_ca (z_cv 0 (c6_isIn _ _ _ _ (Nat.le_of_ble_eq_true rfl)) ((was_get w k (by omega)).trans (zb_0 ga))) ?_
          refine z_bt (by decide) ?_
          refine z_go ?_
          exact ihb _ _ _ ⟨rfl, by show nI (cnt _ b) + 0 = _; rw [Int32.add_zero, cnt_n (by rw [Bool.eq_false_iff.mpr ga, Bool.false_and]; decide)], nI_1 b, by omega⟩) (by
        rintro c y M8 ⟨rfl, hc, rfl, hb1⟩
        by_cases cc : mx (nPr w k h) a < nPr w k h a
        · refine z_go ?_
          refine z_bt (nI_le (a := 10) (b := 10) (Nat.le_refl _) (by omega)) ?_
          refine z_go ?_
          refine z_bf (by show ¬ c ≤ _; rw [hc]; exact nI_ge cc (by have := nPr_lt w k h a; unfold nPr at this; omega)) ?_
          refine z_go ?_
          exact iha _ _ _ ⟨rfl, by show c = _; rw [show mx (nPr w k h) (a + 1) = nPr w k h a from if_pos cc]; exact hc, nI_1 a, by omega⟩
        · refine z_go ?_
          refine z_bt (nI_le (a := 10) (b := 10) (Nat.le_refl _) (by omega)) ?_
          refine z_go ?_
          refine z_bt (by show c ≤ _; rw [hc]; exact nI_le (show nPr w k h a ≤ mx (nPr w k h) a by omega) (by omega)) ?_
          refine z_go ?_
          exact iha _ _ _ ⟨rfl, by show nI (mx (nPr w k h) a) = _; rw [show mx (nPr w k h) (a + 1) = mx (nPr w k h) a from if_neg cc], nI_1 a, by omega⟩)
      exact inn 1 _ _ _ (by omega) ⟨rfl, nPr_1 w k h a, rfl, Nat.le_refl _⟩) (by
      rintro m y M9 ⟨rfl, hm, rfl, ha1⟩
      have hv10 : mx (nAl w k h) 5 ≤ 10 := mx_le (fun j _ => nAl_lt w k h j)
      cases ep : pBest (gAsk w k) h with
      | none =>
        have e1 : pBest (gAsk w k) (h + 1) = some (h, mx (nAl w k h) 5) := by rw [pBest, ep]; rfl
        refine z_go ?_
        refine z_bt (nI_le (a := 10) (b := 10) (Nat.le_refl _) (by omega)) ?_
        refine z_go ?_
        refine z_bt (show pB none = -1 from rfl) ?_
        refine z_go ?_
        refine z_go ?_
        refine z_bf (by decide) ?_
        refine z_go ?_
        refine z_bf (by decide) ?_
        refine z_go ?_
        exact ih _ _ _ _ ⟨rfl, by show nI h = _; rw [e1]; rfl, by show m = _; rw [hm, e1, ← ask_eq hC.1 hB hk hh]; rfl, nI_1 h⟩
      | some q =>
        have hq := pBest_lt h q ep
        have hq9 := gAsk_lt w k _ _ hq.2
        by_cases cc : mx (nAl w k h) 5 < q.2
        · have e1 : pBest (gAsk w k) (h + 1) = some (h, mx (nAl w k h) 5) := by rw [pBest, ep]; exact if_pos cc
          refine z_go ?_
          refine z_bt (nI_le (a := 10) (b := 10) (Nat.le_refl _) (by omega)) ?_
          refine z_go ?_
          refine z_bf (nI_nm1 (j := q.1) (by omega)) ?_
          refine z_bf (by show ¬ pL0 (some q) ≤ m; rw [hm, ← ask_eq hC.1 hB hk hh]; exact nI_ge cc (by omega)) ?_
          refine z_go ?_
          refine z_bf (by decide) ?_
          refine z_go ?_
          refine z_bf (by decide) ?_
          refine z_go ?_
          exact ih _ _ _ _ ⟨rfl, by show nI h = _; rw [e1]; rfl, by show m = _; rw [hm, e1, ← ask_eq hC.1 hB hk hh]; rfl, nI_1 h⟩
        · have e1 : pBest (gAsk w k) (h + 1) = pBest (gAsk w k) h := by rw [pBest, ep]; exact if_neg cc
          refine z_go ?_
          refine z_bt (nI_le (a := 10) (b := 10) (Nat.le_refl _) (by omega)) ?_
          refine z_go ?_
          refine z_bf (nI_nm1 (j := q.1) (by omega)) ?_
          refine z_bt (by show pL0 (some q) ≤ m; rw [hm, ← ask_eq hC.1 hB hk hh]; exact nI_le (by omega) (by omega)) ?_
          refine z_go ?_
          refine z_bt (by decide) ?_
          refine z_go ?_
          refine z_bt (by decide) ?_
          refine z_go ?_
          exact ih _ _ _ _ ⟨rfl, by show pB (some q) = _; rw [e1, ep], by show pL0 (some q) = _; rw [e1, ep], nI_1 h⟩)
    exact lpa 1 _ _ _ (by omega) ⟨rfl, nPr_0 w k h, rfl, Nat.le_refl _⟩) (by
    rintro b l x M' ⟨rfl, hb, hl, rfl⟩
    refine z_go ?_
    refine z_bt (nI_le (a := 40) (b := 40) (Nat.le_refl _) (by omega)) ?_
    refine z_go ?_
    exact z_rq hret (z_vi (hb.trans (aAskN_e w k))) ⟨h1.1, h1.2.1⟩)
  exact loop 0 _ _ _ _ (Nat.zero_le _) ⟨rfl, rfl, rfl, rfl⟩
set_option maxRecDepth 10000 in
set_option maxHeartbeats 1000000 in
theorem e6_ask (n eb : Nat) (M : zM) (w : Rw) (hC : rC w M) (hB : wb2 w) (x : Int32) : zMet zi_X6_ask [.ref 45, .int x] (zLay n eb) M (zLay n eb) (zr (some (.int (aAsk w x))) (fun M' => rC w M' ∧ rSm M M')) := by
  refine z_mr (zk_X6_ask _ _) rfl (Nat.le_of_ble_eq_true rfl) rfl (fun ret hret => ?_)
  have h8 := tN8 w
  by_cases hx : 0 ≤ x ∧ x ≤ nI (tN w) - 1
  · obtain ⟨k, hk, rfl⟩ := rgH h8 hx
    refine z_cx (zMet_v 1 (d6_isHouse n eb M w hC _) (zb_1 hx)) (fun M1 h1 => ?_)
    refine z_bf (by decide) ?_
    refine z_cx (d6_askOf n eb M1 w h1.1 hB k hk) (fun M2 h2 => ?_)
    refine z_go ?_
    exact z_rq hret (z_vi (aAsk_e hk).symm) ⟨h2.1, rSm_tr h1.2.1 h2.2⟩
  · refine z_cx (zMet_v 0 (d6_isHouse n eb M w hC _) (zb_0 hx)) (fun M1 h1 => ?_)
    refine z_bt (by decide) ?_
    refine z_go ?_
    exact z_rq hret (z_vi (show _ = aAsk w x from (if_neg hx).symm)) ⟨h1.1, h1.2.1⟩
