/-! forget, seen, leak, in both -/
def wU (w : Rw) (c k : Nat) (x : Int32) : Rw := (va_up w.1 c (upd (w.1 c) k x), w.2)
def wQ (w : Rw) (i v : Nat) : Rw := (w.1, va_up w.2 i v)
/-- the class's state goes from w to w', the reference's likewise, by an answer -/
abbrev cTo (w' : Rw) (M : zM) : zM → Prop := fun M' => cI w' M' ∧ ∀ p, 45 ≤ p → M' p = M p
abbrev rTo (w' : Rw) (M : zM) : zM → Prop := fun M' => rC w' M' ∧ ∀ p, p < 45 → M' p = M p
def aForget (w : Rw) : Int32 := nI (w.2 4)
def nForget (w : Rw) : Rw := wQ w 4 0
set_option maxRecDepth 10000 in
set_option maxHeartbeats 1000000 in
theorem e5_forget (n : Nat) (M : zM) (w : Rw) (hI : cI w M) : zMet zi_X5_forget [.ref 2] (zLay n 15) M (zLay n 15) (zr (some (.int (aForget w))) (cTo (nForget w) M)) := by
  refine z_mr (zk_X5_forget _ _) rfl (Nat.le_of_ble_eq_true rfl) rfl (fun ret hret => ?_)
  obtain ⟨⟨⟨w1, w2, w3, w4, w5⟩, wb, wp, ws, wt⟩, c1, c2, c3, c4, c5, c6, c7, c8, c9, c10, c11, c12⟩ := hI.1
  refine z_rq hret (z_vi c11) ⟨⟨⟨⟨⟨w1, w2, w3, w4, Nat.zero_le _⟩, wb, wp, fun i hi => absurd hi (Nat.not_lt_zero i), wt⟩, c1, c2, c3, c4, c5, c6, c7, c8, c9, c10, rfl, c12⟩, hI.2.1, hI.2.2⟩, fun p hp => z_un (by omega)⟩
set_option maxRecDepth 10000 in
set_option maxHeartbeats 1000000 in
theorem e6_forget (n eb : Nat) (M : zM) (w : Rw) (hC : rC w M) : zMet zi_X6_forget [.ref 45] (zLay n eb) M (zLay n eb) (zr (some (.int (aForget w))) (rTo (nForget w) M)) := by
  refine z_mr (zk_X6_forget _ _) rfl (Nat.le_of_ble_eq_true rfl) rfl (fun ret hret => ?_)
  obtain ⟨⟨⟨w1, w2, w3, w4, w5⟩, wb, wp, ws, wt⟩, c1, c2, c3, c4, ⟨c5, c6, c7, c8⟩, c9, c10, c11⟩ := hC
  refine z_rq hret (z_vi c7) ⟨⟨⟨⟨w1, w2, w3, w4, Nat.zero_le _⟩, wb, wp, fun i hi => absurd hi (Nat.not_lt_zero i), wt⟩, c1, c2, c3, c4, ⟨c5, c6, rfl, c8⟩, c9, c10, c11⟩, fun p hp => z_un (by omega)⟩
def okSeen (x y z : Int32) : Prop := (0 ≤ x ∧ x ≤ 39) ∧ (0 ≤ y ∧ y ≤ 7) ∧ 0 ≤ z ∧ z ≤ 4
noncomputable section
def aSeen (w : Rw) (x y z : Int32) : Int32 := haveI := Classical.propDecidable (okSeen x y z); if okSeen x y z then (if w.2 4 = 8 then -4 else nI (w.2 4 + 1)) else -2
def nSeen (w : Rw) (x y z : Int32) : Rw := haveI := Classical.propDecidable (okSeen x y z); if okSeen x y z then (if w.2 4 = 8 then w else wQ (wU (wU (wU w 8 (w.2 4) x) 9 (w.2 4) y) 10 (w.2 4) z) 4 (w.2 4 + 1)) else w
end
theorem aSeen_no {w : Rw} {x y z : Int32} (h : ¬ okSeen x y z) : aSeen w x y z = -2 ∧ nSeen w x y z = w := by
  unfold aSeen nSeen
  rw [if_neg h, if_neg h]
  exact ⟨rfl, rfl⟩
theorem aSeen_full {w : Rw} {x y z : Int32} (h : okSeen x y z) (h8 : w.2 4 = 8) : aSeen w x y z = -4 ∧ nSeen w x y z = w := by
  unfold aSeen nSeen
  rw [if_pos h, if_pos h, if_pos h8, if_pos h8]
  exact ⟨rfl, rfl⟩
theorem aSeen_ok {w : Rw} {x y z : Int32} (h : okSeen x y z) (h8 : ¬ w.2 4 = 8) : aSeen w x y z = nI (w.2 4 + 1) ∧ nSeen w x y z = wQ (wU (wU (wU w 8 (w.2 4) x) 9 (w.2 4) y) 10 (w.2 4) z) 4 (w.2 4 + 1) := by
  unfold aSeen nSeen
  rw [if_pos h, if_pos h, if_neg h8, if_neg h8]
  exact ⟨rfl, rfl⟩
set_option maxRecDepth 10000 in
set_option maxHeartbeats 1000000 in
theorem e5_seen (n : Nat) (M : zM) (w : Rw) (hI : cI w M) (x y z : Int32) : zMet zi_X5_seen [.ref 2, .int x, .int y, .int z] (zLay n 15) M (zLay n 15) (zr (some (.int (aSeen w x y z))) (cTo (nSeen w x y z) M)) := by
  refine z_mr (zk_X5_seen _ _) rfl (Nat.le_of_ble_eq_true rfl) rfl (fun ret hret => ?_)
  obtain ⟨⟨⟨w1, w2, w3, w4, w5⟩, wb, wp, ws, wt⟩, c1, c2, c3, c4, c5, c6, c7, c8, c9, c10, c11, c12⟩ := hI.1
  by_cases hx : 0 ≤ x ∧ x ≤ 39
  · by_cases hy : 0 ≤ y ∧ y ≤ 7
    · by_cases hz : 0 ≤ z ∧ z ≤ 4
      · have hok : okSeen x y z := ⟨hx, hy, hz⟩
        by_cases h8 : w.2 4 = 8
        · refine z_ca (z_cv 1 (c5_isHour _ _ _ (Nat.le_of_ble_eq_true rfl)) (zb_1 hx)) ?_
          refine z_bf (by decide) ?_
          refine z_ca (z_cv 1 (c5_within _ _ _ _ _ (Nat.le_of_ble_eq_true rfl)) (zb_1 hy)) ?_
          refine z_bf (by decide) ?_
          refine z_ca (z_cv 1 (c5_within _ _ _ _ _ (Nat.le_of_ble_eq_true rfl)) (zb_1 hz)) ?_
          refine z_bf (by decide) ?_
          refine z_go ?_
          refine z_bf (by show ¬ M 2 13 < 8; rw [c11, h8]; decide) ?_
          have hno := aSeen_full hok h8
          rw [hno.1, hno.2] at hret
          exact z_rq hret rfl ⟨hI, fun _ _ => rfl⟩
        · have hno := aSeen_ok hok h8
          rw [hno.1, hno.2] at hret
          obtain ⟨h, hh, rfl⟩ := rg 39 rfl (by omega) hx
          obtain ⟨q, hq, rfl⟩ := rg 7 rfl (by omega) hy
          have hk : (M 2 13).toNatClampNeg = w.2 4 := by rw [c11]; exact z_cl (by omega)
          have hws : ∀ i, i < w.2 4 + 1 → (∃ t, t < 40 ∧ upd (w.1 8) (w.2 4) (nI h) i = nI t) ∧ ∃ t, t < 8 ∧ upd (w.1 9) (w.2 4) (nI q) i = nI t := by
            intro i hi
            by_cases e : i = w.2 4
            · subst e
              exact ⟨⟨h, by omega, by simp [upd]⟩, ⟨q, by omega, by simp [upd]⟩⟩
            · obtain ⟨⟨t, ht, e1⟩, ⟨t2, ht2, e2⟩⟩ := ws i (by omega)
              exact ⟨⟨t, ht, by simp only [upd, e, if_false]; exact e1⟩, ⟨t2, ht2, by simp only [upd, e, if_false]; exact e2⟩⟩
          refine z_ca (z_cv 1 (c5_isHour _ _ _ (Nat.le_of_ble_eq_true rfl)) (zb_1 hx)) ?_
          refine z_bf (by decide) ?_
          refine z_ca (z_cv 1 (c5_within _ _ _ _ _ (Nat.le_of_ble_eq_true rfl)) (zb_1 hy)) ?_
          refine z_bf (by decide) ?_
          refine z_ca (z_cv 1 (c5_within _ _ _ _ _ (Nat.le_of_ble_eq_true rfl)) (zb_1 hz)) ?_
          refine z_bf (by decide) ?_
          refine z_go ?_
          refine z_bt (by show M 2 13 < 8; rw [c11]; exact nI_lt (a := w.2 4) (b := 8) (by omega) (by omega)) ?_
          refine z_go ?_
          refine And.intro (by show vp_in (M 2 13) 8; rw [c11]; exact z_inN0 (by omega) (by omega)) ?_
          refine And.intro (by show vp_in (M 2 13) 8; rw [c11]; exact z_inN0 (by omega) (by omega)) ?_
          refine And.intro (by show vp_in (M 2 13) 8; rw [c11]; exact z_inN0 (by omega) (by omega)) ?_
          refine z_rq hret (z_vi ?_) ⟨⟨⟨⟨⟨w1, w2, w3, w4, show w.2 4 + 1 ≤ 8 by omega⟩, wb, wp, hws, wt⟩, c1, c2, c3, c4, c5, c6, c7, ⟨?_, ?_, ?_⟩, c9, c10, ?_, c12⟩, hI.2.1, hI.2.2⟩, fun p hp => ?_⟩
          · show M 2 13 + 1 = _
            rw [c11, nI_1]
          · show upd (M 38) (M 2 13).toNatClampNeg (nI h) = upd (w.1 8) (w.2 4) (nI h)
            rw [hk, c8.1]
          · show upd (M 39) (M 2 13).toNatClampNeg (nI q) = upd (w.1 9) (w.2 4) (nI q)
            rw [hk, c8.2.1]
          · show upd (M 40) (M 2 13).toNatClampNeg z = upd (w.1 10) (w.2 4) z
            rw [hk, c8.2.2]
          · show M 2 13 + 1 = nI (w.2 4 + 1)
            rw [c11, nI_1]
          · rw [z_un (by omega), z_un (by omega), z_un (by omega), z_un (by omega)]
      · refine z_ca (z_cv 1 (c5_isHour _ _ _ (Nat.le_of_ble_eq_true rfl)) (zb_1 hx)) ?_
        refine z_bf (by decide) ?_
        refine z_ca (z_cv 1 (c5_within _ _ _ _ _ (Nat.le_of_ble_eq_true rfl)) (zb_1 hy)) ?_
        refine z_bf (by decide) ?_
        refine z_ca (z_cv 0 (c5_within _ _ _ _ _ (Nat.le_of_ble_eq_true rfl)) (zb_0 hz)) ?_
        refine z_bt (by decide) ?_
        have hno := aSeen_no (w := w) (x := x) (y := y) (z := z) (fun q => hz q.2.2)
        rw [hno.1, hno.2] at hret
        exact z_rq hret rfl ⟨hI, fun _ _ => rfl⟩
    · refine z_ca (z_cv 1 (c5_isHour _ _ _ (Nat.le_of_ble_eq_true rfl)) (zb_1 hx)) ?_
      refine z_bf (by decide) ?_
      refine z_ca (z_cv 0 (c5_within _ _ _ _ _ (Nat.le_of_ble_eq_true rfl)) (zb_0 hy)) ?_
      refine z_bt (by decide) ?_
      refine z_go ?_
      have hno := aSeen_no (w := w) (x := x) (y := y) (z := z) (fun q => hy q.2.1)
      rw [hno.1, hno.2] at hret
      exact z_rq hret rfl ⟨hI, fun _ _ => rfl⟩
  · refine z_ca (z_cv 0 (c5_isHour _ _ _ (Nat.le_of_ble_eq_true rfl)) (zb_0 hx)) ?_
    refine z_bt (by decide) ?_
    refine z_go ?_
    have hno := aSeen_no (w := w) (x := x) (y := y) (z := z) (fun q => hx q.1)
    rw [hno.1, hno.2] at hret
    exact z_rq hret rfl ⟨hI, fun _ _ => rfl⟩
set_option maxRecDepth 10000 in
set_option maxHeartbeats 1000000 in
theorem e6_seen (n eb : Nat) (M : zM) (w : Rw) (hC : rC w M) (x y z : Int32) : zMet zi_X6_seen [.ref 45, .int x, .int y, .int z] (zLay n eb) M (zLay n eb) (zr (some (.int (aSeen w x y z))) (rTo (nSeen w x y z) M)) := by
  refine z_mr (zk_X6_seen _ _) rfl (Nat.le_of_ble_eq_true rfl) rfl (fun ret hret => ?_)
  have hC0 := hC
  obtain ⟨⟨⟨w1, w2, w3, w4, w5⟩, wb, wp, ws, wt⟩, c1, c2, c3, c4, ⟨c5, c6, c7, c8⟩, c9, c10, c11⟩ := hC
  by_cases hx : 0 ≤ x ∧ x ≤ 39
  · by_cases hy : 0 ≤ y ∧ y ≤ 7
    · by_cases hz : 0 ≤ z ∧ z ≤ 4
      · have hok : okSeen x y z := ⟨hx, hy, hz⟩
        by_cases h8 : w.2 4 = 8
        · refine z_ca (z_cv 1 (c6_isHour _ _ _ (Nat.le_of_ble_eq_true rfl)) (zb_1 hx)) ?_
          refine z_bf (by decide) ?_
          refine z_ca (z_cv 1 (c6_in _ _ _ _ _ (Nat.le_of_ble_eq_true rfl)) (zb_1 hy)) ?_
          refine z_bf (by decide) ?_
          refine z_ca (z_cv 1 (c6_in _ _ _ _ _ (Nat.le_of_ble_eq_true rfl)) (zb_1 hz)) ?_
          refine z_bf (by decide) ?_
          refine z_go ?_
          refine z_bt (by show M 45 30 = 8; rw [c7, h8]; rfl) ?_
          have hno := aSeen_full hok h8
          rw [hno.1, hno.2] at hret
          exact z_rq hret rfl ⟨hC0, fun _ _ => rfl⟩
        · have hno := aSeen_ok hok h8
          rw [hno.1, hno.2] at hret
          obtain ⟨h, hh, rfl⟩ := rg 39 rfl (by omega) hx
          obtain ⟨q, hq, rfl⟩ := rg 7 rfl (by omega) hy
          have hk : (M 45 30).toNatClampNeg = w.2 4 := by rw [c7]; exact z_cl (by omega)
          have hws : ∀ i, i < w.2 4 + 1 → (∃ t, t < 40 ∧ upd (w.1 8) (w.2 4) (nI h) i = nI t) ∧ ∃ t, t < 8 ∧ upd (w.1 9) (w.2 4) (nI q) i = nI t := by
            intro i hi
            by_cases e : i = w.2 4
            · subst e
              exact ⟨⟨h, by omega, by simp [upd]⟩, ⟨q, by omega, by simp [upd]⟩⟩
            · obtain ⟨⟨t, ht, e1⟩, ⟨t2, ht2, e2⟩⟩ := ws i (by omega)
              exact ⟨⟨t, ht, by simp only [upd, e, if_false]; exact e1⟩, ⟨t2, ht2, by simp only [upd, e, if_false]; exact e2⟩⟩
          refine z_ca (z_cv 1 (c6_isHour _ _ _ (Nat.le_of_ble_eq_true rfl)) (zb_1 hx)) ?_
          refine z_bf (by decide) ?_
          refine z_ca (z_cv 1 (c6_in _ _ _ _ _ (Nat.le_of_ble_eq_true rfl)) (zb_1 hy)) ?_
          refine z_bf (by decide) ?_
          refine z_ca (z_cv 1 (c6_in _ _ _ _ _ (Nat.le_of_ble_eq_true rfl)) (zb_1 hz)) ?_
          refine z_bf (by decide) ?_
          refine z_go ?_
          refine z_bf (by show ¬ M 45 30 = 8; rw [c7]; exact fun z => h8 ((nI_eq (a := w.2 4) (b := 8) (by omega) (by omega)).mp z)) ?_
          refine z_go ?_
          refine And.intro (by show vp_in (M 45 30) 8; rw [c7]; exact z_inN0 (by omega) (by omega)) ?_
          refine And.intro (by show vp_in (M 45 30) 8; rw [c7]; exact z_inN0 (by omega) (by omega)) ?_
          refine And.intro (by show vp_in (M 45 30) 8; rw [c7]; exact z_inN0 (by omega) (by omega)) ?_
          refine z_rq hret (z_vi ?_) ⟨⟨⟨⟨w1, w2, w3, w4, show w.2 4 + 1 ≤ 8 by omega⟩, wb, wp, hws, wt⟩, c1, c2, c3, c4, ⟨c5, c6, ?_, c8⟩, c9, ⟨?_, ?_, ?_⟩, c11⟩, fun p hp => ?_⟩
          · show M 45 30 + 1 = _
            rw [c7, nI_1]
          · show M 45 30 + 1 = nI (w.2 4 + 1)
            rw [c7, nI_1]
          · show upd (M 67) (M 45 30).toNatClampNeg (nI h) = upd (w.1 8) (w.2 4) (nI h)
            rw [hk, c10.1]
          · show upd (M 68) (M 45 30).toNatClampNeg (nI q) = upd (w.1 9) (w.2 4) (nI q)
            rw [hk, c10.2.1]
          · show upd (M 69) (M 45 30).toNatClampNeg z = upd (w.1 10) (w.2 4) z
            rw [hk, c10.2.2]
          · rw [z_un (by omega), z_un (by omega), z_un (by omega), z_un (by omega)]
      · refine z_ca (z_cv 1 (c6_isHour _ _ _ (Nat.le_of_ble_eq_true rfl)) (zb_1 hx)) ?_
        refine z_bf (by decide) ?_
        refine z_ca (z_cv 1 (c6_in _ _ _ _ _ (Nat.le_of_ble_eq_true rfl)) (zb_1 hy)) ?_
        refine z_bf (by decide) ?_
        refine z_ca (z_cv 0 (c6_in _ _ _ _ _ (Nat.le_of_ble_eq_true rfl)) (zb_0 hz)) ?_
        refine z_bt (by decide) ?_
        have hno := aSeen_no (w := w) (x := x) (y := y) (z := z) (fun q => hz q.2.2)
        rw [hno.1, hno.2] at hret
        exact z_rq hret rfl ⟨hC0, fun _ _ => rfl⟩
    · refine z_ca (z_cv 1 (c6_isHour _ _ _ (Nat.le_of_ble_eq_true rfl)) (zb_1 hx)) ?_
      refine z_bf (by decide) ?_
      refine z_ca (z_cv 0 (c6_in _ _ _ _ _ (Nat.le_of_ble_eq_true rfl)) (zb_0 hy)) ?_
      refine z_bt (by decide) ?_
      refine z_go ?_
      have hno := aSeen_no (w := w) (x := x) (y := y) (z := z) (fun q => hy q.2.1)
      rw [hno.1, hno.2] at hret
      exact z_rq hret rfl ⟨hC0, fun _ _ => rfl⟩
  · refine z_ca (z_cv 0 (c6_isHour _ _ _ (Nat.le_of_ble_eq_true rfl)) (zb_0 hx)) ?_
    refine z_bt (by decide) ?_
    refine z_go ?_
    have hno := aSeen_no (w := w) (x := x) (y := y) (z := z) (fun q => hx q.1)
    rw [hno.1, hno.2] at hret
    exact z_rq hret rfl ⟨hC0, fun _ _ => rfl⟩
