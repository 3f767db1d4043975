/-! read, count, in both -/
noncomputable section
def rdA (w : Rw) (s j : Nat) : Int32 := w.1 14 (60 * s + 2 * j)
def rdB (w : Rw) (s j : Nat) : Int32 := w.1 14 (60 * s + (2 * j + 1))
def rdOk (w : Rw) (s z j : Nat) : Prop := 2 * j + 1 < z ∧ (0 ≤ rdA w s j ∧ rdA w s j ≤ 39) ∧ (0 ≤ rdB w s j ∧ rdB w s j ≤ 7) ∧ w.2 3 + j < 6
def rdN (w : Rw) (s z : Nat) : Nat := haveI := fun j => Classical.propDecidable (rdOk w s z j); fa_first (fun j => decide (¬ rdOk w s z j)) 7
def rdW (w : Rw) (s : Nat) : Nat → Rw
  | 0 => w
  | j + 1 => (stPinch (rdW w s j) (rdA w s j) (rdB w s j)).2
def stRead (w : Rw) (x : Int32) : Int32 × Rw := if 0 ≤ x ∧ x ≤ 3 then (if w.1 11 x.toNatClampNeg = 0 then (-11, wU w 0 3 1) else (nI (rdN w x.toNatClampNeg (w.1 13 x.toNatClampNeg).toNatClampNeg), rdW w x.toNatClampNeg (rdN w x.toNatClampNeg (w.1 13 x.toNatClampNeg).toNatClampNeg))) else (-2, w)
end
theorem rdN_ok (w : Rw) (s z : Nat) : rdN w s z ≤ 6 ∧ (∀ j, j < rdN w s z → rdOk w s z j) ∧ ¬ rdOk w s z (rdN w s z) := by
  have q1 : ∀ j, j < rdN w s z → rdOk w s z j := by
    unfold rdN
    intro j hj
    have h := @fa_first_no _ _ j hj
    exact Classical.byContradiction (fun c => absurd (@decide_eq_true _ (_) c) (by rw [h]; decide))
  have q0 : rdN w s z ≤ 7 := by unfold rdN; exact fa_first_le _ _
  have q6 : rdN w s z ≤ 6 := by
    rcases Nat.lt_or_ge 6 (rdN w s z) with h | h
    · have := (q1 6 h).2.2.2
      omega
    · exact h
  refine ⟨q6, q1, ?_⟩
  unfold rdN at q6 ⊢
  have h := @fa_first_yes _ 7 (Nat.lt_of_le_of_lt q6 (by omega))
  exact @of_decide_eq_true _ (_) h
theorem rdW_ok (w : Rw) (s z : Nat) : ∀ c, (∀ j, j < c → rdOk w s z j) → (rdW w s c).2 3 = w.2 3 + c ∧ (rdW w s c).1 14 = w.1 14 ∧ (rdW w s c).1 13 = w.1 13 ∧ (rdW w s c).1 11 = w.1 11 ∧ (rdW w s c).1 12 = w.1 12
  | 0, _ => ⟨rfl, rfl, rfl, rfl, rfl⟩
  | c + 1, h => by
    obtain ⟨e1, e2, e3, e4, e5⟩ := rdW_ok w s z c (fun j hj => h j (by omega))
    obtain ⟨h1, h2, h3, h4⟩ := h c (by omega)
    have e : stPinch (rdW w s c) (rdA w s c) (rdB w s c) = (nI (w.2 3 + c + 1), wQ (wU (wU (rdW w s c) 6 (w.2 3 + c) (rdA w s c)) 7 (w.2 3 + c) (rdB w s c)) 3 (w.2 3 + c + 1)) := by
      unfold stPinch
      rw [if_pos h2, if_pos h3, e1, if_neg (by omega)]
    unfold rdW
    rw [e]
    exact ⟨rfl, e2, e3, e4, e5⟩
theorem rdW_ans (w : Rw) (s z c : Nat) (h : ∀ j, j < c + 1 → rdOk w s z j) : (stPinch (rdW w s c) (rdA w s c) (rdB w s c)).1 = nI (w.2 3 + c + 1) := by
  obtain ⟨e1, e2, e3, e4, e5⟩ := rdW_ok w s z c (fun j hj => h j (by omega))
  obtain ⟨h1, h2, h3, h4⟩ := h c (by omega)
  unfold stPinch
  rw [if_pos h2, if_pos h3, e1, if_neg (by omega)]
theorem rdW_no (w : Rw) (s z c : Nat) (h : ∀ j, j < c → rdOk w s z j) (hz : 2 * c + 1 < z) (hn : ¬ rdOk w s z c) (h6 : w.2 3 + c ≤ 6) : (stPinch (rdW w s c) (rdA w s c) (rdB w s c)).1 ≤ 0 ∧ (stPinch (rdW w s c) (rdA w s c) (rdB w s c)).2 = rdW w s c := by
  obtain ⟨e1, e2, e3, e4, e5⟩ := rdW_ok w s z c h
  unfold stPinch
  by_cases h2 : 0 ≤ rdA w s c ∧ rdA w s c ≤ 39
  · by_cases h3 : 0 ≤ rdB w s c ∧ rdB w s c ≤ 7
    · have h4 : w.2 3 + c = 6 := by
        rcases Nat.lt_or_ge (w.2 3 + c) 6 with q | q
        · exact absurd ⟨hz, h2, h3, q⟩ hn
        · omega
      rw [if_pos h2, if_pos h3, e1, if_pos h4]
      exact ⟨show (-4 : Int32) ≤ 0 by decide, rfl⟩
    · rw [if_pos h2, if_neg h3]
      exact ⟨show (-2 : Int32) ≤ 0 by decide, rfl⟩
  · rw [if_neg h2]
    exact ⟨show (-2 : Int32) ≤ 0 by decide, rfl⟩
theorem cC_pinch {w : Rw} {M : zM} (hC : cC w M) {x y : Int32} (hx : 0 ≤ x ∧ x ≤ 39) (hy : 0 ≤ y ∧ y ≤ 7) (hf : w.2 3 < 6) : cC (stPinch w x y).2 (va_up (va_up (va_up M 19 (upd (M 19) (w.2 3) x)) 20 (upd (M 20) (w.2 3) y)) 7 (upd (M 7) 13 (nI (w.2 3 + 1)))) := by
  obtain ⟨⟨⟨w1, w2, w3, w4, w5⟩, wb, wp, ws, wt⟩, c1, c2, ⟨t1, t2, t3, t4, t5, t6, t7, t8, t9⟩, c4, c5, c6, c7, c8, c9, c10, c11, c12⟩ := hC
  obtain ⟨b, hb, rfl⟩ := rg 7 rfl (by omega) hy
  have hwp : ∀ i, i < w.2 3 + 1 → ∃ q, q < 8 ∧ upd (w.1 7) (w.2 3) (nI b) i = nI q := fun i hi => by
    by_cases e : i = w.2 3
    · subst e; exact ⟨b, by omega, by simp [upd]⟩
    · obtain ⟨q, hq, e2⟩ := wp i (by omega)
      exact ⟨q, hq, by simp only [upd, e, if_false]; exact e2⟩
  have hno : stPinch w x (nI b) = (nI (w.2 3 + 1), wQ (wU (wU w 6 (w.2 3) x) 7 (w.2 3) (nI b)) 3 (w.2 3 + 1)) := by unfold stPinch; rw [if_pos hx, if_pos hy, if_neg (by omega)]
  rw [hno]
  refine ⟨⟨⟨w1, w2, w3, show w.2 3 + 1 ≤ 6 by omega, w5⟩, wb, hwp, ws, wt⟩, c1, c2, ⟨t1, t2, t3, t4, t5, t6, rfl, t8, t9⟩, c4, c5, c6, ⟨c7.1, c7.2.1, c7.2.2.1, ?_, ?_⟩, c8, c9, c10, c11, c12⟩
  · show upd (M 19) (w.2 3) x = upd (w.1 6) (w.2 3) x
    rw [c7.2.2.2.1]
  · show upd (M 20) (w.2 3) (nI b) = upd (w.1 7) (w.2 3) (nI b)
    rw [c7.2.2.2.2]
set_option maxRecDepth 10000 in
set_option maxHeartbeats 1000000 in
theorem e5_read (n : Nat) (M : zM) (w : Rw) (hI : cI w M) (x : Int32) : zMet zi_X5_read [.ref 2, .int x] (zLay n 15) M (zLay n 15) (zr (some (.int (stRead w x).1)) (cTo (stRead w x).2 M)) := by
  refine z_mr (zk_X5_read _ _) rfl (Nat.le_of_ble_eq_true rfl) rfl (fun ret hret => ?_)
  obtain ⟨⟨⟨w1, w2, w3, w4, w5⟩, wb, wp, ws, wt⟩, c1, c2, c3, c4, c5, c6, c7, c8, c9, c10, c11, c12⟩ := hI.1
  by_cases hx : 0 ≤ x ∧ x ≤ 3
  · obtain ⟨s, hs, rfl⟩ := rg 3 rfl (by omega) hx
    have hcs : (nI s).toNatClampNeg = s := z_cl (by omega)
    by_cases h1 : w.1 11 s = 0
    · have hno : stRead w (nI s) = (-11, wU w 0 3 1) := by unfold stRead; rw [if_pos hx, hcs, if_pos h1]
      rw [hno] at hret
      refine z_ca (z_cv 1 (c5_isSheet _ _ _ (Nat.le_of_ble_eq_true rfl)) (zb_1 hx)) ?_
      refine z_bf (by decide) ?_
      refine z_go ?_
      refine z_ca (z_cv 1 (c1_isLost n 15 M s (by omega)) (zb_1 (cSh0 hI.1 (by omega) h1))) ?_
      refine z_bf (by decide) ?_
      refine z_ca (c5_found n 15 _ _) ?_
      exact z_rq hret rfl ⟨cI_find hI _, fun p hp => z_un (by omega)⟩
    · obtain ⟨q1, q2, q3, z, q4, q5, q6⟩ := cSh1 hI.1 (show s < 4 by omega) h1
      have hno : stRead w (nI s) = (nI (rdN w s z), rdW w s (rdN w s z)) := by unfold stRead; rw [if_pos hx, hcs, if_neg h1, q5, z_cl (by omega)]
      rw [hno] at hret
      obtain ⟨hc6, hcy, hcn⟩ := rdN_ok w s z
      generalize rdN w s z = c at hret hc6 hcy hcn
      refine z_ca (z_cv 1 (c5_isSheet _ _ _ (Nat.le_of_ble_eq_true rfl)) (zb_1 hx)) ?_
      refine z_bf (by decide) ?_
      refine z_go ?_
      refine z_ca (z_cv 0 (c1_isLost n 15 M s (by omega)) (zb_0 q2)) ?_
      refine z_bt (by decide) ?_
      refine z_go ?_
      refine And.intro (z_inN0 (by omega) (by omega)) ?_
      refine And.intro (by decide) ?_
      have hdv : M 43 (nI s).toNatClampNeg / 2 = nI (z / 2) := by rw [hcs, q6]; exact pk_div (a := z) (d := 2) (by omega) (by omega) (by omega)
      have loop := z_l1 (P := zp_X5_read) (ret := ret) (pc := 50) (L := zLay n 15) (N := c) (lo := fun x => [some (.ref 2), some (.int (nI s)), some (.int (nI (w.2 3))), some (.int (nI (z / 2))), some (.int x), none, none]) (I := fun i x M' => (cC (rdW w s i) M' ∧ ∀ p, 45 ≤ p → M' p = M p) ∧ x = nI i) (by
        rintro i x M' hi ⟨hM, rfl⟩ ih
        have ok := hcy i hi
        have ok4 := ok.2.2.2
        have ok1 := ok.1
        obtain ⟨e1, e2, e3, e4, e5⟩ := rdW_ok w s z i (fun j hj => hcy j (by omega))
        have e44 : M' 44 = w.1 14 := by rw [← e2]; exact hM.1.2.2.2.2.2.2.2.2.2.2.1
        have e43 : M' 43 s = nI z := by
          obtain ⟨r1, r2, r3, z', r4, r5, r6⟩ := cSh1 hM.1 (show s < 4 by omega) (by rw [e4]; exact h1)
          rw [r6, ← r5, e3, q5]
        have e13 : M' 7 13 = nI (w.2 3 + i) := by
          have q := hM.1.2.2.2.1.2.2.2.2.2.2.1
          rw [e1] at q
          exact q
        have d1 : 2 * nI i = nI (2 * i) := by rw [show (2 : Int32) = nI 2 from rfl, pk_mul]
        have d2 : 2 * nI i + 1 = nI (2 * i + 1) := by rw [d1, nI_1]
        refine z_go ?_
        refine z_bf (nI_ge (a := i) (b := z / 2) (by omega) (by omega)) ?_
        refine z_bf (by show ¬ 6 ≤ M' 7 13; rw [e13]; exact nI_ge (a := w.2 3 + i) (b := 6) (by omega) (by omega)) ?_
        refine z_ca (z_cv (rdA w s i) (fa_post (P := fun q => zMet _ [.ref 41, .int (nI s), .int q] _ _ _ _) d1 (c1_item n 15 M' s z (2 * i) (by omega) e43 q4 (by omega))) (by rw [e44]; rfl)) ?_
        refine z_ca (z_cv (rdB w s i) (fa_post (P := fun q => zMet _ [.ref 41, .int (nI s), .int q] _ _ _ _) d2 (c1_item n 15 M' s z (2 * i + 1) (by omega) e43 q4 (by omega))) (by rw [e44]; rfl)) ?_
        refine z_ca (z_cv 1 (c5_mayPinch _ _ _ _ (Nat.le_of_ble_eq_true rfl)) (zb_1 ⟨ok.2.1, ok.2.2.1⟩)) ?_
        refine z_bf (by decide) ?_
        refine z_go ?_
        refine z_ca (c4_addPinch n 15 M' (w.2 3 + i) _ _ (by omega) e13) ?_
        refine ih _ _ ⟨⟨?_, fun p hp => ?_⟩, nI_1 i⟩
        · exact (by have q := cC_pinch hM.1 ok.2.1 ok.2.2.1 (by rw [e1]; omega); rw [e1] at q; exact q)
        · rw [z_un (by omega), z_un (by omega), z_un (by omega)]
          exact hM.2 p hp) (by
        rintro x M' ⟨hM, rfl⟩
        obtain ⟨i, hi⟩ : ∃ i, i = c := ⟨c, rfl⟩
        rw [← hi] at hM hcy hcn hret hc6 ⊢
        obtain ⟨e1, e2, e3, e4, e5⟩ := rdW_ok w s z i (fun j hj => hcy j hj)
        have e44 : M' 44 = w.1 14 := by rw [← e2]; exact hM.1.2.2.2.2.2.2.2.2.2.2.1
        have e43 : M' 43 s = nI z := by
          obtain ⟨r1, r2, r3, z', r4, r5, r6⟩ := cSh1 hM.1 (show s < 4 by omega) (by rw [e4]; exact h1)
          rw [r6, ← r5, e3, q5]
        have e13 : M' 7 13 = nI (w.2 3 + i) := by
          have q := hM.1.2.2.2.1.2.2.2.2.2.2.1
          rw [e1] at q
          exact q
        have d1 : 2 * nI i = nI (2 * i) := by rw [show (2 : Int32) = nI 2 from rfl, pk_mul]
        have d2 : 2 * nI i + 1 = nI (2 * i + 1) := by rw [d1, nI_1]
        refine z_go ?_
        by_cases g1 : 2 * i + 1 < z
        · by_cases g2 : w.2 3 + i < 6
          · refine z_bf (nI_ge (a := i) (b := z / 2) (by omega) (by omega)) ?_
            refine z_bf (by show ¬ 6 ≤ M' 7 13; rw [e13]; exact nI_ge (a := w.2 3 + i) (b := 6) (by omega) (by omega)) ?_
            refine z_ca (z_cv (rdA w s i) (fa_post (P := fun q => zMet _ [.ref 41, .int (nI s), .int q] _ _ _ _) d1 (c1_item n 15 M' s z (2 * i) (by omega) e43 q4 (by omega))) (by rw [e44]; rfl)) ?_
            refine z_ca (z_cv (rdB w s i) (fa_post (P := fun q => zMet _ [.ref 41, .int (nI s), .int q] _ _ _ _) d2 (c1_item n 15 M' s z (2 * i + 1) (by omega) e43 q4 (by omega))) (by rw [e44]; rfl)) ?_
            refine z_ca (z_cv 0 (c5_mayPinch _ _ _ _ (Nat.le_of_ble_eq_true rfl)) (zb_0 (fun q => hcn ⟨by omega, q.1, q.2, by omega⟩))) ?_
            refine z_bt (by decide) ?_
            refine z_go ?_
            refine z_ca (c5_changed n 15 _) ?_
            refine z_rq hret (z_vi ?_) ⟨cI_chg hM.1, fun p hp => ?_⟩
            · show M' 7 13 - nI (w.2 3) = nI i
              rw [e13, pk_sub (by omega), Nat.add_sub_cancel_left]
            · rw [z_un (by omega), z_un (by omega)]
              exact hM.2 p hp
          · refine z_bf (nI_ge (a := i) (b := z / 2) (by omega) (by omega)) ?_
            refine z_bt (by show 6 ≤ M' 7 13; rw [e13]; exact nI_le (a := 6) (b := w.2 3 + i) (by omega) (by omega)) ?_
            refine z_go ?_
            refine z_ca (c5_changed n 15 _) ?_
            refine z_rq hret (z_vi ?_) ⟨cI_chg hM.1, fun p hp => ?_⟩
            · show M' 7 13 - nI (w.2 3) = nI i
              rw [e13, pk_sub (by omega), Nat.add_sub_cancel_left]
            · rw [z_un (by omega), z_un (by omega)]
              exact hM.2 p hp
        · refine z_bt (nI_le (a := z / 2) (b := i) (by omega) (by omega)) ?_
          refine z_go ?_
          refine z_ca (c5_changed n 15 _) ?_
          refine z_rq hret (z_vi ?_) ⟨cI_chg hM.1, fun p hp => ?_⟩
          · show M' 7 13 - nI (w.2 3) = nI i
            rw [e13, pk_sub (by omega), Nat.add_sub_cancel_left]
          · rw [z_un (by omega), z_un (by omega)]
            exact hM.2 p hp)
      refine fa_post (P := fun q => z_E _ _ _ [some (.ref 2), some (.int (nI s)), some (.int (M 7 13)), some (.int q), some (.int (nI 0)), none, none] [] _ _) hdv ?_
      refine fa_post (P := fun q => z_E _ _ _ [some (.ref 2), some (.int (nI s)), some (.int q), some (.int (nI (z / 2))), some (.int (nI 0)), none, none] [] _ _) c3.2.2.2.2.2.2.1 ?_
      exact loop 0 _ _ (Nat.zero_le _) ⟨⟨hI.1, fun _ _ => rfl⟩, rfl⟩
  · have hno : stRead w x = (-2, w) := by unfold stRead; rw [if_neg hx]
    rw [hno] at hret
    refine z_ca (z_cv 0 (c5_isSheet _ _ _ (Nat.le_of_ble_eq_true rfl)) (zb_0 hx)) ?_
    refine z_bt (by decide) ?_
    exact z_rq hret rfl ⟨hI, fun _ _ => rfl⟩
set_option maxRecDepth 10000 in
set_option maxHeartbeats 1000000 in
theorem e6_read (n eb : Nat) (M : zM) (w : Rw) (hC : rC w M) (x : Int32) : zMet zi_X6_read [.ref 45, .int x] (zLay n eb) M (zLay n eb) (zr (some (.int (stRead w x).1)) (rTo (stRead w x).2 M)) := by
  refine z_mr (zk_X6_read _ _) rfl (Nat.le_of_ble_eq_true rfl) rfl (fun ret hret => ?_)
  have hC0 := hC
  obtain ⟨⟨⟨w1, w2, w3, w4, w5⟩, wb, wp, ws, wt⟩, c1, c2, c3, c4, ⟨c5, c6, c7, c8⟩, c9, c10, c11⟩ := hC
  by_cases hx : 0 ≤ x ∧ x ≤ 3
  · obtain ⟨s, hs, rfl⟩ := rg 3 rfl (by omega) hx
    have hcs : (nI s).toNatClampNeg = s := z_cl (by omega)
    by_cases h1 : w.1 11 s = 0
    · have hno : stRead w (nI s) = (-11, wU w 0 3 1) := by unfold stRead; rw [if_pos hx, hcs, if_pos h1]
      rw [hno] at hret
      refine z_ca (z_cv 1 (c6_isSheet _ _ _ (Nat.le_of_ble_eq_true rfl)) (zb_1 hx)) ?_
      refine z_bf (by decide) ?_
      refine z_go ?_
      refine And.intro (z_inN0 (by omega) (by omega)) ?_
      refine z_bt (by show M 71 (nI s).toNatClampNeg = 0; rw [hcs, c11.1]; exact h1) ?_
      refine z_ca (c6_meets n eb _ _) ?_
      exact z_rq hret rfl ⟨rC_find hC0 _, fun p hp => z_un (by omega)⟩
    · obtain ⟨z, q4, q5⟩ : ∃ z, z ≤ 60 ∧ w.1 13 s = nI z := by
        rcases wSh ⟨⟨w1, w2, w3, w4, w5⟩, wb, wp, ws, wt⟩ (show s < 4 by omega) with q | q
        · exact absurd q h1
        · exact q.2.2
      have hno : stRead w (nI s) = (nI (rdN w s z), rdW w s (rdN w s z)) := by unfold stRead; rw [if_pos hx, hcs, if_neg h1, q5, z_cl (by omega)]
      rw [hno] at hret
      obtain ⟨hc6, hcy, hcn⟩ := rdN_ok w s z
      generalize rdN w s z = c at hret hc6 hcy hcn
      refine z_ca (z_cv 1 (c6_isSheet _ _ _ (Nat.le_of_ble_eq_true rfl)) (zb_1 hx)) ?_
      refine z_bf (by decide) ?_
      refine z_go ?_
      refine And.intro (z_inN0 (by omega) (by omega)) ?_
      refine z_bf (by show ¬ M 71 (nI s).toNatClampNeg = 0; rw [hcs, c11.1]; exact h1) ?_
      refine z_go ?_
      have loop := z_l1 (P := zp_X6_read) (ret := ret) (pc := 27) (L := zLay n eb) (N := c) (lo := fun x => [some (.ref 45), some (.int (nI s)), some (.int x)]) (I := fun i x M' => (rC (rdW w s i) M' ∧ ∀ p, p < 45 → M' p = M p) ∧ x = nI i) (by
        rintro i x M' hi ⟨hM, rfl⟩ ih
        have ok := hcy i hi
        have ok4 := ok.2.2.2
        have ok1 := ok.1
        obtain ⟨e1, e2, e3, e4, e5⟩ := rdW_ok w s z i (fun j hj => hcy j (by omega))
        have e74 : M' 74 = w.1 14 := by rw [← e2]; exact hM.1.2.2.2.2.2.2.2.2.2.2.2
        have e73 : M' 73 (nI s).toNatClampNeg = nI z := by rw [hcs, hM.1.2.2.2.2.2.2.2.2.2.2.1, e3, q5]
        have d2 : 2 * nI i + 1 = nI (2 * i + 1) := by rw [show (2 : Int32) = nI 2 from rfl, pk_mul, nI_1]
        have a1 : 60 * nI s + 2 * nI i = nI (60 * s + 2 * i) := by rw [show (60 : Int32) = nI 60 from rfl, show (2 : Int32) = nI 2 from rfl, pk_mul, pk_mul, nI_add]
        have a2 : 60 * nI s + 2 * nI i + 1 = nI (60 * s + (2 * i + 1)) := by rw [a1, nI_1, Nat.add_assoc]
        have vA : M' 74 (60 * nI s + 2 * nI i).toNatClampNeg = rdA w s i := by rw [a1, e74, z_cl (by omega)]; rfl
        have vB : M' 74 (60 * nI s + 2 * nI i + 1).toNatClampNeg = rdB w s i := by rw [a2, e74, z_cl (by omega)]; rfl
        refine z_go ?_
        refine And.intro (z_inN0 (by omega) (by omega)) ?_
        refine z_bf (by show ¬ M' 73 (nI s).toNatClampNeg ≤ 2 * nI i + 1; rw [e73, d2]; exact nI_ge (a := 2 * i + 1) (b := z) (by omega) (by omega)) ?_
        refine And.intro (by show vp_in (60 * nI s + 2 * nI i) 240; rw [a1]; exact z_inN0 (by omega) (by omega)) ?_
        refine And.intro (by show vp_in (60 * nI s + 2 * nI i + 1) 240; rw [a2]; exact z_inN0 (by omega) (by omega)) ?_
        refine z_cx (fa_post2 (P := fun p q => zMet zi_X6_pinch [.ref 45, .int p, .int q] _ _ _ _) vA vB (e6_pinch n eb M' (rdW w s i) hM.1 _ _)) (fun M2 h2 => ?_)
        refine z_bf (by rw [rdW_ans w s z i (fun j hj => hcy j (by omega))]; exact nI_ge (a := 0) (b := w.2 3 + i + 1) (by omega) (by omega)) ?_
        exact ih _ _ ⟨⟨h2.1, fun p hp => (h2.2 p hp).trans (hM.2 p hp)⟩, nI_1 i⟩) (by
        rintro x M' ⟨hM, rfl⟩
        obtain ⟨i, hi⟩ : ∃ i, i = c := ⟨c, rfl⟩
        rw [← hi] at hM hcy hcn hret hc6 ⊢
        obtain ⟨e1, e2, e3, e4, e5⟩ := rdW_ok w s z i (fun j hj => hcy j hj)
        have e74 : M' 74 = w.1 14 := by rw [← e2]; exact hM.1.2.2.2.2.2.2.2.2.2.2.2
        have e73 : M' 73 (nI s).toNatClampNeg = nI z := by rw [hcs, hM.1.2.2.2.2.2.2.2.2.2.2.1, e3, q5]
        have d2 : 2 * nI i + 1 = nI (2 * i + 1) := by rw [show (2 : Int32) = nI 2 from rfl, pk_mul, nI_1]
        have a1 : 60 * nI s + 2 * nI i = nI (60 * s + 2 * i) := by rw [show (60 : Int32) = nI 60 from rfl, show (2 : Int32) = nI 2 from rfl, pk_mul, pk_mul, nI_add]
        have a2 : 60 * nI s + 2 * nI i + 1 = nI (60 * s + (2 * i + 1)) := by rw [a1, nI_1, Nat.add_assoc]
        have vA : M' 74 (60 * nI s + 2 * nI i).toNatClampNeg = rdA w s i := by rw [a1, e74, z_cl (by omega)]; rfl
        have vB : M' 74 (60 * nI s + 2 * nI i + 1).toNatClampNeg = rdB w s i := by rw [a2, e74, z_cl (by omega)]; rfl
        refine z_go ?_
        by_cases g1 : 2 * i + 1 < z
        · have h36 : w.2 3 + i ≤ 6 := by
            rcases Nat.eq_zero_or_pos i with r | r
            · omega
            · have := (hcy (i - 1) (by omega)).2.2.2
              omega
          have hnn := rdW_no w s z i hcy g1 hcn h36
          refine And.intro (z_inN0 (by omega) (by omega)) ?_
          refine z_bf (by show ¬ M' 73 (nI s).toNatClampNeg ≤ 2 * nI i + 1; rw [e73, d2]; exact nI_ge (a := 2 * i + 1) (b := z) (by omega) (by omega)) ?_
          refine And.intro (by show vp_in (60 * nI s + 2 * nI i) 240; rw [a1]; exact z_inN0 (by omega) (by omega)) ?_
          refine And.intro (by show vp_in (60 * nI s + 2 * nI i + 1) 240; rw [a2]; exact z_inN0 (by omega) (by omega)) ?_
          refine z_cx (fa_post2 (P := fun p q => zMet zi_X6_pinch [.ref 45, .int p, .int q] _ _ _ _) vA vB (e6_pinch n eb M' (rdW w s i) hM.1 _ _)) (fun M2 h2 => ?_)
          refine z_bt hnn.1 ?_
          refine z_go ?_
          refine z_rq hret rfl ⟨?_, fun p hp => (h2.2 p hp).trans (hM.2 p hp)⟩
          have q := h2.1
          rw [hnn.2] at q
          exact q
        · refine And.intro (z_inN0 (by omega) (by omega)) ?_
          refine z_bt (by show M' 73 (nI s).toNatClampNeg ≤ 2 * nI i + 1; rw [e73, d2]; exact nI_le (a := z) (b := 2 * i + 1) (by omega) (by omega)) ?_
          refine z_go ?_
          exact z_rq hret rfl ⟨hM.1, hM.2⟩)
      exact loop 0 _ _ (Nat.zero_le _) ⟨⟨hC0, fun _ _ => rfl⟩, rfl⟩
  · have hno : stRead w x = (-2, w) := by unfold stRead; rw [if_neg hx]
    rw [hno] at hret
    refine z_ca (z_cv 0 (c6_isSheet _ _ _ (Nat.le_of_ble_eq_true rfl)) (zb_0 hx)) ?_
    refine z_bt (by decide) ?_
    exact z_rq hret rfl ⟨hC0, fun _ _ => rfl⟩
