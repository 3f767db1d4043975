/-! digest: the reference -/
set_option maxRecDepth 10000 in
set_option maxHeartbeats 1000000 in
theorem g6_bagOf0 (n eb : Nat) (M : zM) (w : Rw) (hC : rC w M) (h : Nat) (hh : h < 40) : zMet zi_X6_bagOf [.ref 45, .int (nI h), .int (nI 0)] (zLay n eb) M (zLay n eb) (zr (some (.int (aBag w (nI h) (nI 0)))) (fun M' => rC w M' ∧ rSm M M' ∧ M' 45 2 = nI (tN w) ∧ rHm (w.1 1) (w.2 0) (tN w) M')) := by
  refine z_mr (zk_X6_bagOf _ _) rfl (Nat.le_of_ble_eq_true rfl) rfl (fun ret hret => ?_)
  refine z_cx (d6_runsTold n eb M w hC) (fun M1 h1 => ?_)
  obtain ⟨i1, i2, i3, i4, i5, i6⟩ := h1
  refine z_bt (by decide) ?_
  refine And.intro (z_inN0 (by omega) (by omega)) ?_
  refine z_go ?_
  refine z_rq hret (z_vi ?_) ⟨i1, i3, i4, i6⟩
  rw [aBag_y (by omega) (by omega), if_pos rfl]
  show M1 62 (nI h).toNatClampNeg = _
  rw [z_cl (by omega)]
  exact (i2 h (by omega)).1
set_option maxRecDepth 10000 in
set_option maxHeartbeats 1000000 in
theorem g6_bagOf1 (n eb : Nat) (M : zM) (w : Rw) (hC : rC w M) (h : Nat) (hh : h < 40) : zMet zi_X6_bagOf [.ref 45, .int (nI h), .int (nI 1)] (zLay n eb) M (zLay n eb) (zr (some (.int (aBag w (nI h) (nI 1)))) (fun M' => rC w M' ∧ rSm M M' ∧ M' 45 2 = nI (tN w) ∧ rHm (w.1 1) (w.2 0) (tN w) M')) := by
  refine z_mr (zk_X6_bagOf _ _) rfl (Nat.le_of_ble_eq_true rfl) rfl (fun ret hret => ?_)
  refine z_cx (d6_runsTold n eb M w hC) (fun M1 h1 => ?_)
  obtain ⟨i1, i2, i3, i4, i5, i6⟩ := h1
  refine z_bf (by decide) ?_
  refine z_go ?_
  refine z_bt (by decide) ?_
  refine And.intro (z_inN0 (by omega) (by omega)) ?_
  refine z_go ?_
  refine z_rq hret (z_vi ?_) ⟨i1, i3, i4, i6⟩
  rw [aBag_y (by omega) (by omega), if_neg (by decide), if_pos rfl]
  show M1 63 (nI h).toNatClampNeg = _
  rw [z_cl (by omega)]
  exact (i2 h (by omega)).2.1
set_option maxRecDepth 10000 in
set_option maxHeartbeats 1000000 in
theorem g6_bagOf2 (n eb : Nat) (M : zM) (w : Rw) (hC : rC w M) (h : Nat) (hh : h < 40) : zMet zi_X6_bagOf [.ref 45, .int (nI h), .int (nI 2)] (zLay n eb) M (zLay n eb) (zr (some (.int (aBag w (nI h) (nI 2)))) (fun M' => rC w M' ∧ rSm M M' ∧ M' 45 2 = nI (tN w) ∧ rHm (w.1 1) (w.2 0) (tN w) M')) := by
  refine z_mr (zk_X6_bagOf _ _) rfl (Nat.le_of_ble_eq_true rfl) rfl (fun ret hret => ?_)
  refine z_cx (d6_runsTold n eb M w hC) (fun M1 h1 => ?_)
  obtain ⟨i1, i2, i3, i4, i5, i6⟩ := h1
  refine z_bf (by decide) ?_
  refine z_go ?_
  refine z_bf (by decide) ?_
  refine z_go ?_
  refine z_bt (by decide) ?_
  refine And.intro (z_inN0 (by omega) (by omega)) ?_
  refine z_go ?_
  refine z_rq hret (z_vi ?_) ⟨i1, i3, i4, i6⟩
  rw [aBag_y (by omega) (by omega), if_neg (by decide), if_neg (by decide), if_pos rfl]
  show M1 64 (nI h).toNatClampNeg = _
  rw [z_cl (by omega)]
  exact (i2 h (by omega)).2.2.1
set_option maxRecDepth 10000 in
set_option maxHeartbeats 1000000 in
theorem g6_bagOf3 (n eb : Nat) (M : zM) (w : Rw) (hC : rC w M) (h : Nat) (hh : h < 40) : zMet zi_X6_bagOf [.ref 45, .int (nI h), .int (nI 3)] (zLay n eb) M (zLay n eb) (zr (some (.int (aBag w (nI h) (nI 3)))) (fun M' => rC w M' ∧ rSm M M' ∧ M' 45 2 = nI (tN w) ∧ rHm (w.1 1) (w.2 0) (tN w) M')) := by
  refine z_mr (zk_X6_bagOf _ _) rfl (Nat.le_of_ble_eq_true rfl) rfl (fun ret hret => ?_)
  refine z_cx (d6_runsTold n eb M w hC) (fun M1 h1 => ?_)
  obtain ⟨i1, i2, i3, i4, i5, i6⟩ := h1
  refine z_bf (by decide) ?_
  refine z_go ?_
  refine z_bf (by decide) ?_
  refine z_go ?_
  refine z_bf (by decide) ?_
  refine z_go ?_
  refine And.intro (z_inN0 (by omega) (by omega)) ?_
  refine z_rq hret (z_vi ?_) ⟨i1, i3, i4, i6⟩
  rw [aBag_y (by omega) (by omega), if_neg (by decide), if_neg (by decide), if_neg (by decide)]
  show M1 65 (nI h).toNatClampNeg = _
  rw [z_cl (by omega)]
  exact (i2 h (by omega)).2.2.2.1
theorem g6_bagOf (n eb : Nat) (M : zM) (w : Rw) (hC : rC w M) (h : Nat) (hh : h < 40) (j : Nat) (hj : j < 4) : zMet zi_X6_bagOf [.ref 45, .int (nI h), .int (nI j)] (zLay n eb) M (zLay n eb) (zr (some (.int (aBag w (nI h) (nI j)))) (fun M' => rC w M' ∧ rSm M M' ∧ M' 45 2 = nI (tN w) ∧ rHm (w.1 1) (w.2 0) (tN w) M')) := by
  rcases (show j = 0 ∨ j = 1 ∨ j = 2 ∨ j = 3 by omega) with e | e | e | e <;> subst e
  · exact g6_bagOf0 n eb M w hC h hh
  · exact g6_bagOf1 n eb M w hC h hh
  · exact g6_bagOf2 n eb M w hC h hh
  · exact g6_bagOf3 n eb M w hC h hh
theorem g6_gotOf (n eb : Nat) (M : zM) (w : Rw) (hC : rC w M) (h k : Nat) (hh : h < 40) (hk : k < tN w) (j : Nat) (hj : j < 3) : zMet zi_X6_gotOf [.ref 45, .int (nI h), .int (nI k), .int (nI j)] (zLay n eb) M (zLay n eb) (zr (some (.int (aGot w (nI h) (nI k) (nI j)))) (fun M' => rC w M' ∧ rSm M M')) := by
  rcases (show j = 0 ∨ j = 1 ∨ j = 2 by omega) with e | e | e <;> subst e
  · exact d6_gotOf0 n eb M w hC h k hh hk
  · exact d6_gotOf1 n eb M w hC h k hh hk
  · exact d6_gotOf2 n eb M w hC h k hh hk
theorem g6_houseOf (n eb : Nat) (M : zM) (w : Rw) (hm : rHm (w.1 1) (w.2 0) (tN w) M) (k : Nat) (hk : k < tN w) (j : Nat) (hj : j < 7) : zMet zi_X6_houseOf [.ref 45, .int (nI k), .int (nI j)] (zLay n eb) M (zLay n eb) (zx (some (.int (aHouse w (nI k) (nI j)))) M) := by
  by_cases h4 : 4 ≤ j
  · exact d6_houseOf4 n eb M w hm k j hk h4 (by omega)
  · rcases (show j = 0 ∨ j = 1 ∨ j = 2 ∨ j = 3 by omega) with e | e | e | e <;> subst e
    · exact d6_houseOf0 n eb M w hm k hk
    · exact d6_houseOf1 n eb M w hm k hk
    · exact d6_houseOf2 n eb M w hm k hk
    · exact d6_houseOf3 n eb M w hm k hk
theorem g6_startsOf (n eb : Nat) (M : zM) (w : Rw) (hC : rC w M) (j : Nat) (hj : j < 3) : zMet zi_X6_startsOf [.ref 45, .int (nI j)] (zLay n eb) M (zLay n eb) (zr (some (.int (aStarts w (nI j)))) (fun M' => rC w M' ∧ rSm M M')) := by
  rcases (show j = 0 ∨ j = 1 ∨ j = 2 by omega) with e | e | e <;> subst e
  · exact d6_startsOf0 n eb M w hC
  · exact d6_startsOf1 n eb M w hC
  · exact d6_startsOf2 n eb M w hC
noncomputable section
def dGt (w : Rw) (k t : Nat) (h : Int64) : Int64 := dL (fun j => aGot w (nI t) (nI k) (nI j)) h 3
end
/-- the reference goes on as told -/
abbrev kr (w : Rw) (M M' : zM) : Prop := rC w M' ∧ rSm M M'
theorem kr_tr {w : Rw} {M M' M2 : zM} (h : kr w M M') (q : kr w M' M2) : kr w M M2 := ⟨q.1, rSm_tr h.2 q.2⟩
theorem kr_rf {w : Rw} {M : zM} (h : rC w M) : kr w M M := ⟨h, rSm_rf M⟩
theorem rHm_kp {f : Nat → Int32} {sz N : Nat} {M M' : zM} (h : rHm f sz N M) (s : ∀ p, 48 ≤ p → p ≤ 52 → M' p = M p) : rHm f sz N M' := fun k hk => by
  obtain ⟨r1, r2, r3, r4, r5⟩ := h k hk
  exact ⟨by rw [s 48 (by omega) (by omega)]; exact r1, by rw [s 49 (by omega) (by omega)]; exact r2, by rw [s 50 (by omega) (by omega)]; exact r3, by rw [s 51 (by omega) (by omega)]; exact r4, fun t ht => by rw [s 52 (by omega) (by omega)]; exact r5 t ht⟩
set_option maxRecDepth 10000 in
set_option maxHeartbeats 1000000 in
theorem g6_mothOf1 (n eb : Nat) (M : zM) (w : Rw) (hC : rC w M) (c k : Nat) (hc : c ≤ 16) (hk : k < tN w) : zMet zi_X6_mothOf [.ref 45, .int (nI c), .int (nI k), .int (nI 1)] (zLay n eb) M (zLay n eb) (zr (some (.long (aMtN w c k 1))) (fun M' => rC w M' ∧ rSm M M' ∧ M' 45 2 = nI (tN w) ∧ rHm (w.1 1) (w.2 0) (tN w) M')) := by
  refine z_mr (zk_X6_mothOf _ _) rfl (Nat.le_of_ble_eq_true rfl) rfl (fun ret hret => ?_)
  have h8 := tN8 w
  have h6 := hC.1.1.2.2.1
  have h64 := pw6 h6
  refine z_cx (d6_asTold n eb M w hC) (fun M1 h1 => ?_)
  have hp24 : 2 ^ (4 * w.2 2) < 2 ^ 31 := Nat.lt_of_le_of_lt (Nat.pow_le_pow_right (by decide) (show 4 * w.2 2 ≤ 24 by omega)) (by decide)
  have loop := z_lg (P := zp_X6_mothOf) (ret := ret) (pc := 10) (L := zLay n eb) (N := 2 ^ w.2 2) (lo := fun q : Int64 × Int32 => [some (.ref 45), some (.int (nI c)), some (.int (nI k)), some (.int (nI 1)), some (.long q.1), none, some (.int q.2), none, none, none]) (I := fun i q M' => rkT 19 M1 M' ∧ q.1 = lN (sm (mR w c k) i) ∧ q.2 = nI i) (by
    rintro st ⟨s, x⟩ M' hst ⟨hM, hs, hx⟩ ih
    simp only at hs hx
    subst hs; subst hx
    refine z_go ?_
    refine z_bf (by show ¬ (1 <<< (M' 45 11 &&& 31)) ≤ nI st; rw [hM.2 11 (by omega) (by omega), h1.2.1.1.1.2.2.2.1, bwI_shl _ (by omega)]; exact nI_ge hst (by omega)) ?_
    have inn := z_lg (P := zp_X6_mothOf) (ret := ret) (pc := 27) (L := zLay n eb) (N := w.2 2) (lo := fun q : Int64 × Int32 => [some (.ref 45), some (.int (nI c)), some (.int (nI k)), some (.int (nI 1)), some (.long (lN (sm (mR w c k) st))), none, some (.int (nI st)), some (.long q.1), none, some (.int q.2)]) (I := fun i q M9 => M9 = M' ∧ q.1 = lN (wtR c st i) ∧ q.2 = nI i) (by
      rintro i ⟨wg, y⟩ M9 hi ⟨rfl, hw9, hy⟩ ihi
      simp only at hw9 hy
      subst hw9; subst hy
      by_cases hb : mThB (nI st) i = true
      · refine z_go ?_
        refine z_bf (by show ¬ M9 45 11 ≤ nI i; rw [hM.2 11 (by omega) (by omega), h1.2.1.1.1.2.2.2.1]; exact nI_ge hi (by omega)) ?_
        refine z_ca (z_cv 1 (c6_isIn _ _ _ _ (Nat.le_of_ble_eq_true rfl)) (zb_1 (of_decide_eq_true hb))) ?_
        refine z_bf (by decide) ?_
        refine z_go ?_
        refine ihi (_, _) _ ⟨rfl, ?_, nI_1 i⟩
        show lN (wtR c st i) * (16 - nI c).toInt64 = lN (wtR c st (i + 1))
        rw [show (16 : Int32) = nI 16 from rfl, pk_sub hc, nI_l (by omega), wtR, if_pos hb, lN_mul]
      · refine z_go ?_
        refine z_bf (by show ¬ M9 45 11 ≤ nI i; rw [hM.2 11 (by omega) (by omega), h1.2.1.1.1.2.2.2.1]; exact nI_ge hi (by omega)) ?_
        refine z_ca (z_cv 0 (c6_isIn _ _ _ _ (Nat.le_of_ble_eq_true rfl)) (zb_0 (fun q => hb (decide_eq_true q)))) ?_
        refine z_bt (by decide) ?_
        refine z_go ?_
        refine ihi (_, _) _ ⟨rfl, ?_, nI_1 i⟩
        show lN (wtR c st i) * (nI c).toInt64 = lN (wtR c st (i + 1))
        rw [nI_l (by omega), wtR, if_neg hb, lN_mul]) (by
      rintro ⟨wg, y⟩ M9 ⟨rfl, hw9, hy⟩
      simp only at hw9 hy
      subst hy
      have ht := rTr_19 (v := nI st) (thL := mThN (nI st)) h1.2.1 hM (fun i _ => rfl)
      by_cases hp : cnt (fun h => tSh w (mThN (nI st)) allB (-1) (pWd (w.1 1) (w.2 0)) (eEl (w.1 2) (w.2 1)) (w.1 0 0) h k) 40 = 0
      · refine z_go ?_
        refine z_bt (by show M9 45 11 ≤ nI (w.2 2); rw [hM.2 11 (by omega) (by omega), h1.2.1.1.1.2.2.2.1]; exact nI_le (Nat.le_refl _) (by omega)) ?_
        refine z_go ?_
        refine z_cx (d_runs n eb _ (ht)) (fun M2 h2 => ?_)
        obtain ⟨q1, q2, q3⟩ := h2
        refine z_ca (z_cv 0 (c6_shortOf n eb _ (tN w) k _ h8 hk (fun t ht => (show M2 65 t = _ from crs_sh q3 t ht))) (by rw [hp]; rfl)) ?_
        refine z_bt rfl ?_
        refine z_go ?_
        refine ih (_, _) _ ⟨rkT_run hM q1 q2, ?_, nI_1 st⟩
        show lN (sm (mR w c k) st) + wg = _
        rw [hw9, lN_add, show sm (mR w c k) (st + 1) = sm (mR w c k) st + mR w c k st from rfl, mR, if_pos hp]
      · refine z_go ?_
        refine z_bt (by show M9 45 11 ≤ nI (w.2 2); rw [hM.2 11 (by omega) (by omega), h1.2.1.1.1.2.2.2.1]; exact nI_le (Nat.le_refl _) (by omega)) ?_
        refine z_go ?_
        refine z_cx (d_runs n eb _ (ht)) (fun M2 h2 => ?_)
        obtain ⟨q1, q2, q3⟩ := h2
        refine z_ca (z_cv _ (c6_shortOf n eb _ (tN w) k _ h8 hk (fun t ht => (show M2 65 t = _ from crs_sh q3 t ht))) (rfl)) ?_
        refine z_bf (fun q => hp ((nI_eq (b := 0) (by have := cnt_le (fun h => tSh w (mThN (nI st)) allB (-1) (pWd (w.1 1) (w.2 0)) (eEl (w.1 2) (w.2 1)) (w.1 0 0) h k) 40; omega) (by omega)).mp q)) ?_
        refine z_go ?_
        refine ih (_, _) _ ⟨rkT_run hM q1 q2, ?_, nI_1 st⟩
        show lN (sm (mR w c k) st) + 0 = _
        rw [Int64.add_zero, show sm (mR w c k) (st + 1) = sm (mR w c k) st + mR w c k st from rfl, mR, if_neg hp]
        rw [Nat.add_zero])
    exact inn 0 (_, _) _ (Nat.zero_le _) ⟨rfl, rfl, rfl⟩) (by
    rintro ⟨s, x⟩ M' ⟨hM, hs, hx⟩
    simp only at hs hx
    subst hx
    refine z_go ?_
    refine z_bt (by show (1 <<< (M' 45 11 &&& 31)) ≤ nI (2 ^ w.2 2); rw [hM.2 11 (by omega) (by omega), h1.2.1.1.1.2.2.2.1, bwI_shl _ (by omega)]; exact nI_le (Nat.le_refl _) (by omega)) ?_
    refine z_go ?_
    refine z_ca (c6_lowest1' _ _ (mSum w c k) (2 ^ (4 * w.2 2)) (mSum_lt w hc k h6) hp24 (Nat.two_pow_pos _) (by rw [← mR_sum w c k h6]; exact hs) (by show (1 : Int64) <<< ((4 * M' 45 11).toInt64 &&& 63) = _; rw [hM.2 11 (by omega) (by omega), h1.2.1.1.1.2.2.2.1, show (4 : Int32) = nI 4 from rfl, pk_mul, show (1 : Int64) = lN 1 from rfl, wb_shl 1 (by omega), Nat.one_mul]) _ _ (Nat.le_of_ble_eq_true rfl)) ?_
    exact z_rq hret (z_vl (aMt_1 w c k rfl).symm) ⟨rC_sm h1.1 (rSm_rkT hM (by omega) (by omega) (by omega) (by omega)), rSm_tr h1.2.2 (rSm_rkT hM (by omega) (by omega) (by omega) (by omega)), (hM.2 2 (by omega) (by omega)).trans h1.2.1.1.1.2.1, rHm_kp h1.2.1.2.1 (fun p p1 p2 => hM.1 p (by omega) (by omega))⟩)
  exact loop 0 (_, _) _ (Nat.zero_le _) ⟨rkT_rf _ _, rfl, rfl⟩
set_option maxRecDepth 10000 in
set_option maxHeartbeats 1000000 in
theorem g6_hourDigest (n eb : Nat) (M : zM) (w : Rw) (hC : rC w M) (h : Int64) (t k : Nat) (ht : t < 40) (hk : k < tN w) : zMet zi_X6_hourDigest [.ref 45, .long h, .int (nI t), .int (nI k)] (zLay n eb) M (zLay n eb) (zr (some (.long (dGt w k t h))) (kr w M)) := by
  refine z_mr (zk_X6_hourDigest _ _) rfl (Nat.le_of_ble_eq_true rfl) rfl (fun ret hret => ?_)
  have loop := z_lg (P := zp_X6_hourDigest) (ret := ret) (pc := 6) (L := zLay n eb) (N := 3) (lo := fun q : Int64 × Int32 => [some (.ref 45), none, none, some (.int (nI t)), some (.int (nI k)), some (.long q.1), none, some (.int q.2)]) (I := fun j q M' => kr w M M' ∧ q.1 = dL (fun j => aGot w (nI t) (nI k) (nI j)) h j ∧ q.2 = nI j) (by
    rintro j ⟨b, x⟩ M' hj ⟨hK, hb, hx⟩ ih
    simp only at hb hx
    subst hb; subst hx
    refine z_go ?_
    refine z_bf (nI_ge (a := j) (b := 3) hj (by omega)) ?_
    refine z_cx (g6_gotOf n eb M' w hK.1 t k ht hk j hj) (fun M2 h2 => ?_)
    exact ih (_, _) _ ⟨kr_tr hK h2, (dL_s (fun j => aGot w (nI t) (nI k) (nI j)) h j).symm, nI_1 j⟩) (by
    rintro ⟨b, x⟩ M' ⟨hK, hb, hx⟩
    simp only at hb hx
    subst hx
    refine z_go ?_
    refine z_bt (nI_le (a := 3) (b := 3) (Nat.le_refl _) (by omega)) ?_
    refine z_go ?_
    exact z_rq hret (z_vl hb) hK)
  exact loop 0 (_, _) _ (Nat.zero_le _) ⟨kr_rf hC, rfl, rfl⟩
set_option maxRecDepth 10000 in
set_option maxHeartbeats 1000000 in
theorem g6_hDg (n eb : Nat) (w : Rw) (k : Nat) (f7 : Nat → Int32) (g0 g1 g2 g3 : Int64 → Int64) (a0 a1 b0 b1 ww kk : Int32) (m0 m1 : Int64) (HO : ∀ M : zM, rHm (w.1 1) (w.2 0) (tN w) M → ∀ j, j < 7 → zMet zi_X6_houseOf [.ref 45, .int (nI k), .int (nI j)] (zLay n eb) M (zLay n eb) (zx (some (.int (f7 j))) M)) (HG0 : ∀ M : zM, rC w M → ∀ h : Int64, zMet zi_X6_hourDigest [.ref 45, .long h, .int 0, .int (nI k)] (zLay n eb) M (zLay n eb) (zr (some (.long (g0 h))) (kr w M))) (HG1 : ∀ M : zM, rC w M → ∀ h : Int64, zMet zi_X6_hourDigest [.ref 45, .long h, .int 7, .int (nI k)] (zLay n eb) M (zLay n eb) (zr (some (.long (g1 h))) (kr w M))) (HG2 : ∀ M : zM, rC w M → ∀ h : Int64, zMet zi_X6_hourDigest [.ref 45, .long h, .int 20, .int (nI k)] (zLay n eb) M (zLay n eb) (zr (some (.long (g2 h))) (kr w M))) (HG3 : ∀ M : zM, rC w M → ∀ h : Int64, zMet zi_X6_hourDigest [.ref 45, .long h, .int 39, .int (nI k)] (zLay n eb) M (zLay n eb) (zr (some (.long (g3 h))) (kr w M))) (HV0 : ∀ M : zM, rC w M → zMet zi_X6_heldOf [.ref 45, .int (nI k), .int 0] (zLay n eb) M (zLay n eb) (zr (some (.int a0)) (fun M' => rC w M' ∧ rSm M M'))) (HV1 : ∀ M : zM, rC w M → zMet zi_X6_heldOf [.ref 45, .int (nI k), .int 1] (zLay n eb) M (zLay n eb) (zr (some (.int a1)) (fun M' => rC w M' ∧ rSm M M'))) (HV2 : ∀ M : zM, rC w M → zMet zi_X6_shutOf [.ref 45, .int (nI k), .int 0] (zLay n eb) M (zLay n eb) (zr (some (.int b0)) (fun M' => rC w M' ∧ rSm M M'))) (HV3 : ∀ M : zM, rC w M → zMet zi_X6_shutOf [.ref 45, .int (nI k), .int 1] (zLay n eb) M (zLay n eb) (zr (some (.int b1)) (fun M' => rC w M' ∧ rSm M M'))) (HV4 : ∀ M : zM, rC w M → zMet zi_X6_wasOf [.ref 45, .int (nI k)] (zLay n eb) M (zLay n eb) (zr (some (.int ww)) (fun M' => rC w M' ∧ rSm M M'))) (HV5 : ∀ M : zM, rC w M → zMet zi_X6_askOf [.ref 45, .int (nI k)] (zLay n eb) M (zLay n eb) (zr (some (.int kk)) (fun M' => rC w M' ∧ rSm M M'))) (HM0 : ∀ M : zM, rC w M → zMet zi_X6_mothOf [.ref 45, .int 5, .int (nI k), .int 0] (zLay n eb) M (zLay n eb) (zr (some (.long m0)) (fun M' => rC w M' ∧ rSm M M'))) (HM1 : ∀ M : zM, rC w M → zMet zi_X6_mothOf [.ref 45, .int 5, .int (nI k), .int 1] (zLay n eb) M (zLay n eb) (zr (some (.long m1)) (fun M' => rC w M' ∧ rSm M M' ∧ M' 45 2 = nI (tN w) ∧ rHm (w.1 1) (w.2 0) (tN w) M'))) (M : zM) (hC : rC w M) (hm : rHm (w.1 1) (w.2 0) (tN w) M) (h : Int64) : zMet zi_X6_houseDigest [.ref 45, .long h, .int (nI k)] (zLay n eb) M (zLay n eb) (zr (some (.long (31 * (31 * (dg (dg (dg (dg (dg (dg (g3 (g2 (g1 (g0 (dL f7 h 7))))) a0) a1) b0) b1) ww) kk) + m0) + m1))) (fun M' => rC w M' ∧ rSm M M' ∧ M' 45 2 = nI (tN w) ∧ rHm (w.1 1) (w.2 0) (tN w) M')) := by
  refine z_mr (zk_X6_houseDigest _ _) rfl (Nat.le_of_ble_eq_true rfl) rfl (fun ret hret => ?_)
  have loop := z_lg (P := zp_X6_houseDigest) (ret := ret) (pc := 6) (L := zLay n eb) (N := 7) (lo := fun q : Int64 × Int32 => [some (.ref 45), none, none, some (.int (nI k)), some (.long q.1), none, some (.int q.2)]) (I := fun j q M' => (kr w M M' ∧ rHm (w.1 1) (w.2 0) (tN w) M') ∧ q.1 = dL f7 h j ∧ q.2 = nI j) (by
    rintro j ⟨b, x⟩ M' hj ⟨⟨hK, hm⟩, hb, hx⟩ ih
    simp only at hb hx
    subst hb; subst hx
    refine z_go ?_
    refine z_bf (nI_ge (a := j) (b := 7) hj (by omega)) ?_
    refine z_ca (HO M' hm j hj) ?_
    exact ih (_, _) _ ⟨⟨hK, hm⟩, (dL_s f7 h j).symm, nI_1 j⟩) (by
    rintro ⟨b, x⟩ M' ⟨⟨hK, hm⟩, hb, hx⟩
    simp only at hb hx
    subst hx
    obtain ⟨A, hA⟩ : ∃ c, c = b := ⟨_, rfl⟩
    rw [← hA]
    rw [hb] at hA
    refine z_go ?_
    refine z_bt (nI_le (a := 7) (b := 7) (Nat.le_refl _) (by omega)) ?_
    refine z_go ?_
    refine z_cx (HG0 M' hK.1 _) (fun N0 r0 => ?_)
    have k0 := kr_tr hK r0
    show z_run (z_from 44 zp_X6_houseDigest) (z_E zp_X6_houseDigest ret) ret [some (.ref 45), none, none, some (.int (nI k)), some (.long (A)), none, some (.int (nI 7))] [.long (g0 (A))] (zLay n eb) N0
    refine z_cx (HG1 N0 k0.1 _) (fun N1 r1 => ?_)
    have k1 := kr_tr k0 r1
    show z_run (z_from 55 zp_X6_houseDigest) (z_E zp_X6_houseDigest ret) ret [some (.ref 45), none, none, some (.int (nI k)), some (.long (g0 (A))), none, some (.int (nI 7))] [.long (g1 (g0 (A)))] (zLay n eb) N1
    refine z_cx (HG2 N1 k1.1 _) (fun N2 r2 => ?_)
    have k2 := kr_tr k1 r2
    show z_run (z_from 66 zp_X6_houseDigest) (z_E zp_X6_houseDigest ret) ret [some (.ref 45), none, none, some (.int (nI k)), some (.long (g1 (g0 (A)))), none, some (.int (nI 7))] [.long (g2 (g1 (g0 (A))))] (zLay n eb) N2
    refine z_cx (HG3 N2 k2.1 _) (fun N3 r3 => ?_)
    have k3 := kr_tr k2 r3
    show z_run (z_from 77 zp_X6_houseDigest) (z_E zp_X6_houseDigest ret) ret [some (.ref 45), none, none, some (.int (nI k)), some (.long (g2 (g1 (g0 (A))))), none, some (.int (nI 7))] [.long (g3 (g2 (g1 (g0 (A)))))] (zLay n eb) N3
    refine z_cx (HV0 N3 k3.1) (fun N4 r4 => ?_)
    have k4 := kr_tr k3 r4
    show z_run (z_from 91 zp_X6_houseDigest) (z_E zp_X6_houseDigest ret) ret [some (.ref 45), none, none, some (.int (nI k)), some (.long (g3 (g2 (g1 (g0 (A)))))), none, some (.int (nI 7))] [.int a0, .long (31 * (g3 (g2 (g1 (g0 (A))))))] (zLay n eb) N4
    refine z_cx (HV1 N4 k4.1) (fun N5 r5 => ?_)
    have k5 := kr_tr k4 r5
    show z_run (z_from 107 zp_X6_houseDigest) (z_E zp_X6_houseDigest ret) ret [some (.ref 45), none, none, some (.int (nI k)), some (.long (dg (g3 (g2 (g1 (g0 (A))))) a0)), none, some (.int (nI 7))] [.int a1, .long (31 * (dg (g3 (g2 (g1 (g0 (A))))) a0))] (zLay n eb) N5
    refine z_cx (HV2 N5 k5.1) (fun N6 r6 => ?_)
    have k6 := kr_tr k5 r6
    show z_run (z_from 123 zp_X6_houseDigest) (z_E zp_X6_houseDigest ret) ret [some (.ref 45), none, none, some (.int (nI k)), some (.long (dg (dg (g3 (g2 (g1 (g0 (A))))) a0) a1)), none, some (.int (nI 7))] [.int b0, .long (31 * (dg (dg (g3 (g2 (g1 (g0 (A))))) a0) a1))] (zLay n eb) N6
    refine z_cx (HV3 N6 k6.1) (fun N7 r7 => ?_)
    have k7 := kr_tr k6 r7
    show z_run (z_from 139 zp_X6_houseDigest) (z_E zp_X6_houseDigest ret) ret [some (.ref 45), none, none, some (.int (nI k)), some (.long (dg (dg (dg (g3 (g2 (g1 (g0 (A))))) a0) a1) b0)), none, some (.int (nI 7))] [.int b1, .long (31 * (dg (dg (dg (g3 (g2 (g1 (g0 (A))))) a0) a1) b0))] (zLay n eb) N7
    refine z_cx (HV4 N7 k7.1) (fun N8 r8 => ?_)
    have k8 := kr_tr k7 r8
    show z_run (z_from 154 zp_X6_houseDigest) (z_E zp_X6_houseDigest ret) ret [some (.ref 45), none, none, some (.int (nI k)), some (.long (dg (dg (dg (dg (g3 (g2 (g1 (g0 (A))))) a0) a1) b0) b1)), none, some (.int (nI 7))] [.int ww, .long (31 * (dg (dg (dg (dg (g3 (g2 (g1 (g0 (A))))) a0) a1) b0) b1))] (zLay n eb) N8
    refine z_cx (HV5 N8 k8.1) (fun N9 r9 => ?_)
    have k9 := kr_tr k8 r9
    show z_run (z_from 169 zp_X6_houseDigest) (z_E zp_X6_houseDigest ret) ret [some (.ref 45), none, none, some (.int (nI k)), some (.long (dg (dg (dg (dg (dg (g3 (g2 (g1 (g0 (A))))) a0) a1) b0) b1) ww)), none, some (.int (nI 7))] [.int kk, .long (31 * (dg (dg (dg (dg (dg (g3 (g2 (g1 (g0 (A))))) a0) a1) b0) b1) ww))] (zLay n eb) N9
    refine z_cx (HM0 N9 k9.1) (fun N10 r10 => ?_)
    have k10 := kr_tr k9 r10
    show z_run (z_from 186 zp_X6_houseDigest) (z_E zp_X6_houseDigest ret) ret [some (.ref 45), none, none, some (.int (nI k)), some (.long (dg (dg (dg (dg (dg (dg (g3 (g2 (g1 (g0 (A))))) a0) a1) b0) b1) ww) kk)), none, some (.int (nI 7))] [.long m0, .long (31 * (dg (dg (dg (dg (dg (dg (g3 (g2 (g1 (g0 (A))))) a0) a1) b0) b1) ww) kk))] (zLay n eb) N10
    refine z_cx (HM1 N10 k10.1) (fun N11 r11 => ?_)
    show z_run (z_from 202 zp_X6_houseDigest) (z_E zp_X6_houseDigest ret) ret [some (.ref 45), none, none, some (.int (nI k)), some (.long (31 * (dg (dg (dg (dg (dg (dg (g3 (g2 (g1 (g0 (A))))) a0) a1) b0) b1) ww) kk) + m0)), none, some (.int (nI 7))] [.long m1, .long (31 * (31 * (dg (dg (dg (dg (dg (dg (g3 (g2 (g1 (g0 (A))))) a0) a1) b0) b1) ww) kk) + m0))] (zLay n eb) N11
    refine z_rq hret (z_vl ?_) ⟨r11.1, rSm_tr k10.2 r11.2.1, r11.2.2.1, r11.2.2.2⟩
    rw [← hA])
  exact loop 0 (_, _) _ (Nat.zero_le _) ⟨⟨kr_rf hC, hm⟩, rfl, rfl⟩
theorem dHouse_e (w : Rw) (k : Nat) (h : Int64) : 31 * (31 * (dg (dg (dg (dg (dg (dg (dGt w k 39 (dGt w k 20 (dGt w k 7 (dGt w k 0 (dL (fun j => aHouse w (nI k) (nI j)) h 7))))) (aHeld w (nI k) (nI 0))) (aHeld w (nI k) (nI 1))) (aShut w (nI k) (nI 0))) (aShut w (nI k) (nI 1))) (aWas w (nI k))) (aAsk w (nI k))) + aMtN w 5 k 0) + aMtN w 5 k 1 = dHouse w k h := by
  rw [dHouse, dHs2, dHs1, dF_s, dF_s, dF_s, dF_s]
  rfl
theorem g6_houseDigest (n eb : Nat) (M : zM) (w : Rw) (hC : rC w M) (hB : wb2 w) (hm : rHm (w.1 1) (w.2 0) (tN w) M) (h : Int64) (k : Nat) (hk : k < tN w) : zMet zi_X6_houseDigest [.ref 45, .long h, .int (nI k)] (zLay n eb) M (zLay n eb) (zr (some (.long (dHouse w k h))) (fun M' => rC w M' ∧ rSm M M' ∧ M' 45 2 = nI (tN w) ∧ rHm (w.1 1) (w.2 0) (tN w) M')) := by
  rw [← dHouse_e]
  exact g6_hDg n eb w k (fun j => aHouse w (nI k) (nI j)) (dGt w k 0) (dGt w k 7) (dGt w k 20) (dGt w k 39) (aHeld w (nI k) (nI 0)) (aHeld w (nI k) (nI 1)) (aShut w (nI k) (nI 0)) (aShut w (nI k) (nI 1)) (aWas w (nI k)) (aAsk w (nI k)) (aMtN w 5 k 0) (aMtN w 5 k 1)
    (fun M hm j hj => g6_houseOf n eb M w hm k hk j hj) (fun M hC h => g6_hourDigest n eb M w hC h 0 k (by omega) hk) (fun M hC h => g6_hourDigest n eb M w hC h 7 k (by omega) hk) (fun M hC h => g6_hourDigest n eb M w hC h 20 k (by omega) hk) (fun M hC h => g6_hourDigest n eb M w hC h 39 k (by omega) hk)
    (fun M hC => d6_heldOf0 n eb M w hC k hk) (fun M hC => d6_heldOf1 n eb M w hC k hk) (fun M hC => d6_shutOf0 n eb M w hC k hk) (fun M hC => d6_shutOf1 n eb M w hC k hk) (fun M hC => zMet_imp (zMet_v _ (d6_wasOf n eb M w hC k hk) ((aWasN_e w k).symm.trans (aWas_e hk).symm)) (fun M' q => ⟨q.1, q.2.1⟩)) (fun M hC => zMet_v _ (d6_askOf n eb M w hC hB k hk) (aAsk_e hk).symm)
    (fun M hC => d6_mothOf0 n eb M w hC 5 k (by omega) hk) (fun M hC => g6_mothOf1 n eb M w hC 5 k (by omega) hk) M hC hm h
