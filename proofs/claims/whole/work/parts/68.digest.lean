/-! digest: the class, its end -/
theorem dL_s (f : Nat → Int32) (h : Int64) (n : Nat) : dL f h (n + 1) = dg (dL f h n) (f n) := rfl
theorem dF_s (f : Nat → Int64 → Int64) (h : Int64) (n : Nat) : dF f h (n + 1) = f n (dF f h n) := rfl
def dTg (h : Int64) (a1 a2 a3 e0 e1 al p0 p1 an : Int32) (f : Nat → Int32) (y0 y1 : Int32) : Int64 := dg (dg (dL f (dg (dg (dg (dg (dg (dg (dg (dg (dg h a1) a2) a3) e0) e1) al) p0) p1) an) 3) y0) y1
set_option maxRecDepth 10000 in
set_option maxHeartbeats 1000000 in
theorem d5_dTg (n : Nat) (w : Rw) (a1 a2 a3 al an y0 y1 : Int32) (pe pp : Option (Nat × Nat)) (f : Nat → Int32) (bits : Int64) (hpe : ∀ q, pe = some q → q.1 < 64 ∧ q.2 < 999) (hpp : ∀ q, pp = some q → q.1 < 64 ∧ q.2 < 999) (H1 : ∀ M : zM, cI w M → zMet zi_X5_first [.ref 2] (zLay n 15) M (zLay n 15) (zr (some (.int a1)) (fun M' => cI w M' ∧ ∀ p, 45 ≤ p → M' p = M p))) (H2 : ∀ M : zM, cI w M → zMet zi_X5_quiet [.ref 2] (zLay n 15) M (zLay n 15) (zr (some (.int a2)) (fun M' => cI w M' ∧ ∀ p, 45 ≤ p → M' p = M p))) (H3 : ∀ M : zM, cI w M → zMet zi_X5_well [.ref 2] (zLay n 15) M (zLay n 15) (zr (some (.int a3)) (fun M' => cI w M' ∧ ∀ p, 45 ≤ p → M' p = M p))) (H4 : ∀ M : zM, cI w M → zMet zi_X5_bestElbow [.ref 2] (zLay n 15) M (zLay n 15) (zr (some (.int (pE pe))) (fun M' => cI w M' ∧ ∀ p, 45 ≤ p → M' p = M p))) (H5 : ∀ M : zM, cI w M → zMet zi_X5_least [.ref 2] (zLay n 15) M (zLay n 15) (zr (some (.int al)) (fun M' => cI w M' ∧ ∀ p, 45 ≤ p → M' p = M p))) (H6 : ∀ M : zM, cI w M → zMet zi_X5_bestPatch [.ref 2] (zLay n 15) M (zLay n 15) (zr (some (.int (pE pp))) (fun M' => cI w M' ∧ ∀ p, 45 ≤ p → M' p = M p))) (H7 : ∀ M : zM, cI w M → zMet zi_X5_never [.ref 2] (zLay n 15) M (zLay n 15) (zr (some (.int an)) (fun M' => cI w M' ∧ ∀ p, 45 ≤ p → M' p = M p))) (H8 : ∀ M : zM, cI w M → zMet zi_X5_possibleStarts [.ref 2] (zLay n 15) M (zLay n 15) (zr (some (.long bits)) (fun M' => cI w M' ∧ ∀ p, 45 ≤ p → M' p = M p))) (H9 : ∀ j, j < 3 → ∀ M : zM, zMet zi_X5_startsPart [.long bits, .int (nI j)] (zLay n 15) M (zLay n 15) (zx (some (.int (f j))) M)) (H10 : ∀ M : zM, cI w M → zMet zi_X5_year [.ref 2, .int 7, .int 25, .int 0] (zLay n 15) M (zLay n 15) (zr (some (.int y0)) (fun M' => cI w M' ∧ ∀ p, 45 ≤ p → M' p = M p))) (H11 : ∀ M : zM, cI w M → zMet zi_X5_year [.ref 2, .int 7, .int 25, .int 1] (zLay n 15) M (zLay n 15) (zr (some (.int y1)) (fun M' => cI w M' ∧ ∀ p, 45 ≤ p → M' p = M p))) (M : zM) (hI : cI w M) (h : Int64) : zMet zi_X5_digestTown [.ref 2, .long h] (zLay n 15) M (zLay n 15) (zr (some (.long (dTg h a1 a2 a3 (pAns pe 0) (pAns pe 1) al (pAns pp 0) (pAns pp 1) an f y0 y1))) (kc w M)) := by
  refine z_mr (zk_X5_digestTown _ _) rfl (Nat.le_of_ble_eq_true rfl) rfl (fun ret hret => ?_)
  refine z_cx (zMet_fz (H1 M (kc_rf hI).1)) (fun M1 r_M1 => ?_)
  have m1 := kc_st (kc_rf hI) r_M1
  refine z_cx (zMet_fz (H2 M1 m1.1)) (fun M2 r_M2 => ?_)
  have m2 := kc_st m1 r_M2
  refine z_cx (zMet_fz (H3 M2 m2.1)) (fun M3 r_M3 => ?_)
  have m3 := kc_st m2 r_M3
  refine z_cx (zMet_fz (H4 M3 m3.1)) (fun M4 r_M4 => ?_)
  have m4 := kc_st m3 r_M4
  refine z_ca (c5_digestPlan (dg (dg (dg h a1) a2) a3) pe hpe _ _ (Nat.le_of_ble_eq_true rfl)) ?_
  show z_run (z_from 44 zp_X5_digestTown) (z_E zp_X5_digestTown ret) ret [some (.ref 2), some (.long h), none, some (.long (dg (dg (dg h a1) a2) a3)), none, none, none, none] [.long (dg (dg (dg (dg (dg h a1) a2) a3) (pAns pe 0)) (pAns pe 1))] (zLay n 15) M4
  obtain ⟨Y, hY⟩ : ∃ Y, dg (dg (dg (dg (dg h a1) a2) a3) (pAns pe 0)) (pAns pe 1) = Y := ⟨_, rfl⟩
  rw [hY]
  refine z_cx (zMet_fz (H5 M4 m4.1)) (fun M5 r_M5 => ?_)
  have m5 := kc_st m4 r_M5
  refine z_cx (zMet_fz (H6 M5 m5.1)) (fun M6 r_M6 => ?_)
  have m6 := kc_st m5 r_M6
  refine z_ca (c5_digestPlan (dg Y al) pp hpp _ _ (Nat.le_of_ble_eq_true rfl)) ?_
  show z_run (z_from 65 zp_X5_digestTown) (z_E zp_X5_digestTown ret) ret [some (.ref 2), some (.long h), none, some (.long (dg Y al)), none, none, none, none] [.long (dg (dg (dg Y al) (pAns pp 0)) (pAns pp 1))] (zLay n 15) M6
  obtain ⟨Z, hZ⟩ : ∃ Z, dg (dg (dg Y al) (pAns pp 0)) (pAns pp 1) = Z := ⟨_, rfl⟩
  rw [hZ]
  refine z_cx (zMet_fz (H7 M6 m6.1)) (fun M7 r_M7 => ?_)
  have m7 := kc_st m6 r_M7
  refine z_cx (zMet_fz (H8 M7 m7.1)) (fun M8 r_M8 => ?_)
  have m8 := kc_st m7 r_M8
  obtain ⟨H, hH⟩ : ∃ H, dg Z an = H := ⟨_, rfl⟩
  have loop := z_lg (P := zp_X5_digestTown) (ret := ret) (pc := 87) (L := zLay n 15) (N := 3) (lo := fun q : Int64 × Int32 => [some (.ref 2), none, none, some (.long q.1), none, some (.long bits), none, some (.int q.2)]) (I := fun j q M' => kc w M M' ∧ q.1 = dL f H j ∧ q.2 = nI j) (by
    rintro j ⟨b, x⟩ M' hj ⟨hK, hb, hx⟩ ih
    simp only at hb hx
    subst hb; subst hx
    refine z_go ?_
    refine z_bf (fun c => absurd ((nI_ltI (a := 2) (b := j) (by omega) (by omega)).mp c) (by omega)) ?_
    refine z_ca (H9 j hj M') ?_
    exact ih (_, _) _ ⟨hK, (dL_s f H j).symm, nI_1 j⟩) (by
    rintro ⟨b, x⟩ M' ⟨hK, hb, hx⟩
    simp only at hb hx
    subst hx
    refine z_go ?_
    refine z_bt (nI_lt (a := 2) (b := 3) (by omega) (by omega)) ?_
    refine z_go ?_
    refine z_cx (zMet_fz (H10 M' hK.1)) (fun N1 r1 => ?_)
    have k1 := kc_st hK r1
    refine z_cx (zMet_fz (H11 N1 k1.1)) (fun N2 r2 => ?_)
    refine z_rq hret (z_vl ?_) (kc_st k1 r2)
    rw [dTg, hY, hZ, hH, ← hb]
    rfl)
  exact loop 0 (_, _) _ (Nat.zero_le _) ⟨m8, hH, rfl⟩
theorem dTown_e (w : Rw) (h : Int64) : dTg h (aFirst w) (aQuiet w) (aWell w) (pAns (pBest (gElbow w) 40) 0) (pAns (pBest (gElbow w) 40) 1) (aLeast w) (pAns (pBest (gPatch w) (w.2 2)) 0) (pAns (pBest (gPatch w) (w.2 2)) 1) (aNever w) (fun j => aStarts w (nI j)) (aYearN w 7 25 0) (aYearN w 7 25 1) = dTown w h := by
  rw [dTown, dTw1, aElbow_e (by omega), aElbow_e (by omega), aPatch_e (by omega), aPatch_e (by omega), dTg]
theorem d5_digestTown (n : Nat) (M : zM) (w : Rw) (hI : cI w M) (h : Int64) : zMet zi_X5_digestTown [.ref 2, .long h] (zLay n 15) M (zLay n 15) (zr (some (.long (dTown w h))) (kc w M)) := by
  have h6 := hI.1.1.1.2.2.1
  rw [← dTown_e]
  exact d5_dTg n w (aFirst w) (aQuiet w) (aWell w) (aLeast w) (aNever w) (aYearN w 7 25 0) (aYearN w 7 25 1) (pBest (gElbow w) 40) (pBest (gPatch w) (w.2 2)) (fun j => aStarts w (nI j)) (lN (bw (gSt w) 61))
    (fun q hq => ⟨by have := (pBest_lt _ q hq).1; omega, gElbow_lt w _ _ (pBest_lt _ q hq).2⟩) (fun q hq => ⟨by have := (pBest_lt _ q hq).1; omega, gPatch_lt w _ _ (pBest_lt _ q hq).2⟩)
    (fun M hI => e5_first n M w hI) (fun M hI => e5_quiet n M w hI) (fun M hI => e5_well n M w hI) (fun M hI => d5_bestElbow n M w hI) (fun M hI => e5_least n M w hI) (fun M hI => d5_bestPatch n M w hI) (fun M hI => e5_never n M w hI) (fun M hI => d5_possibleStarts n M w hI)
    (fun j hj M => z_cv _ (c5_sP (gSt w) j hj _ _ (Nat.le_of_ble_eq_true rfl)) (aSt_y (by omega)).symm)
    (fun M hI => zMet_v _ (e5_year n M w hI 7 (nI 25) (nI 0)) (aYear_y (by omega) (by omega))) (fun M hI => zMet_v _ (e5_year n M w hI 7 (nI 25) (nI 1)) (aYear_y (by omega) (by omega))) M hI h
set_option maxRecDepth 10000 in
set_option maxHeartbeats 1000000 in
theorem d5_dg (n : Nat) (w : Rw) (fc : Nat → Int32) (f0 f1 : Int32) (ft fh : Nat → Int64 → Int64) (fe : Int64 → Int64) (HC : ∀ M : zM, cI w M → ∀ j, j < 8 → zMet zi_X5_count [.ref 2, .int (nI j)] (zLay n 15) M (zLay n 15) (zr (some (.int (fc j))) (fun M' => cI w M' ∧ ∀ p, 45 ≤ p → M' p = M p))) (HF0 : ∀ M : zM, cI w M → zMet zi_X5_fault [.ref 2, .int 0] (zLay n 15) M (zLay n 15) (zr (some (.int f0)) (fun M' => cI w M' ∧ ∀ p, 45 ≤ p → M' p = M p))) (HF1 : ∀ M : zM, cI w M → zMet zi_X5_fault [.ref 2, .int 1] (zLay n 15) M (zLay n 15) (zr (some (.int f1)) (fun M' => cI w M' ∧ ∀ p, 45 ≤ p → M' p = M p))) (HR : ∀ M : zM, cI w M → ∀ (h : Int64) (t : Nat), t < 40 → zMet zi_X5_digestHour [.ref 2, .long h, .int (nI t)] (zLay n 15) M (zLay n 15) (zr (some (.long (ft t h))) (kc w M))) (HH : ∀ M : zM, cI w M → (∀ i, i < 4 → M 1 i = nI (hrs i)) → ∀ (h : Int64) (k : Nat), k < tN w → zMet zi_X5_digestHouse [.ref 2, .long h, .int (nI k)] (zLay n 15) M (zLay n 15) (zr (some (.long (fh k h))) (kc w M))) (HT : ∀ M : zM, cI w M → ∀ (h : Int64), zMet zi_X5_digestTown [.ref 2, .long h] (zLay n 15) M (zLay n 15) (zr (some (.long (fe h))) (kc w M))) (M : zM) (hI : cI w M) (hD : ∀ i, i < 4 → M 1 i = nI (hrs i)) : zMet zi_X5_digest [.ref 2] (zLay n 15) M (zLay n 15) (zr (some (.long (fe (dF fh (dF ft (dg (dg (dL fc 17 8) f0) f1) 40) (tN w))))) (kc w M)) := by
  refine z_mr (zk_X5_digest _ _) rfl (Nat.le_of_ble_eq_true rfl) rfl (fun ret hret => ?_)
  have h8 := tN8 w
  have loop := z_lg (P := zp_X5_digest) (ret := ret) (pc := 6) (L := zLay n 15) (N := 8) (lo := fun q : Int64 × Int32 => [some (.ref 2), some (.long q.1), none, some (.int q.2)]) (I := fun j q M' => kc w M M' ∧ q.1 = dL fc 17 j ∧ q.2 = nI j) (by
    rintro j ⟨b, x⟩ M' hj ⟨hK, hb, hx⟩ ih
    simp only at hb hx
    subst hb; subst hx
    refine z_go ?_
    refine z_bf (fun c => absurd ((nI_ltI (a := 7) (b := j) (by omega) (by omega)).mp c) (by omega)) ?_
    refine z_cx (zMet_fz (HC M' hK.1 j hj)) (fun M2 h2 => ?_)
    exact ih (_, _) _ ⟨kc_st hK h2, (dL_s fc 17 j).symm, nI_1 j⟩) (by
    rintro ⟨b, x⟩ M' ⟨hK, hb, hx⟩
    simp only at hb hx
    subst hx
    obtain ⟨b1, hb1⟩ : ∃ c, c = b := ⟨_, rfl⟩
    rw [← hb1]
    rw [hb] at hb1
    refine z_go ?_
    refine z_bt (nI_lt (a := 7) (b := 8) (by omega) (by omega)) ?_
    refine z_go ?_
    refine z_cx (zMet_fz (HF0 M' hK.1)) (fun N1 r1 => ?_)
    refine z_cx (zMet_fz (HF1 N1 (kc_st hK r1).1)) (fun N2 r2 => ?_)
    obtain ⟨T, hT⟩ : ∃ T, T = dg (dg b1 f0) f1 := ⟨_, rfl⟩
    have lp2 := z_lg (P := zp_X5_digest) (ret := ret) (pc := 59) (L := zLay n 15) (N := 40) (lo := fun q : Int64 × Int32 => [some (.ref 2), some (.long q.1), none, some (.int q.2)]) (I := fun j q M' => kc w M M' ∧ q.1 = dF ft T j ∧ q.2 = nI j) (by
      rintro j ⟨b, x⟩ M' hj ⟨hK, hb, hx⟩ ih
      simp only at hb hx
      subst hb; subst hx
      refine z_go ?_
      refine z_bf (nI_ge (a := j) (b := 40) hj (by omega)) ?_
      refine z_cx (HR M' hK.1 _ j hj) (fun M2 h2 => ?_)
      exact ih (_, _) _ ⟨kc_tr hK h2, (dF_s ft T j).symm, nI_1 j⟩) (by
      rintro ⟨b, x⟩ M' ⟨hK, hb, hx⟩
      simp only at hb hx
      subst hx
      obtain ⟨b2, hb2⟩ : ∃ c, c = b := ⟨_, rfl⟩
      rw [← hb2]
      rw [hb] at hb2
      refine z_go ?_
      refine z_bt (nI_le (a := 40) (b := 40) (Nat.le_refl _) (by omega)) ?_
      refine z_go ?_
      have lp3 := z_lg (P := zp_X5_digest) (ret := ret) (pc := 80) (L := zLay n 15) (N := tN w) (lo := fun q : Int64 × Int32 => [some (.ref 2), some (.long q.1), none, some (.int q.2)]) (I := fun j q M' => kc w M M' ∧ q.1 = dF fh b2 j ∧ q.2 = nI j) (by
        rintro j ⟨b, x⟩ M' hj ⟨hK, hb, hx⟩ ih
        simp only at hb hx
        subst hb; subst hx
        refine z_go ?_
        refine z_bf (by show ¬ M' 8 6 ≤ nI j; rw [hK.1.1.2.2.2.2.1]; exact nI_ge hj (by omega)) ?_
        refine z_cx (HH M' hK.1 (fun i hi => by rw [hK.2.2.2]; exact hD i hi) _ j hj) (fun M2 h2 => ?_)
        exact ih (_, _) _ ⟨kc_tr hK h2, (dF_s fh b2 j).symm, nI_1 j⟩) (by
        rintro ⟨b, x⟩ M' ⟨hK, hb, hx⟩
        simp only at hb hx
        subst hx
        refine z_go ?_
        refine z_bt (by show M' 8 6 ≤ nI (tN w); rw [hK.1.1.2.2.2.2.1]; exact nI_le (Nat.le_refl _) (by omega)) ?_
        refine z_go ?_
        refine z_cx (HT M' hK.1 _) (fun M2 h2 => ?_)
        refine z_rq hret (z_vl ?_) (kc_tr hK h2)
        rw [hb, hb2, hT, hb1])
      exact lp3 0 (_, _) _ (Nat.zero_le _) ⟨hK, rfl, rfl⟩)
    exact lp2 0 (_, _) _ (Nat.zero_le _) ⟨kc_st (kc_st hK r1) r2, hT.symm, rfl⟩)
  exact loop 0 (_, _) _ (Nat.zero_le _) ⟨kc_rf hI, rfl, rfl⟩
theorem e5_digest (n : Nat) (M : zM) (w : Rw) (hI : cI w M) (hB : wb2 w) (hD : ∀ i, i < 4 → M 1 i = nI (hrs i)) : zMet zi_X5_digest [.ref 2] (zLay n 15) M (zLay n 15) (zr (some (.long (aDigest w))) (fun M' => cI w M' ∧ ∀ p, 45 ≤ p → M' p = M p)) :=
  zMet_imp (d5_dg n w (fun j => aCount w (nI j)) (aFault w (nI 0)) (aFault w (nI 1)) (dHour w) (dHouse w) (dTown w) (fun M hI j _ => e5_count n M w hI (nI j)) (fun M hI => e5_fault n M w hI (nI 0)) (fun M hI => e5_fault n M w hI (nI 1)) (fun M hI h t ht => d5_digestHour n M w hI h t ht) (fun M hI hD h k hk => d5_digestHouse n M w hI hB hD h k hk) (fun M hI h => d5_digestTown n M w hI h) M hI hD) (fun M' q => ⟨q.1, q.2.1⟩)
