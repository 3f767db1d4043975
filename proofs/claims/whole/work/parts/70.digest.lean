/-! digest: the reference, its end -/
set_option maxRecDepth 10000 in
set_option maxHeartbeats 1000000 in
theorem g6_dg (n eb : Nat) (w : Rw) (fc : Nat → Int32) (f0 f1 : Int32) (fe : Nat → Int32) (fb : Nat → Nat → Int32) (ft fh : Nat → Int64 → Int64) (a1 a2 a3 e0 e1 al p0 p1 an y0 y1 : Int32) (f : Nat → Int32) (hft : ∀ {t : Nat} {h : Int64}, ft t h = dL (fb t) (dg h (fe t)) 4) (HC : ∀ M : zM, rC w M → ∀ j, j < 8 → zMet zi_X6_count [.ref 45, .int (nI j)] (zLay n eb) M (zLay n eb) (zr (some (.int (fc j))) (fun M' => rC w M' ∧ rSm M M'))) (HF0 : ∀ M : zM, rC w M → zMet zi_X6_faultOf [.ref 45, .int 0] (zLay n eb) M (zLay n eb) (zr (some (.int f0)) (fun M' => rC w M' ∧ rSm M M'))) (HF1 : ∀ M : zM, rC w M → zMet zi_X6_faultOf [.ref 45, .int 1] (zLay n eb) M (zLay n eb) (zr (some (.int f1)) (fun M' => rC w M' ∧ rSm M M'))) (HE : ∀ M : zM, rC w M → ∀ t, t < 40 → zMet zi_X6_elbowsOf [.ref 45, .int (nI t)] (zLay n eb) M (zLay n eb) (zr (some (.int (fe t))) (fun M' => rC w M' ∧ rSm M M'))) (HB : ∀ M : zM, rC w M → ∀ t, t < 40 → ∀ j, j < 4 → zMet zi_X6_bagOf [.ref 45, .int (nI t), .int (nI j)] (zLay n eb) M (zLay n eb) (zr (some (.int (fb t j))) (fun M' => rC w M' ∧ rSm M M' ∧ M' 45 2 = nI (tN w) ∧ rHm (w.1 1) (w.2 0) (tN w) M'))) (HH : ∀ M : zM, rC w M → rHm (w.1 1) (w.2 0) (tN w) M → ∀ (h : Int64) (k : Nat), k < tN w → zMet zi_X6_houseDigest [.ref 45, .long h, .int (nI k)] (zLay n eb) M (zLay n eb) (zr (some (.long (fh k h))) (fun M' => rC w M' ∧ rSm M M' ∧ M' 45 2 = nI (tN w) ∧ rHm (w.1 1) (w.2 0) (tN w) M'))) (HV0 : ∀ M : zM, rC w M → zMet zi_X6_firstOf [.ref 45] (zLay n eb) M (zLay n eb) (zr (some (.int a1)) (fun M' => rC w M' ∧ rSm M M'))) (HV1 : ∀ M : zM, rC w M → zMet zi_X6_quietOf [.ref 45] (zLay n eb) M (zLay n eb) (zr (some (.int a2)) (fun M' => rC w M' ∧ rSm M M'))) (HV2 : ∀ M : zM, rC w M → zMet zi_X6_wellOf [.ref 45] (zLay n eb) M (zLay n eb) (zr (some (.int a3)) (fun M' => rC w M' ∧ rSm M M'))) (HV3 : ∀ M : zM, rC w M → zMet zi_X6_elbowOf [.ref 45, .int 0] (zLay n eb) M (zLay n eb) (zr (some (.int e0)) (fun M' => rC w M' ∧ rSm M M'))) (HV4 : ∀ M : zM, rC w M → zMet zi_X6_elbowOf [.ref 45, .int 1] (zLay n eb) M (zLay n eb) (zr (some (.int e1)) (fun M' => rC w M' ∧ rSm M M'))) (HV5 : ∀ M : zM, rC w M → zMet zi_X6_leastNow [.ref 45] (zLay n eb) M (zLay n eb) (zr (some (.int al)) (fun M' => rC w M' ∧ rSm M M'))) (HV6 : ∀ M : zM, rC w M → zMet zi_X6_patchOf [.ref 45, .int 0] (zLay n eb) M (zLay n eb) (zr (some (.int p0)) (fun M' => rC w M' ∧ rSm M M'))) (HV7 : ∀ M : zM, rC w M → zMet zi_X6_patchOf [.ref 45, .int 1] (zLay n eb) M (zLay n eb) (zr (some (.int p1)) (fun M' => rC w M' ∧ rSm M M'))) (HV8 : ∀ M : zM, rC w M → zMet zi_X6_neverNow [.ref 45] (zLay n eb) M (zLay n eb) (zr (some (.int an)) (fun M' => rC w M' ∧ rSm M M'))) (HS : ∀ M : zM, rC w M → ∀ j, j < 3 → zMet zi_X6_startsOf [.ref 45, .int (nI j)] (zLay n eb) M (zLay n eb) (zr (some (.int (f j))) (fun M' => rC w M' ∧ rSm M M'))) (HY0 : ∀ M : zM, rC w M → zMet zi_X6_yearOf [.ref 45, .int 7, .int 25, .int 0] (zLay n eb) M (zLay n eb) (zr (some (.int y0)) (fun M' => rC w M' ∧ rSm M M'))) (HY1 : ∀ M : zM, rC w M → zMet zi_X6_yearOf [.ref 45, .int 7, .int 25, .int 1] (zLay n eb) M (zLay n eb) (zr (some (.int y1)) (fun M' => rC w M' ∧ rSm M M'))) (M : zM) (hC : rC w M) : zMet zi_X6_digest [.ref 45] (zLay n eb) M (zLay n eb) (zr (some (.long (dTg (dF fh (dF ft (dg (dg (dL fc 17 8) f0) f1) 40) (tN w)) a1 a2 a3 e0 e1 al p0 p1 an f y0 y1))) (kr w M)) := by
  refine z_mr (zk_X6_digest _ _) rfl (Nat.le_of_ble_eq_true rfl) rfl (fun ret hret => ?_)
  have h8 := tN8 w
  have loop := z_lg (P := zp_X6_digest) (ret := ret) (pc := 6) (L := zLay n eb) (N := 8) (lo := fun q : Int64 × Int32 => [some (.ref 45), some (.long q.1), none, some (.int q.2), none]) (I := fun j q M' => kr w M M' ∧ q.1 = dL fc 17 j ∧ q.2 = nI j) (by
    rintro j ⟨b, x⟩ M' hj ⟨hK, hb, hx⟩ ih
    simp only at hb hx
    subst hb; subst hx
    refine z_go ?_
    refine z_bf (nI_ge (a := j) (b := 8) hj (by omega)) ?_
    refine z_cx (HC M' hK.1 j hj) (fun M2 h2 => ?_)
    exact ih (_, _) _ ⟨kr_tr hK h2, (dL_s fc 17 j).symm, nI_1 j⟩) (by
    rintro ⟨b, x⟩ M' ⟨hK, hb, hx⟩
    simp only at hb hx
    subst hx
    obtain ⟨b0, hb0⟩ : ∃ c, c = b := ⟨_, rfl⟩
    rw [← hb0]
    rw [hb] at hb0
    refine z_go ?_
    refine z_bt (nI_le (a := 8) (b := 8) (Nat.le_refl _) (by omega)) ?_
    refine z_go ?_
    refine z_cx (HF0 M' hK.1) (fun N1 r1 => ?_)
    show z_run (z_from 41 zp_X6_digest) (z_E zp_X6_digest ret) ret [some (.ref 45), some (.long (b0)), none, some (.int (nI 8)), none] [.int f0, .long (31 * b0)] (zLay n eb) N1
    refine z_cx (HF1 N1 (kr_tr hK r1).1) (fun N2 r2 => ?_)
    show z_run (z_from 54 zp_X6_digest) (z_E zp_X6_digest ret) ret [some (.ref 45), some (.long (dg b0 f0)), none, some (.int (nI 8)), none] [.int f1, .long (31 * dg b0 f0)] (zLay n eb) N2
    obtain ⟨T, hT⟩ : ∃ T, T = dg (dg b0 f0) f1 := ⟨_, rfl⟩
    have lp2 := z_lg (P := zp_X6_digest) (ret := ret) (pc := 59) (L := zLay n eb) (N := 40) (lo := fun q : Int64 × Int32 => [some (.ref 45), some (.long q.1), none, some (.int q.2), none]) (I := fun t q M' => (kr w M M' ∧ (1 ≤ t → M' 45 2 = nI (tN w) ∧ rHm (w.1 1) (w.2 0) (tN w) M')) ∧ q.1 = dF ft T t ∧ q.2 = nI t) (by
      rintro t ⟨b, x⟩ M' ht ⟨⟨hK, hD2⟩, hb, hx⟩ ih
      simp only at hb hx
      subst hb; subst hx
      obtain ⟨c, hc⟩ : ∃ c, c = dF ft T t := ⟨_, rfl⟩
      rw [← hc]
      refine z_go ?_
      refine z_bf (nI_ge (a := t) (b := 40) ht (by omega)) ?_
      refine z_cx (HE M' hK.1 t ht) (fun N5 r5 => ?_)
      have inn := z_lg (P := zp_X6_digest) (ret := ret) (pc := 81) (L := zLay n eb) (N := 4) (lo := fun q : Int64 × Int32 => [some (.ref 45), some (.long q.1), none, some (.int (nI t)), some (.int q.2)]) (I := fun j q M3 => (kr w M M3 ∧ (1 ≤ j → M3 45 2 = nI (tN w) ∧ rHm (w.1 1) (w.2 0) (tN w) M3)) ∧ q.1 = dL (fb t) (dg c (fe t)) j ∧ q.2 = nI j) (by
        rintro j ⟨b, x⟩ M3 hj ⟨⟨hKj, hDj⟩, hb, hx⟩ ihj
        simp only at hb hx
        subst hb; subst hx
        refine z_go ?_
        refine z_bf (nI_ge (a := j) (b := 4) hj (by omega)) ?_
        refine z_cx (HB M3 hKj.1 t ht j hj) (fun M2 h2 => ?_)
        exact ihj (_, _) _ ⟨⟨⟨h2.1, rSm_tr hKj.2 h2.2.1⟩, fun _ => ⟨h2.2.2.1, h2.2.2.2⟩⟩, (dL_s (fb t) (dg c (fe t)) j).symm, nI_1 j⟩) (by
        rintro ⟨b, x⟩ M3 ⟨⟨hKj, hDj⟩, hb, hx⟩
        simp only at hb hx
        subst hx
        rw [hc, ← hft] at hb
        refine z_go ?_
        refine z_bt (nI_le (a := 4) (b := 4) (Nat.le_refl _) (by omega)) ?_
        refine z_go ?_
        exact ih (_, _) _ ⟨⟨hKj, fun _ => hDj (by omega)⟩, hb.trans (dF_s ft T t).symm, nI_1 t⟩)
      exact inn 0 (_, _) _ (Nat.zero_le _) ⟨⟨kr_tr hK r5, fun q => absurd q (by omega)⟩, rfl, rfl⟩) (by
      rintro ⟨b, x⟩ M' ⟨⟨hK, hD2⟩, hb, hx⟩
      simp only at hb hx
      subst hx
      obtain ⟨b1, hb1⟩ : ∃ c, c = b := ⟨_, rfl⟩
      rw [← hb1]
      rw [hb] at hb1
      obtain ⟨hn2, hm⟩ := hD2 (by omega)
      refine z_go ?_
      refine z_bt (nI_le (a := 40) (b := 40) (Nat.le_refl _) (by omega)) ?_
      refine z_go ?_
      have lp3 := z_lg (P := zp_X6_digest) (ret := ret) (pc := 116) (L := zLay n eb) (N := tN w) (lo := fun q : Int64 × Int32 => [some (.ref 45), some (.long q.1), none, some (.int q.2), none]) (I := fun j q M' => (kr w M M' ∧ M' 45 2 = nI (tN w) ∧ rHm (w.1 1) (w.2 0) (tN w) M') ∧ q.1 = dF fh b1 j ∧ q.2 = nI j) (by
        rintro j ⟨b, x⟩ M' hj ⟨⟨hK, hn2, hm⟩, hb, hx⟩ ih
        simp only at hb hx
        subst hb; subst hx
        refine z_go ?_
        refine z_bf (by show ¬ M' 45 2 ≤ nI j; rw [hn2]; exact nI_ge hj (by omega)) ?_
        refine z_cx (HH M' hK.1 hm _ j hj) (fun M2 h2 => ?_)
        exact ih (_, _) _ ⟨⟨⟨h2.1, rSm_tr hK.2 h2.2.1⟩, h2.2.2.1, h2.2.2.2⟩, (dF_s fh b1 j).symm, nI_1 j⟩) (by
        rintro ⟨b, x⟩ M' ⟨⟨hK, hn2, hm⟩, hb, hx⟩
        simp only at hb hx
        subst hx
        obtain ⟨b2, hb2⟩ : ∃ c, c = b := ⟨_, rfl⟩
        rw [← hb2]
        rw [hb] at hb2
        refine z_go ?_
        refine z_bt (by show M' 45 2 ≤ nI (tN w); rw [hn2]; exact nI_le (Nat.le_refl _) (by omega)) ?_
        refine z_go ?_
        refine z_cx (HV0 M' hK.1) (fun N0 v0 => ?_)
        have k0 := kr_tr hK v0
        show z_run (z_from 146 zp_X6_digest) (z_E zp_X6_digest ret) ret [some (.ref 45), some (.long (b2)), none, some (.int (nI (tN w))), none] [.int a1, .long (31 * (b2))] (zLay n eb) N0
        refine z_cx (HV1 N0 k0.1) (fun N1 v1 => ?_)
        have k1 := kr_tr k0 v1
        show z_run (z_from 158 zp_X6_digest) (z_E zp_X6_digest ret) ret [some (.ref 45), some (.long (dg (b2) a1)), none, some (.int (nI (tN w))), none] [.int a2, .long (31 * (dg (b2) a1))] (zLay n eb) N1
        refine z_cx (HV2 N1 k1.1) (fun N2 v2 => ?_)
        have k2 := kr_tr k1 v2
        show z_run (z_from 170 zp_X6_digest) (z_E zp_X6_digest ret) ret [some (.ref 45), some (.long (dg (dg (b2) a1) a2)), none, some (.int (nI (tN w))), none] [.int a3, .long (31 * (dg (dg (b2) a1) a2))] (zLay n eb) N2
        refine z_cx (HV3 N2 k2.1) (fun N3 v3 => ?_)
        have k3 := kr_tr k2 v3
        show z_run (z_from 183 zp_X6_digest) (z_E zp_X6_digest ret) ret [some (.ref 45), some (.long (dg (dg (dg (b2) a1) a2) a3)), none, some (.int (nI (tN w))), none] [.int e0, .long (31 * (dg (dg (dg (b2) a1) a2) a3))] (zLay n eb) N3
        refine z_cx (HV4 N3 k3.1) (fun N4 v4 => ?_)
        have k4 := kr_tr k3 v4
        show z_run (z_from 196 zp_X6_digest) (z_E zp_X6_digest ret) ret [some (.ref 45), some (.long (dg (dg (dg (dg (b2) a1) a2) a3) e0)), none, some (.int (nI (tN w))), none] [.int e1, .long (31 * (dg (dg (dg (dg (b2) a1) a2) a3) e0))] (zLay n eb) N4
        refine z_cx (HV5 N4 k4.1) (fun N5 v5 => ?_)
        have k5 := kr_tr k4 v5
        show z_run (z_from 208 zp_X6_digest) (z_E zp_X6_digest ret) ret [some (.ref 45), some (.long (dg (dg (dg (dg (dg (b2) a1) a2) a3) e0) e1)), none, some (.int (nI (tN w))), none] [.int al, .long (31 * (dg (dg (dg (dg (dg (b2) a1) a2) a3) e0) e1))] (zLay n eb) N5
        refine z_cx (HV6 N5 k5.1) (fun N6 v6 => ?_)
        have k6 := kr_tr k5 v6
        show z_run (z_from 221 zp_X6_digest) (z_E zp_X6_digest ret) ret [some (.ref 45), some (.long (dg (dg (dg (dg (dg (dg (b2) a1) a2) a3) e0) e1) al)), none, some (.int (nI (tN w))), none] [.int p0, .long (31 * (dg (dg (dg (dg (dg (dg (b2) a1) a2) a3) e0) e1) al))] (zLay n eb) N6
        refine z_cx (HV7 N6 k6.1) (fun N7 v7 => ?_)
        have k7 := kr_tr k6 v7
        show z_run (z_from 234 zp_X6_digest) (z_E zp_X6_digest ret) ret [some (.ref 45), some (.long (dg (dg (dg (dg (dg (dg (dg (b2) a1) a2) a3) e0) e1) al) p0)), none, some (.int (nI (tN w))), none] [.int p1, .long (31 * (dg (dg (dg (dg (dg (dg (dg (b2) a1) a2) a3) e0) e1) al) p0))] (zLay n eb) N7
        refine z_cx (HV8 N7 k7.1) (fun N8 v8 => ?_)
        have k8 := kr_tr k7 v8
        show z_run (z_from 246 zp_X6_digest) (z_E zp_X6_digest ret) ret [some (.ref 45), some (.long (dg (dg (dg (dg (dg (dg (dg (dg (b2) a1) a2) a3) e0) e1) al) p0) p1)), none, some (.int (nI (tN w))), none] [.int an, .long (31 * (dg (dg (dg (dg (dg (dg (dg (dg (b2) a1) a2) a3) e0) e1) al) p0) p1))] (zLay n eb) N8
        obtain ⟨b3, hb3⟩ : ∃ c, c = dg (dg (dg (dg (dg (dg (dg (dg (dg (b2) a1) a2) a3) e0) e1) al) p0) p1) an := ⟨_, rfl⟩
        have lp4 := z_lg (P := zp_X6_digest) (ret := ret) (pc := 251) (L := zLay n eb) (N := 3) (lo := fun q : Int64 × Int32 => [some (.ref 45), some (.long q.1), none, some (.int q.2), none]) (I := fun j q M' => kr w M M' ∧ q.1 = dL f b3 j ∧ q.2 = nI j) (by
          rintro j ⟨b, x⟩ M' hj ⟨hK, hb, hx⟩ ih
          simp only at hb hx
          subst hb; subst hx
          refine z_go ?_
          refine z_bf (nI_ge (a := j) (b := 3) hj (by omega)) ?_
          refine z_cx (HS M' hK.1 j hj) (fun M2 h2 => ?_)
          exact ih (_, _) _ ⟨kr_tr hK h2, (dL_s f b3 j).symm, nI_1 j⟩) (by
          rintro ⟨b, x⟩ M' ⟨hK, hb, hx⟩
          simp only at hb hx
          subst hx
          obtain ⟨b4, hb4⟩ : ∃ c, c = b := ⟨_, rfl⟩
          rw [← hb4]
          rw [hb] at hb4
          refine z_go ?_
          refine z_bt (nI_le (a := 3) (b := 3) (Nat.le_refl _) (by omega)) ?_
          refine z_go ?_
          refine z_cx (HY0 M' hK.1) (fun Y0 r8 => ?_)
          have k9 := kr_tr hK r8
          show z_run (z_from 289 zp_X6_digest) (z_E zp_X6_digest ret) ret [some (.ref 45), some (.long (b4)), none, some (.int (nI 3)), none] [.int y0, .long (31 * b4)] (zLay n eb) Y0
          refine z_cx (HY1 Y0 k9.1) (fun Y1 r9 => ?_)
          show z_run (z_from 306 zp_X6_digest) (z_E zp_X6_digest ret) ret [some (.ref 45), some (.long (dg b4 y0)), none, some (.int (nI 3)), none] [.int y1, .long (31 * dg b4 y0)] (zLay n eb) Y1
          refine z_rq hret (z_vl ?_) (kr_tr k9 r9)
          rw [dTg, ← hb0, ← hT, ← hb1, ← hb2, ← hb3, ← hb4]; rfl)
        exact lp4 0 (_, _) _ (Nat.zero_le _) ⟨k8, hb3.symm, rfl⟩)
      exact lp3 0 (_, _) _ (Nat.zero_le _) ⟨⟨hK, hn2, hm⟩, rfl, rfl⟩)
    exact lp2 0 (_, _) _ (Nat.zero_le _) ⟨⟨kr_tr (kr_tr hK r1) r2, fun q => absurd q (by omega)⟩, hT.symm, rfl⟩)
  exact loop 0 (_, _) _ (Nat.zero_le _) ⟨kr_rf hC, rfl, rfl⟩
theorem dTown_r (w : Rw) (h : Int64) : dTg h (aFirst w) (aQuiet w) (aWell w) (aElbow w (nI 0)) (aElbow w (nI 1)) (aLeast w) (aPatch w (nI 0)) (aPatch w (nI 1)) (aNever w) (fun j => aStarts w (nI j)) (aYearN w 7 25 0) (aYearN w 7 25 1) = dTown w h := by
  rw [dTown, dTw1, dTg]
theorem aFault_0 (w : Rw) : (if (nI 0 : Int32) = 0 then (pRes (w.1 1) (w.2 0)).1 else eFt (w.1 2) (w.2 1)) = aFault w (nI 0) := by
  unfold aFault
  rw [if_pos (show (0 : Int32) ≤ nI 0 ∧ nI 0 ≤ 1 by decide)]
theorem aFault_1 (w : Rw) : (if (nI 1 : Int32) = 0 then (pRes (w.1 1) (w.2 0)).1 else eFt (w.1 2) (w.2 1)) = aFault w (nI 1) := by
  unfold aFault
  rw [if_pos (show (0 : Int32) ≤ nI 1 ∧ nI 1 ≤ 1 by decide)]
theorem e6_digest (n eb : Nat) (M : zM) (w : Rw) (hC : rC w M) (hB : wb2 w) : zMet zi_X6_digest [.ref 45] (zLay n eb) M (zLay n eb) (zr (some (.long (aDigest w))) (fun M' => rC w M' ∧ rSm M M')) := by
  have e : dTg (dF (dHouse w) (dF (dHour w) (dg (dg (dL (fun j => aCount w (nI j)) 17 8) (aFault w (nI 0))) (aFault w (nI 1))) 40) (tN w)) (aFirst w) (aQuiet w) (aWell w) (aElbow w (nI 0)) (aElbow w (nI 1)) (aLeast w) (aPatch w (nI 0)) (aPatch w (nI 1)) (aNever w) (fun j => aStarts w (nI j)) (aYearN w 7 25 0) (aYearN w 7 25 1) = aDigest w := by
    rw [dTown_r, aDigest, dTop]
  rw [← e]
  exact g6_dg n eb w (fun j => aCount w (nI j)) (aFault w (nI 0)) (aFault w (nI 1)) (fun t => aElbows w (nI t)) (fun t j => aBag w (nI t) (nI j)) (dHour w) (dHouse w) (aFirst w) (aQuiet w) (aWell w) (aElbow w (nI 0)) (aElbow w (nI 1)) (aLeast w) (aPatch w (nI 0)) (aPatch w (nI 1)) (aNever w) (aYearN w 7 25 0) (aYearN w 7 25 1) (fun j => aStarts w (nI j)) (by intro t h; rfl)
    (fun M hC j _ => e6_count n eb M w hC (nI j)) (fun M hC => zMet_imp (zMet_v _ (d6_faultOf n eb M w hC (nI 0)) (aFault_0 w)) (fun M' q => ⟨q.1, q.2.1⟩)) (fun M hC => zMet_imp (zMet_v _ (d6_faultOf n eb M w hC (nI 1)) (aFault_1 w)) (fun M' q => ⟨q.1, q.2.1⟩)) (fun M hC t ht => d6_elbowsOf n eb M w hC t ht) (fun M hC t ht j hj => g6_bagOf n eb M w hC t ht j hj) (fun M hC hm h k hk => g6_houseDigest n eb M w hC hB hm h k hk)
    (fun M hC => d6_firstOf n eb M w hC) (fun M hC => d6_quietOf n eb M w hC) (fun M hC => d6_wellOf n eb M w hC) (fun M hC => d6_elbowOf0 n eb M w hC) (fun M hC => d6_elbowOf1 n eb M w hC) (fun M hC => d6_leastNow n eb M w hC) (fun M hC => d6_patchOf0 n eb M w hC) (fun M hC => d6_patchOf1 n eb M w hC) (fun M hC => d6_neverNow n eb M w hC)
    (fun M hC j hj => g6_startsOf n eb M w hC j hj) (fun M hC => d6_yearOf0 n eb M w hC 7 25 (by omega)) (fun M hC => d6_yearOf1 n eb M w hC 7 25 (by omega)) M hC
