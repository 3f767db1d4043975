/-! the law: its cases -/
set_option maxRecDepth 20000 in
set_option maxHeartbeats 2000000 in
theorem lw_c_0 {n kc ks k : Nat} {ret : zR} {M' : zM} {w : Rw} {f0 f1 : Nat → Int32} (hn : n ≤ 3072) (hk : 6 * k + 6 ≤ n) (hI : cI w M') (hC : rC w M') (hB : wb2 w) (e0 : M' 0 = f0) (e1 : M' 1 = f1) (hD : ∀ i, i < 4 → f1 i = nI (hrs i)) (es : M' 0 (nI (6 * k)).toNatClampNeg &&& 63 = nI 0) (ih : ∀ x M2, lwI f0 f1 (k + 1) x M2 → z_E (zp_L_law kc ks) ret 18 [some (.ref 0), some (.ref 2), some (.ref 45), some (.int x)] [] (zLay n 15) M2) : z_run (z_from 18 (zp_L_law kc ks)) (z_E (zp_L_law kc ks) ret) ret [some (.ref 0), some (.ref 2), some (.ref 45), some (.int (nI (6 * k)))] [] (zLay n 15) M' := by
  refine z_bf (lw_go hk hn) ?_
  refine And.intro (z_inN0 (by omega) (by omega)) ?_
  refine z_swi (k := 0) (t := 196) rfl (by show (M' 0 (nI (6 * k)).toNatClampNeg &&& 63).toInt = _; rw [es]; decide) ?_
  refine z_go ?_
  refine And.intro (lw_ix (j := 1) (by omega) hn) ?_
  refine And.intro (lw_ix (j := 2) (by omega) hn) ?_
  refine z_cx (zMet_fz (e5_type n M' w hI _ _)) (fun M1 r1 => ?_)
  have k1 := rC_ge hC r1.1.2
  refine And.intro (lw_ix (j := 1) (by omega) hn) ?_
  refine And.intro (lw_ix (j := 2) (by omega) hn) ?_
  refine z_cx (zMet_fz (e6_type n 15 M1 w k1 _ _)) (fun M2 r2 => ?_)
  rw [r1.2.1] at r2
  refine z_bt (congrArg (fun g : Nat → Int32 => (stType w (g (nI (6 * k) + 1).toNatClampNeg) (g (nI (6 * k) + 2).toNatClampNeg)).1) r1.2.1.symm) ?_
  refine z_go ?_
  exact ih _ _ ⟨(stType w (M' 0 (nI (6 * k) + 1).toNatClampNeg) (M' 0 (nI (6 * k) + 2).toNatClampNeg)).2, cI_lt r1.1.1 (fun p hp => r2.1.2 p hp), r2.1.1, wb_type hB, (r2.2.1).trans e0, (r2.2.2.trans r1.2.2).trans e1, nI_add (6 * k) 6⟩
set_option maxRecDepth 20000 in
set_option maxHeartbeats 2000000 in
theorem lw_c_1 {n kc ks k : Nat} {ret : zR} {M' : zM} {w : Rw} {f0 f1 : Nat → Int32} (hn : n ≤ 3072) (hk : 6 * k + 6 ≤ n) (hI : cI w M') (hC : rC w M') (hB : wb2 w) (e0 : M' 0 = f0) (e1 : M' 1 = f1) (hD : ∀ i, i < 4 → f1 i = nI (hrs i)) (es : M' 0 (nI (6 * k)).toNatClampNeg &&& 63 = nI 1) (ih : ∀ x M2, lwI f0 f1 (k + 1) x M2 → z_E (zp_L_law kc ks) ret 18 [some (.ref 0), some (.ref 2), some (.ref 45), some (.int x)] [] (zLay n 15) M2) : z_run (z_from 18 (zp_L_law kc ks)) (z_E (zp_L_law kc ks) ret) ret [some (.ref 0), some (.ref 2), some (.ref 45), some (.int (nI (6 * k)))] [] (zLay n 15) M' := by
  refine z_bf (lw_go hk hn) ?_
  refine And.intro (z_inN0 (by omega) (by omega)) ?_
  refine z_swi (k := 1) (t := 229) rfl (by show (M' 0 (nI (6 * k)).toNatClampNeg &&& 63).toInt = _; rw [es]; decide) ?_
  refine z_go ?_
  refine And.intro (lw_ix (j := 1) (by omega) hn) ?_
  refine z_cx (zMet_fz (e5_wipe n M' w hI _)) (fun M1 r1 => ?_)
  have k1 := rC_ge hC r1.1.2
  refine And.intro (lw_ix (j := 1) (by omega) hn) ?_
  refine z_cx (zMet_fz (e6_wipe n 15 M1 w k1 _)) (fun M2 r2 => ?_)
  rw [r1.2.1] at r2
  refine z_bt (congrArg (fun g : Nat → Int32 => (stWipe w (g (nI (6 * k) + 1).toNatClampNeg)).1) r1.2.1.symm) ?_
  refine z_go ?_
  exact ih _ _ ⟨(stWipe w (M' 0 (nI (6 * k) + 1).toNatClampNeg)).2, cI_lt r1.1.1 (fun p hp => r2.1.2 p hp), r2.1.1, wb_wipe hB, (r2.2.1).trans e0, (r2.2.2.trans r1.2.2).trans e1, nI_add (6 * k) 6⟩
set_option maxRecDepth 20000 in
set_option maxHeartbeats 2000000 in
theorem lw_c_2 {n kc ks k : Nat} {ret : zR} {M' : zM} {w : Rw} {f0 f1 : Nat → Int32} (hn : n ≤ 3072) (hk : 6 * k + 6 ≤ n) (hI : cI w M') (hC : rC w M') (hB : wb2 w) (e0 : M' 0 = f0) (e1 : M' 1 = f1) (hD : ∀ i, i < 4 → f1 i = nI (hrs i)) (es : M' 0 (nI (6 * k)).toNatClampNeg &&& 63 = nI 2) (ih : ∀ x M2, lwI f0 f1 (k + 1) x M2 → z_E (zp_L_law kc ks) ret 18 [some (.ref 0), some (.ref 2), some (.ref 45), some (.int x)] [] (zLay n 15) M2) : z_run (z_from 18 (zp_L_law kc ks)) (z_E (zp_L_law kc ks) ret) ret [some (.ref 0), some (.ref 2), some (.ref 45), some (.int (nI (6 * k)))] [] (zLay n 15) M' := by
  refine z_bf (lw_go hk hn) ?_
  refine And.intro (z_inN0 (by omega) (by omega)) ?_
  refine z_swi (k := 2) (t := 252) rfl (by show (M' 0 (nI (6 * k)).toNatClampNeg &&& 63).toInt = _; rw [es]; decide) ?_
  refine z_go ?_
  refine And.intro (lw_ix (j := 1) (by omega) hn) ?_
  refine z_cx (zMet_fz (e5_undo n M' w hI _)) (fun M1 r1 => ?_)
  have k1 := rC_ge hC r1.1.2
  refine And.intro (lw_ix (j := 1) (by omega) hn) ?_
  refine z_cx (zMet_fz (e6_undo n 15 M1 w k1 _)) (fun M2 r2 => ?_)
  rw [r1.2.1] at r2
  refine z_bt (congrArg (fun g : Nat → Int32 => (stUndo w (g (nI (6 * k) + 1).toNatClampNeg)).1) r1.2.1.symm) ?_
  refine z_go ?_
  exact ih _ _ ⟨(stUndo w (M' 0 (nI (6 * k) + 1).toNatClampNeg)).2, cI_lt r1.1.1 (fun p hp => r2.1.2 p hp), r2.1.1, wb_undo hB, (r2.2.1).trans e0, (r2.2.2.trans r1.2.2).trans e1, nI_add (6 * k) 6⟩
set_option maxRecDepth 20000 in
set_option maxHeartbeats 2000000 in
theorem lw_c_3 {n kc ks k : Nat} {ret : zR} {M' : zM} {w : Rw} {f0 f1 : Nat → Int32} (hn : n ≤ 3072) (hk : 6 * k + 6 ≤ n) (hI : cI w M') (hC : rC w M') (hB : wb2 w) (e0 : M' 0 = f0) (e1 : M' 1 = f1) (hD : ∀ i, i < 4 → f1 i = nI (hrs i)) (es : M' 0 (nI (6 * k)).toNatClampNeg &&& 63 = nI 3) (ih : ∀ x M2, lwI f0 f1 (k + 1) x M2 → z_E (zp_L_law kc ks) ret 18 [some (.ref 0), some (.ref 2), some (.ref 45), some (.int x)] [] (zLay n 15) M2) : z_run (z_from 18 (zp_L_law kc ks)) (z_E (zp_L_law kc ks) ret) ret [some (.ref 0), some (.ref 2), some (.ref 45), some (.int (nI (6 * k)))] [] (zLay n 15) M' := by
  refine z_bf (lw_go hk hn) ?_
  refine And.intro (z_inN0 (by omega) (by omega)) ?_
  refine z_swi (k := 3) (t := 275) rfl (by show (M' 0 (nI (6 * k)).toNatClampNeg &&& 63).toInt = _; rw [es]; decide) ?_
  refine z_go ?_
  refine And.intro (lw_ix (j := 1) (by omega) hn) ?_
  refine z_cx (zMet_fz (e5_fault n M' w hI _)) (fun M1 r1 => ?_)
  have k1 := rC_ge hC r1.1.2
  refine And.intro (lw_ix (j := 1) (by omega) hn) ?_
  refine z_cx (zMet_fz (e6_fault n 15 M1 w k1 _)) (fun M2 r2 => ?_)
  refine z_bt (congrArg (fun g : Nat → Int32 => aFault w (g (nI (6 * k) + 1).toNatClampNeg)) r1.2.1.symm) ?_
  refine z_go ?_
  exact ih _ _ ⟨w, cI_lt r1.1.1 (fun p hp => r2.1.2.1 p (Or.inl hp)), r2.1.1, hB, (r2.2.1.trans r1.2.1).trans e0, (r2.2.2.trans r1.2.2).trans e1, nI_add (6 * k) 6⟩
set_option maxRecDepth 20000 in
set_option maxHeartbeats 2000000 in
theorem lw_c_4 {n kc ks k : Nat} {ret : zR} {M' : zM} {w : Rw} {f0 f1 : Nat → Int32} (hn : n ≤ 3072) (hk : 6 * k + 6 ≤ n) (hI : cI w M') (hC : rC w M') (hB : wb2 w) (e0 : M' 0 = f0) (e1 : M' 1 = f1) (hD : ∀ i, i < 4 → f1 i = nI (hrs i)) (es : M' 0 (nI (6 * k)).toNatClampNeg &&& 63 = nI 4) (ih : ∀ x M2, lwI f0 f1 (k + 1) x M2 → z_E (zp_L_law kc ks) ret 18 [some (.ref 0), some (.ref 2), some (.ref 45), some (.int x)] [] (zLay n 15) M2) : z_run (z_from 18 (zp_L_law kc ks)) (z_E (zp_L_law kc ks) ret) ret [some (.ref 0), some (.ref 2), some (.ref 45), some (.int (nI (6 * k)))] [] (zLay n 15) M' := by
  refine z_bf (lw_go hk hn) ?_
  refine And.intro (z_inN0 (by omega) (by omega)) ?_
  refine z_swi (k := 4) (t := 298) rfl (by show (M' 0 (nI (6 * k)).toNatClampNeg &&& 63).toInt = _; rw [es]; decide) ?_
  refine z_go ?_
  refine And.intro (lw_ix (j := 1) (by omega) hn) ?_
  refine And.intro (lw_ix (j := 2) (by omega) hn) ?_
  refine z_cx (zMet_fz (e5_house n M' w hI _ _)) (fun M1 r1 => ?_)
  have k1 := rC_ge hC r1.1.2
  refine And.intro (lw_ix (j := 1) (by omega) hn) ?_
  refine And.intro (lw_ix (j := 2) (by omega) hn) ?_
  refine z_cx (zMet_fz (e6_house n 15 M1 w k1 _ _)) (fun M2 r2 => ?_)
  refine z_bt (congrArg (fun g : Nat → Int32 => aHouse w (g (nI (6 * k) + 1).toNatClampNeg) (g (nI (6 * k) + 2).toNatClampNeg)) r1.2.1.symm) ?_
  refine z_go ?_
  exact ih _ _ ⟨w, cI_lt r1.1.1 (fun p hp => r2.1.2.1 p (Or.inl hp)), r2.1.1, hB, (r2.2.1.trans r1.2.1).trans e0, (r2.2.2.trans r1.2.2).trans e1, nI_add (6 * k) 6⟩
set_option maxRecDepth 20000 in
set_option maxHeartbeats 2000000 in
theorem lw_c_5 {n kc ks k : Nat} {ret : zR} {M' : zM} {w : Rw} {f0 f1 : Nat → Int32} (hn : n ≤ 3072) (hk : 6 * k + 6 ≤ n) (hI : cI w M') (hC : rC w M') (hB : wb2 w) (e0 : M' 0 = f0) (e1 : M' 1 = f1) (hD : ∀ i, i < 4 → f1 i = nI (hrs i)) (es : M' 0 (nI (6 * k)).toNatClampNeg &&& 63 = nI 5) (ih : ∀ x M2, lwI f0 f1 (k + 1) x M2 → z_E (zp_L_law kc ks) ret 18 [some (.ref 0), some (.ref 2), some (.ref 45), some (.int x)] [] (zLay n 15) M2) : z_run (z_from 18 (zp_L_law kc ks)) (z_E (zp_L_law kc ks) ret) ret [some (.ref 0), some (.ref 2), some (.ref 45), some (.int (nI (6 * k)))] [] (zLay n 15) M' := by
  refine z_bf (lw_go hk hn) ?_
  refine And.intro (z_inN0 (by omega) (by omega)) ?_
  refine z_swi (k := 5) (t := 331) rfl (by show (M' 0 (nI (6 * k)).toNatClampNeg &&& 63).toInt = _; rw [es]; decide) ?_
  refine z_go ?_
  refine And.intro (lw_ix (j := 1) (by omega) hn) ?_
  refine z_cx (zMet_fz (e5_elbows n M' w hI _)) (fun M1 r1 => ?_)
  have k1 := rC_ge hC r1.1.2
  refine And.intro (lw_ix (j := 1) (by omega) hn) ?_
  refine z_cx (zMet_fz (e6_elbows n 15 M1 w k1 _)) (fun M2 r2 => ?_)
  refine z_bt (congrArg (fun g : Nat → Int32 => aElbows w (g (nI (6 * k) + 1).toNatClampNeg)) r1.2.1.symm) ?_
  refine z_go ?_
  exact ih _ _ ⟨w, cI_lt r1.1.1 (fun p hp => r2.1.2.1 p (Or.inl hp)), r2.1.1, hB, (r2.2.1.trans r1.2.1).trans e0, (r2.2.2.trans r1.2.2).trans e1, nI_add (6 * k) 6⟩
set_option maxRecDepth 20000 in
set_option maxHeartbeats 2000000 in
theorem lw_c_6 {n kc ks k : Nat} {ret : zR} {M' : zM} {w : Rw} {f0 f1 : Nat → Int32} (hn : n ≤ 3072) (hk : 6 * k + 6 ≤ n) (hI : cI w M') (hC : rC w M') (hB : wb2 w) (e0 : M' 0 = f0) (e1 : M' 1 = f1) (hD : ∀ i, i < 4 → f1 i = nI (hrs i)) (es : M' 0 (nI (6 * k)).toNatClampNeg &&& 63 = nI 6) (ih : ∀ x M2, lwI f0 f1 (k + 1) x M2 → z_E (zp_L_law kc ks) ret 18 [some (.ref 0), some (.ref 2), some (.ref 45), some (.int x)] [] (zLay n 15) M2) : z_run (z_from 18 (zp_L_law kc ks)) (z_E (zp_L_law kc ks) ret) ret [some (.ref 0), some (.ref 2), some (.ref 45), some (.int (nI (6 * k)))] [] (zLay n 15) M' := by
  refine z_bf (lw_go hk hn) ?_
  refine And.intro (z_inN0 (by omega) (by omega)) ?_
  refine z_swi (k := 6) (t := 354) rfl (by show (M' 0 (nI (6 * k)).toNatClampNeg &&& 63).toInt = _; rw [es]; decide) ?_
  refine z_go ?_
  refine And.intro (lw_ix (j := 1) (by omega) hn) ?_
  refine And.intro (lw_ix (j := 2) (by omega) hn) ?_
  refine z_cx (zMet_fz (e5_set n M' w hI _ _)) (fun M1 r1 => ?_)
  have k1 := rC_ge hC r1.1.2
  refine And.intro (lw_ix (j := 1) (by omega) hn) ?_
  refine And.intro (lw_ix (j := 2) (by omega) hn) ?_
  refine z_cx (zMet_fz (e6_set n 15 M1 w k1 _ _)) (fun M2 r2 => ?_)
  rw [r1.2.1] at r2
  refine z_bt (congrArg (fun g : Nat → Int32 => (stSet w (g (nI (6 * k) + 1).toNatClampNeg) (g (nI (6 * k) + 2).toNatClampNeg)).1) r1.2.1.symm) ?_
  refine z_go ?_
  exact ih _ _ ⟨(stSet w (M' 0 (nI (6 * k) + 1).toNatClampNeg) (M' 0 (nI (6 * k) + 2).toNatClampNeg)).2, cI_lt r1.1.1 (fun p hp => r2.1.2 p hp), r2.1.1, wb_set hB, (r2.2.1).trans e0, (r2.2.2.trans r1.2.2).trans e1, nI_add (6 * k) 6⟩
set_option maxRecDepth 20000 in
set_option maxHeartbeats 2000000 in
theorem lw_c_7 {n kc ks k : Nat} {ret : zR} {M' : zM} {w : Rw} {f0 f1 : Nat → Int32} (hn : n ≤ 3072) (hk : 6 * k + 6 ≤ n) (hI : cI w M') (hC : rC w M') (hB : wb2 w) (e0 : M' 0 = f0) (e1 : M' 1 = f1) (hD : ∀ i, i < 4 → f1 i = nI (hrs i)) (es : M' 0 (nI (6 * k)).toNatClampNeg &&& 63 = nI 7) (ih : ∀ x M2, lwI f0 f1 (k + 1) x M2 → z_E (zp_L_law kc ks) ret 18 [some (.ref 0), some (.ref 2), some (.ref 45), some (.int x)] [] (zLay n 15) M2) : z_run (z_from 18 (zp_L_law kc ks)) (z_E (zp_L_law kc ks) ret) ret [some (.ref 0), some (.ref 2), some (.ref 45), some (.int (nI (6 * k)))] [] (zLay n 15) M' := by
  refine z_bf (lw_go hk hn) ?_
  refine And.intro (z_inN0 (by omega) (by omega)) ?_
  refine z_swi (k := 7) (t := 387) rfl (by show (M' 0 (nI (6 * k)).toNatClampNeg &&& 63).toInt = _; rw [es]; decide) ?_
  refine z_go ?_
  refine And.intro (lw_ix (j := 1) (by omega) hn) ?_
  refine And.intro (lw_ix (j := 2) (by omega) hn) ?_
  refine And.intro (lw_ix (j := 3) (by omega) hn) ?_
  refine z_cx (zMet_fz (e5_leak n M' w hI _ _ _)) (fun M1 r1 => ?_)
  have k1 := rC_ge hC r1.1.2
  refine And.intro (lw_ix (j := 1) (by omega) hn) ?_
  refine And.intro (lw_ix (j := 2) (by omega) hn) ?_
  refine And.intro (lw_ix (j := 3) (by omega) hn) ?_
  refine z_cx (zMet_fz (e6_leak n 15 M1 w k1 _ _ _)) (fun M2 r2 => ?_)
  rw [r1.2.1] at r2
  refine z_bt (congrArg (fun g : Nat → Int32 => (stLeak w (g (nI (6 * k) + 1).toNatClampNeg) (g (nI (6 * k) + 2).toNatClampNeg) (g (nI (6 * k) + 3).toNatClampNeg)).1) r1.2.1.symm) ?_
  refine z_go ?_
  exact ih _ _ ⟨(stLeak w (M' 0 (nI (6 * k) + 1).toNatClampNeg) (M' 0 (nI (6 * k) + 2).toNatClampNeg) (M' 0 (nI (6 * k) + 3).toNatClampNeg)).2, cI_lt r1.1.1 (fun p hp => r2.1.2 p hp), r2.1.1, wb_leak hB, (r2.2.1).trans e0, (r2.2.2.trans r1.2.2).trans e1, nI_add (6 * k) 6⟩
set_option maxRecDepth 20000 in
set_option maxHeartbeats 2000000 in
theorem lw_c_8 {n kc ks k : Nat} {ret : zR} {M' : zM} {w : Rw} {f0 f1 : Nat → Int32} (hn : n ≤ 3072) (hk : 6 * k + 6 ≤ n) (hI : cI w M') (hC : rC w M') (hB : wb2 w) (e0 : M' 0 = f0) (e1 : M' 1 = f1) (hD : ∀ i, i < 4 → f1 i = nI (hrs i)) (es : M' 0 (nI (6 * k)).toNatClampNeg &&& 63 = nI 8) (ih : ∀ x M2, lwI f0 f1 (k + 1) x M2 → z_E (zp_L_law kc ks) ret 18 [some (.ref 0), some (.ref 2), some (.ref 45), some (.int x)] [] (zLay n 15) M2) : z_run (z_from 18 (zp_L_law kc ks)) (z_E (zp_L_law kc ks) ret) ret [some (.ref 0), some (.ref 2), some (.ref 45), some (.int (nI (6 * k)))] [] (zLay n 15) M' := by
  refine z_bf (lw_go hk hn) ?_
  refine And.intro (z_inN0 (by omega) (by omega)) ?_
  refine z_swi (k := 8) (t := 430) rfl (by show (M' 0 (nI (6 * k)).toNatClampNeg &&& 63).toInt = _; rw [es]; decide) ?_
  refine z_go ?_
  refine And.intro (lw_ix (j := 1) (by omega) hn) ?_
  refine And.intro (lw_ix (j := 2) (by omega) hn) ?_
  refine z_cx (zMet_fz (e5_pinch n M' w hI _ _)) (fun M1 r1 => ?_)
  have k1 := rC_ge hC r1.1.2
  refine And.intro (lw_ix (j := 1) (by omega) hn) ?_
  refine And.intro (lw_ix (j := 2) (by omega) hn) ?_
  refine z_cx (zMet_fz (e6_pinch n 15 M1 w k1 _ _)) (fun M2 r2 => ?_)
  rw [r1.2.1] at r2
  refine z_bt (congrArg (fun g : Nat → Int32 => (stPinch w (g (nI (6 * k) + 1).toNatClampNeg) (g (nI (6 * k) + 2).toNatClampNeg)).1) r1.2.1.symm) ?_
  refine z_go ?_
  exact ih _ _ ⟨(stPinch w (M' 0 (nI (6 * k) + 1).toNatClampNeg) (M' 0 (nI (6 * k) + 2).toNatClampNeg)).2, cI_lt r1.1.1 (fun p hp => r2.1.2 p hp), r2.1.1, wb_pinch hB, (r2.2.1).trans e0, (r2.2.2.trans r1.2.2).trans e1, nI_add (6 * k) 6⟩
set_option maxRecDepth 20000 in
set_option maxHeartbeats 2000000 in
theorem lw_c_9 {n kc ks k : Nat} {ret : zR} {M' : zM} {w : Rw} {f0 f1 : Nat → Int32} (hn : n ≤ 3072) (hk : 6 * k + 6 ≤ n) (hI : cI w M') (hC : rC w M') (hB : wb2 w) (e0 : M' 0 = f0) (e1 : M' 1 = f1) (hD : ∀ i, i < 4 → f1 i = nI (hrs i)) (es : M' 0 (nI (6 * k)).toNatClampNeg &&& 63 = nI 9) (ih : ∀ x M2, lwI f0 f1 (k + 1) x M2 → z_E (zp_L_law kc ks) ret 18 [some (.ref 0), some (.ref 2), some (.ref 45), some (.int x)] [] (zLay n 15) M2) : z_run (z_from 18 (zp_L_law kc ks)) (z_E (zp_L_law kc ks) ret) ret [some (.ref 0), some (.ref 2), some (.ref 45), some (.int (nI (6 * k)))] [] (zLay n 15) M' := by
  refine z_bf (lw_go hk hn) ?_
  refine And.intro (z_inN0 (by omega) (by omega)) ?_
  refine z_swi (k := 9) (t := 463) rfl (by show (M' 0 (nI (6 * k)).toNatClampNeg &&& 63).toInt = _; rw [es]; decide) ?_
  refine z_go ?_
  refine And.intro (lw_ix (j := 1) (by omega) hn) ?_
  refine z_cx (zMet_fz (e5_back n M' w hI _)) (fun M1 r1 => ?_)
  have k1 := rC_ge hC r1.1.2
  refine And.intro (lw_ix (j := 1) (by omega) hn) ?_
  refine z_cx (zMet_fz (e6_back n 15 M1 w k1 _)) (fun M2 r2 => ?_)
  rw [r1.2.1] at r2
  refine z_bt (congrArg (fun g : Nat → Int32 => (stBack w (g (nI (6 * k) + 1).toNatClampNeg)).1) r1.2.1.symm) ?_
  refine z_go ?_
  exact ih _ _ ⟨(stBack w (M' 0 (nI (6 * k) + 1).toNatClampNeg)).2, cI_lt r1.1.1 (fun p hp => r2.1.2 p hp), r2.1.1, wb_back hB, (r2.2.1).trans e0, (r2.2.2.trans r1.2.2).trans e1, nI_add (6 * k) 6⟩
set_option maxRecDepth 20000 in
set_option maxHeartbeats 2000000 in
theorem lw_c_10 {n kc ks k : Nat} {ret : zR} {M' : zM} {w : Rw} {f0 f1 : Nat → Int32} (hn : n ≤ 3072) (hk : 6 * k + 6 ≤ n) (hI : cI w M') (hC : rC w M') (hB : wb2 w) (e0 : M' 0 = f0) (e1 : M' 1 = f1) (hD : ∀ i, i < 4 → f1 i = nI (hrs i)) (es : M' 0 (nI (6 * k)).toNatClampNeg &&& 63 = nI 10) (ih : ∀ x M2, lwI f0 f1 (k + 1) x M2 → z_E (zp_L_law kc ks) ret 18 [some (.ref 0), some (.ref 2), some (.ref 45), some (.int x)] [] (zLay n 15) M2) : z_run (z_from 18 (zp_L_law kc ks)) (z_E (zp_L_law kc ks) ret) ret [some (.ref 0), some (.ref 2), some (.ref 45), some (.int (nI (6 * k)))] [] (zLay n 15) M' := by
  refine z_bf (lw_go hk hn) ?_
  refine And.intro (z_inN0 (by omega) (by omega)) ?_
  refine z_swi (k := 10) (t := 486) rfl (by show (M' 0 (nI (6 * k)).toNatClampNeg &&& 63).toInt = _; rw [es]; decide) ?_
  refine z_go ?_
  refine And.intro (lw_ix (j := 1) (by omega) hn) ?_
  refine z_cx (zMet_fz (e5_read n M' w hI _)) (fun M1 r1 => ?_)
  have k1 := rC_ge hC r1.1.2
  refine And.intro (lw_ix (j := 1) (by omega) hn) ?_
  refine z_cx (zMet_fz (e6_read n 15 M1 w k1 _)) (fun M2 r2 => ?_)
  rw [r1.2.1] at r2
  refine z_bt (congrArg (fun g : Nat → Int32 => (stRead w (g (nI (6 * k) + 1).toNatClampNeg)).1) r1.2.1.symm) ?_
  refine z_go ?_
  exact ih _ _ ⟨(stRead w (M' 0 (nI (6 * k) + 1).toNatClampNeg)).2, cI_lt r1.1.1 (fun p hp => r2.1.2 p hp), r2.1.1, wb_read hB, (r2.2.1).trans e0, (r2.2.2.trans r1.2.2).trans e1, nI_add (6 * k) 6⟩
set_option maxRecDepth 20000 in
set_option maxHeartbeats 2000000 in
theorem lw_c_11 {n kc ks k : Nat} {ret : zR} {M' : zM} {w : Rw} {f0 f1 : Nat → Int32} (hn : n ≤ 3072) (hk : 6 * k + 6 ≤ n) (hI : cI w M') (hC : rC w M') (hB : wb2 w) (e0 : M' 0 = f0) (e1 : M' 1 = f1) (hD : ∀ i, i < 4 → f1 i = nI (hrs i)) (es : M' 0 (nI (6 * k)).toNatClampNeg &&& 63 = nI 11) (ih : ∀ x M2, lwI f0 f1 (k + 1) x M2 → z_E (zp_L_law kc ks) ret 18 [some (.ref 0), some (.ref 2), some (.ref 45), some (.int x)] [] (zLay n 15) M2) : z_run (z_from 18 (zp_L_law kc ks)) (z_E (zp_L_law kc ks) ret) ret [some (.ref 0), some (.ref 2), some (.ref 45), some (.int (nI (6 * k)))] [] (zLay n 15) M' := by
  refine z_bf (lw_go hk hn) ?_
  refine And.intro (z_inN0 (by omega) (by omega)) ?_
  refine z_swi (k := 11) (t := 509) rfl (by show (M' 0 (nI (6 * k)).toNatClampNeg &&& 63).toInt = _; rw [es]; decide) ?_
  refine z_go ?_
  refine And.intro (lw_ix (j := 1) (by omega) hn) ?_
  refine And.intro (lw_ix (j := 2) (by omega) hn) ?_
  refine z_cx (zMet_fz (e5_bag n M' w hI _ _)) (fun M1 r1 => ?_)
  have k1 := rC_ge hC r1.1.2
  refine And.intro (lw_ix (j := 1) (by omega) hn) ?_
  refine And.intro (lw_ix (j := 2) (by omega) hn) ?_
  refine z_cx (zMet_fz (e6_bag n 15 M1 w k1 _ _)) (fun M2 r2 => ?_)
  refine z_bt (congrArg (fun g : Nat → Int32 => aBag w (g (nI (6 * k) + 1).toNatClampNeg) (g (nI (6 * k) + 2).toNatClampNeg)) r1.2.1.symm) ?_
  refine z_go ?_
  exact ih _ _ ⟨w, cI_lt r1.1.1 (fun p hp => r2.1.2.1 p (Or.inl hp)), r2.1.1, hB, (r2.2.1.trans r1.2.1).trans e0, (r2.2.2.trans r1.2.2).trans e1, nI_add (6 * k) 6⟩
set_option maxRecDepth 20000 in
set_option maxHeartbeats 2000000 in
theorem lw_c_12 {n kc ks k : Nat} {ret : zR} {M' : zM} {w : Rw} {f0 f1 : Nat → Int32} (hn : n ≤ 3072) (hk : 6 * k + 6 ≤ n) (hI : cI w M') (hC : rC w M') (hB : wb2 w) (e0 : M' 0 = f0) (e1 : M' 1 = f1) (hD : ∀ i, i < 4 → f1 i = nI (hrs i)) (es : M' 0 (nI (6 * k)).toNatClampNeg &&& 63 = nI 12) (ih : ∀ x M2, lwI f0 f1 (k + 1) x M2 → z_E (zp_L_law kc ks) ret 18 [some (.ref 0), some (.ref 2), some (.ref 45), some (.int x)] [] (zLay n 15) M2) : z_run (z_from 18 (zp_L_law kc ks)) (z_E (zp_L_law kc ks) ret) ret [some (.ref 0), some (.ref 2), some (.ref 45), some (.int (nI (6 * k)))] [] (zLay n 15) M' := by
  refine z_bf (lw_go hk hn) ?_
  refine And.intro (z_inN0 (by omega) (by omega)) ?_
  refine z_swi (k := 12) (t := 542) rfl (by show (M' 0 (nI (6 * k)).toNatClampNeg &&& 63).toInt = _; rw [es]; decide) ?_
  refine z_go ?_
  refine And.intro (lw_ix (j := 1) (by omega) hn) ?_
  refine And.intro (lw_ix (j := 2) (by omega) hn) ?_
  refine And.intro (lw_ix (j := 3) (by omega) hn) ?_
  refine z_cx (zMet_fz (e5_got n M' w hI _ _ _)) (fun M1 r1 => ?_)
  have k1 := rC_ge hC r1.1.2
  refine And.intro (lw_ix (j := 1) (by omega) hn) ?_
  refine And.intro (lw_ix (j := 2) (by omega) hn) ?_
  refine And.intro (lw_ix (j := 3) (by omega) hn) ?_
  refine z_cx (zMet_fz (e6_got n 15 M1 w k1 _ _ _)) (fun M2 r2 => ?_)
  refine z_bt (congrArg (fun g : Nat → Int32 => aGot w (g (nI (6 * k) + 1).toNatClampNeg) (g (nI (6 * k) + 2).toNatClampNeg) (g (nI (6 * k) + 3).toNatClampNeg)) r1.2.1.symm) ?_
  refine z_go ?_
  exact ih _ _ ⟨w, cI_lt r1.1.1 (fun p hp => r2.1.2.1 p (Or.inl hp)), r2.1.1, hB, (r2.2.1.trans r1.2.1).trans e0, (r2.2.2.trans r1.2.2).trans e1, nI_add (6 * k) 6⟩
