/-! the law: its cases -/
set_option maxRecDepth 20000 in
set_option maxHeartbeats 2000000 in
theorem lw_c_25 {n kc ks k : Nat} {ret : zR} {M' : zM} {w : Rw} {f0 f1 : Nat → Int32} (hn : n ≤ 3072) (hk : 6 * k + 6 ≤ n) (hI : cI w M') (hC : rC w M') (hB : wb2 w) (e0 : M' 0 = f0) (e1 : M' 1 = f1) (hD : ∀ i, i < 4 → f1 i = nI (hrs i)) (es : M' 0 (nI (6 * k)).toNatClampNeg &&& 63 = nI 25) (ih : ∀ x M2, lwI f0 f1 (k + 1) x M2 → z_E (zp_L_law kc ks) ret 18 [some (.ref 0), some (.ref 2), some (.ref 45), some (.int x)] [] (zLay n 15) M2) : z_run (z_from 18 (zp_L_law kc ks)) (z_E (zp_L_law kc ks) ret) ret [some (.ref 0), some (.ref 2), some (.ref 45), some (.int (nI (6 * k)))] [] (zLay n 15) M' := by
  refine z_bf (lw_go hk hn) ?_
  refine And.intro (z_inN0 (by omega) (by omega)) ?_
  refine z_swi (k := 25) (t := 841) rfl (by show (M' 0 (nI (6 * k)).toNatClampNeg &&& 63).toInt = _; rw [es]; decide) ?_
  refine z_go ?_
  refine And.intro (lw_ix (j := 1) (by omega) hn) ?_
  refine z_cx (zMet_fz (e5_starts n M' w hI _)) (fun M1 r1 => ?_)
  have k1 := rC_ge hC r1.1.2
  refine And.intro (lw_ix (j := 1) (by omega) hn) ?_
  refine z_cx (zMet_fz (e6_starts n 15 M1 w k1 _)) (fun M2 r2 => ?_)
  refine z_bt (congrArg (fun g : Nat → Int32 => aStarts w (g (nI (6 * k) + 1).toNatClampNeg)) r1.2.1.symm) ?_
  refine z_go ?_
  exact ih _ _ ⟨w, cI_lt r1.1.1 (fun p hp => r2.1.2.1 p (Or.inl hp)), r2.1.1, hB, (r2.2.1.trans r1.2.1).trans e0, (r2.2.2.trans r1.2.2).trans e1, nI_add (6 * k) 6⟩
set_option maxRecDepth 20000 in
set_option maxHeartbeats 2000000 in
theorem lw_c_26 {n kc ks k : Nat} {ret : zR} {M' : zM} {w : Rw} {f0 f1 : Nat → Int32} (hn : n ≤ 3072) (hk : 6 * k + 6 ≤ n) (hI : cI w M') (hC : rC w M') (hB : wb2 w) (e0 : M' 0 = f0) (e1 : M' 1 = f1) (hD : ∀ i, i < 4 → f1 i = nI (hrs i)) (es : M' 0 (nI (6 * k)).toNatClampNeg &&& 63 = nI 26) (ih : ∀ x M2, lwI f0 f1 (k + 1) x M2 → z_E (zp_L_law kc ks) ret 18 [some (.ref 0), some (.ref 2), some (.ref 45), some (.int x)] [] (zLay n 15) M2) : z_run (z_from 18 (zp_L_law kc ks)) (z_E (zp_L_law kc ks) ret) ret [some (.ref 0), some (.ref 2), some (.ref 45), some (.int (nI (6 * k)))] [] (zLay n 15) M' := by
  refine z_bf (lw_go hk hn) ?_
  refine And.intro (z_inN0 (by omega) (by omega)) ?_
  refine z_swi (k := 26) (t := 864) rfl (by show (M' 0 (nI (6 * k)).toNatClampNeg &&& 63).toInt = _; rw [es]; decide) ?_
  refine z_go ?_
  refine And.intro (lw_ix (j := 1) (by omega) hn) ?_
  refine z_cx (zMet_fz (e5_ask n M' w hI hB _)) (fun M1 r1 => ?_)
  have k1 := rC_ge hC r1.1.2
  refine And.intro (lw_ix (j := 1) (by omega) hn) ?_
  refine z_cx (zMet_fz (e6_ask n 15 M1 w k1 hB _)) (fun M2 r2 => ?_)
  refine z_bt (congrArg (fun g : Nat → Int32 => aAsk w (g (nI (6 * k) + 1).toNatClampNeg)) r1.2.1.symm) ?_
  refine z_go ?_
  exact ih _ _ ⟨w, cI_lt r1.1.1 (fun p hp => r2.1.2.1 p (Or.inl hp)), r2.1.1, hB, (r2.2.1.trans r1.2.1).trans e0, (r2.2.2.trans r1.2.2).trans e1, nI_add (6 * k) 6⟩
set_option maxRecDepth 20000 in
set_option maxHeartbeats 2000000 in
theorem lw_c_27 {n kc ks k : Nat} {ret : zR} {M' : zM} {w : Rw} {f0 f1 : Nat → Int32} (hn : n ≤ 3072) (hk : 6 * k + 6 ≤ n) (hI : cI w M') (hC : rC w M') (hB : wb2 w) (e0 : M' 0 = f0) (e1 : M' 1 = f1) (hD : ∀ i, i < 4 → f1 i = nI (hrs i)) (es : M' 0 (nI (6 * k)).toNatClampNeg &&& 63 = nI 27) (ih : ∀ x M2, lwI f0 f1 (k + 1) x M2 → z_E (zp_L_law kc ks) ret 18 [some (.ref 0), some (.ref 2), some (.ref 45), some (.int x)] [] (zLay n 15) M2) : z_run (z_from 18 (zp_L_law kc ks)) (z_E (zp_L_law kc ks) ret) ret [some (.ref 0), some (.ref 2), some (.ref 45), some (.int (nI (6 * k)))] [] (zLay n 15) M' := by
  refine z_bf (lw_go hk hn) ?_
  refine And.intro (z_inN0 (by omega) (by omega)) ?_
  refine z_swi (k := 27) (t := 887) rfl (by show (M' 0 (nI (6 * k)).toNatClampNeg &&& 63).toInt = _; rw [es]; decide) ?_
  refine z_go ?_
  refine And.intro (lw_ix (j := 1) (by omega) hn) ?_
  refine And.intro (lw_ix (j := 2) (by omega) hn) ?_
  refine And.intro (lw_ix (j := 3) (by omega) hn) ?_
  refine z_cx (zMet_fz (e5_moth n M' w hI _ _ _)) (fun M1 r1 => ?_)
  have k1 := rC_ge hC r1.1.2
  refine And.intro (lw_ix (j := 1) (by omega) hn) ?_
  refine And.intro (lw_ix (j := 2) (by omega) hn) ?_
  refine And.intro (lw_ix (j := 3) (by omega) hn) ?_
  refine z_cx (zMet_fz (e6_moth n 15 M1 w k1 _ _ _)) (fun M2 r2 => ?_)
  refine z_bt ((lg_cmp_eq _ _).mpr (congrArg (fun g : Nat → Int32 => aMoth w (g (nI (6 * k) + 1).toNatClampNeg) (g (nI (6 * k) + 2).toNatClampNeg) (g (nI (6 * k) + 3).toNatClampNeg)) r1.2.1.symm)) ?_
  refine z_go ?_
  exact ih _ _ ⟨w, cI_lt r1.1.1 (fun p hp => r2.1.2.1 p (Or.inl hp)), r2.1.1, hB, (r2.2.1.trans r1.2.1).trans e0, (r2.2.2.trans r1.2.2).trans e1, nI_add (6 * k) 6⟩
set_option maxRecDepth 20000 in
set_option maxHeartbeats 2000000 in
theorem lw_c_28 {n kc ks k : Nat} {ret : zR} {M' : zM} {w : Rw} {f0 f1 : Nat → Int32} (hn : n ≤ 3072) (hk : 6 * k + 6 ≤ n) (hI : cI w M') (hC : rC w M') (hB : wb2 w) (e0 : M' 0 = f0) (e1 : M' 1 = f1) (hD : ∀ i, i < 4 → f1 i = nI (hrs i)) (es : M' 0 (nI (6 * k)).toNatClampNeg &&& 63 = nI 28) (ih : ∀ x M2, lwI f0 f1 (k + 1) x M2 → z_E (zp_L_law kc ks) ret 18 [some (.ref 0), some (.ref 2), some (.ref 45), some (.int x)] [] (zLay n 15) M2) : z_run (z_from 18 (zp_L_law kc ks)) (z_E (zp_L_law kc ks) ret) ret [some (.ref 0), some (.ref 2), some (.ref 45), some (.int (nI (6 * k)))] [] (zLay n 15) M' := by
  refine z_bf (lw_go hk hn) ?_
  refine And.intro (z_inN0 (by omega) (by omega)) ?_
  refine z_swi (k := 28) (t := 931) rfl (by show (M' 0 (nI (6 * k)).toNatClampNeg &&& 63).toInt = _; rw [es]; decide) ?_
  refine z_go ?_
  refine And.intro (lw_ix (j := 1) (by omega) hn) ?_
  refine And.intro (lw_ix (j := 2) (by omega) hn) ?_
  refine And.intro (lw_ix (j := 3) (by omega) hn) ?_
  refine z_cx (zMet_fz (e5_year n M' w hI _ _ _)) (fun M1 r1 => ?_)
  have k1 := rC_ge hC r1.1.2
  refine And.intro (lw_ix (j := 1) (by omega) hn) ?_
  refine And.intro (lw_ix (j := 2) (by omega) hn) ?_
  refine And.intro (lw_ix (j := 3) (by omega) hn) ?_
  refine z_cx (zMet_fz (e6_year n 15 M1 w k1 _ _ _)) (fun M2 r2 => ?_)
  refine z_bt (congrArg (fun g : Nat → Int32 => aYear w (g (nI (6 * k) + 1).toNatClampNeg) (g (nI (6 * k) + 2).toNatClampNeg) (g (nI (6 * k) + 3).toNatClampNeg)) r1.2.1.symm) ?_
  refine z_go ?_
  exact ih _ _ ⟨w, cI_lt r1.1.1 (fun p hp => r2.1.2.1 p (Or.inl hp)), r2.1.1, hB, (r2.2.1.trans r1.2.1).trans e0, (r2.2.2.trans r1.2.2).trans e1, nI_add (6 * k) 6⟩
set_option maxRecDepth 20000 in
set_option maxHeartbeats 2000000 in
theorem lw_c_29 {n kc ks k : Nat} {ret : zR} {M' : zM} {w : Rw} {f0 f1 : Nat → Int32} (hn : n ≤ 3072) (hk : 6 * k + 6 ≤ n) (hI : cI w M') (hC : rC w M') (hB : wb2 w) (e0 : M' 0 = f0) (e1 : M' 1 = f1) (hD : ∀ i, i < 4 → f1 i = nI (hrs i)) (es : M' 0 (nI (6 * k)).toNatClampNeg &&& 63 = nI 29) (ih : ∀ x M2, lwI f0 f1 (k + 1) x M2 → z_E (zp_L_law kc ks) ret 18 [some (.ref 0), some (.ref 2), some (.ref 45), some (.int x)] [] (zLay n 15) M2) : z_run (z_from 18 (zp_L_law kc ks)) (z_E (zp_L_law kc ks) ret) ret [some (.ref 0), some (.ref 2), some (.ref 45), some (.int (nI (6 * k)))] [] (zLay n 15) M' := by
  refine z_bf (lw_go hk hn) ?_
  refine And.intro (z_inN0 (by omega) (by omega)) ?_
  refine z_swi (k := 29) (t := 974) rfl (by show (M' 0 (nI (6 * k)).toNatClampNeg &&& 63).toInt = _; rw [es]; decide) ?_
  refine z_go ?_
  refine And.intro (lw_ix (j := 1) (by omega) hn) ?_
  refine And.intro (lw_ix (j := 2) (by omega) hn) ?_
  refine And.intro (lw_ix (j := 3) (by omega) hn) ?_
  refine z_cx (zMet_fz (e5_sheet n M' w hI _ _ _)) (fun M1 r1 => ?_)
  have k1 := rC_ge hC r1.1.2
  refine And.intro (lw_ix (j := 1) (by omega) hn) ?_
  refine And.intro (lw_ix (j := 2) (by omega) hn) ?_
  refine And.intro (lw_ix (j := 3) (by omega) hn) ?_
  refine z_cx (zMet_fz (e6_sheet n 15 M1 w k1 _ _ _)) (fun M2 r2 => ?_)
  rw [r1.2.1] at r2
  refine z_bt (congrArg (fun g : Nat → Int32 => (stSheet w (g (nI (6 * k) + 1).toNatClampNeg) (g (nI (6 * k) + 2).toNatClampNeg) (g (nI (6 * k) + 3).toNatClampNeg)).1) r1.2.1.symm) ?_
  refine z_go ?_
  exact ih _ _ ⟨(stSheet w (M' 0 (nI (6 * k) + 1).toNatClampNeg) (M' 0 (nI (6 * k) + 2).toNatClampNeg) (M' 0 (nI (6 * k) + 3).toNatClampNeg)).2, cI_lt r1.1.1 (fun p hp => r2.1.2 p hp), r2.1.1, wb_sheet hB, (r2.2.1).trans e0, (r2.2.2.trans r1.2.2).trans e1, nI_add (6 * k) 6⟩
set_option maxRecDepth 20000 in
set_option maxHeartbeats 2000000 in
theorem lw_c_30 {n kc ks k : Nat} {ret : zR} {M' : zM} {w : Rw} {f0 f1 : Nat → Int32} (hn : n ≤ 3072) (hk : 6 * k + 6 ≤ n) (hI : cI w M') (hC : rC w M') (hB : wb2 w) (e0 : M' 0 = f0) (e1 : M' 1 = f1) (hD : ∀ i, i < 4 → f1 i = nI (hrs i)) (es : M' 0 (nI (6 * k)).toNatClampNeg &&& 63 = nI 30) (ih : ∀ x M2, lwI f0 f1 (k + 1) x M2 → z_E (zp_L_law kc ks) ret 18 [some (.ref 0), some (.ref 2), some (.ref 45), some (.int x)] [] (zLay n 15) M2) : z_run (z_from 18 (zp_L_law kc ks)) (z_E (zp_L_law kc ks) ret) ret [some (.ref 0), some (.ref 2), some (.ref 45), some (.int (nI (6 * k)))] [] (zLay n 15) M' := by
  refine z_bf (lw_go hk hn) ?_
  refine And.intro (z_inN0 (by omega) (by omega)) ?_
  refine z_swi (k := 30) (t := 1017) rfl (by show (M' 0 (nI (6 * k)).toNatClampNeg &&& 63).toInt = _; rw [es]; decide) ?_
  refine z_go ?_
  refine And.intro (lw_ix (j := 1) (by omega) hn) ?_
  refine z_cx (zMet_fz (e5_lose n M' w hI _)) (fun M1 r1 => ?_)
  have k1 := rC_ge hC r1.1.2
  refine And.intro (lw_ix (j := 1) (by omega) hn) ?_
  refine z_cx (zMet_fz (e6_lose n 15 M1 w k1 _)) (fun M2 r2 => ?_)
  rw [r1.2.1] at r2
  refine z_bt (congrArg (fun g : Nat → Int32 => (stLose w (g (nI (6 * k) + 1).toNatClampNeg)).1) r1.2.1.symm) ?_
  refine z_go ?_
  exact ih _ _ ⟨(stLose w (M' 0 (nI (6 * k) + 1).toNatClampNeg)).2, cI_lt r1.1.1 (fun p hp => r2.1.2 p hp), r2.1.1, wb_lose hB, (r2.2.1).trans e0, (r2.2.2.trans r1.2.2).trans e1, nI_add (6 * k) 6⟩
set_option maxRecDepth 20000 in
set_option maxHeartbeats 2000000 in
theorem lw_c_31 {n kc ks k : Nat} {ret : zR} {M' : zM} {w : Rw} {f0 f1 : Nat → Int32} (hn : n ≤ 3072) (hk : 6 * k + 6 ≤ n) (hI : cI w M') (hC : rC w M') (hB : wb2 w) (e0 : M' 0 = f0) (e1 : M' 1 = f1) (hD : ∀ i, i < 4 → f1 i = nI (hrs i)) (es : M' 0 (nI (6 * k)).toNatClampNeg &&& 63 = nI 31) (ih : ∀ x M2, lwI f0 f1 (k + 1) x M2 → z_E (zp_L_law kc ks) ret 18 [some (.ref 0), some (.ref 2), some (.ref 45), some (.int x)] [] (zLay n 15) M2) : z_run (z_from 18 (zp_L_law kc ks)) (z_E (zp_L_law kc ks) ret) ret [some (.ref 0), some (.ref 2), some (.ref 45), some (.int (nI (6 * k)))] [] (zLay n 15) M' := by
  refine z_bf (lw_go hk hn) ?_
  refine And.intro (z_inN0 (by omega) (by omega)) ?_
  refine z_swi (k := 31) (t := 1040) rfl (by show (M' 0 (nI (6 * k)).toNatClampNeg &&& 63).toInt = _; rw [es]; decide) ?_
  refine z_go ?_
  refine And.intro (lw_ix (j := 1) (by omega) hn) ?_
  refine And.intro (lw_ix (j := 2) (by omega) hn) ?_
  refine And.intro (lw_ix (j := 3) (by omega) hn) ?_
  refine And.intro (lw_ix (j := 4) (by omega) hn) ?_
  refine z_cx (zMet_fz (e5_put n M' w hI _ _ _ _)) (fun M1 r1 => ?_)
  have k1 := rC_ge hC r1.1.2
  refine And.intro (lw_ix (j := 1) (by omega) hn) ?_
  refine And.intro (lw_ix (j := 2) (by omega) hn) ?_
  refine And.intro (lw_ix (j := 3) (by omega) hn) ?_
  refine And.intro (lw_ix (j := 4) (by omega) hn) ?_
  refine z_cx (zMet_fz (e6_put n 15 M1 w k1 _ _ _ _)) (fun M2 r2 => ?_)
  rw [r1.2.1] at r2
  refine z_bt (congrArg (fun g : Nat → Int32 => (stPut w (g (nI (6 * k) + 1).toNatClampNeg) (g (nI (6 * k) + 2).toNatClampNeg) (g (nI (6 * k) + 3).toNatClampNeg) (g (nI (6 * k) + 4).toNatClampNeg)).1) r1.2.1.symm) ?_
  refine z_go ?_
  exact ih _ _ ⟨(stPut w (M' 0 (nI (6 * k) + 1).toNatClampNeg) (M' 0 (nI (6 * k) + 2).toNatClampNeg) (M' 0 (nI (6 * k) + 3).toNatClampNeg) (M' 0 (nI (6 * k) + 4).toNatClampNeg)).2, cI_lt r1.1.1 (fun p hp => r2.1.2 p hp), r2.1.1, wb_put hB, (r2.2.1).trans e0, (r2.2.2.trans r1.2.2).trans e1, nI_add (6 * k) 6⟩
set_option maxRecDepth 20000 in
set_option maxHeartbeats 2000000 in
theorem lw_c_32 {n kc ks k : Nat} {ret : zR} {M' : zM} {w : Rw} {f0 f1 : Nat → Int32} (hn : n ≤ 3072) (hk : 6 * k + 6 ≤ n) (hI : cI w M') (hC : rC w M') (hB : wb2 w) (e0 : M' 0 = f0) (e1 : M' 1 = f1) (hD : ∀ i, i < 4 → f1 i = nI (hrs i)) (es : M' 0 (nI (6 * k)).toNatClampNeg &&& 63 = nI 32) (ih : ∀ x M2, lwI f0 f1 (k + 1) x M2 → z_E (zp_L_law kc ks) ret 18 [some (.ref 0), some (.ref 2), some (.ref 45), some (.int x)] [] (zLay n 15) M2) : z_run (z_from 18 (zp_L_law kc ks)) (z_E (zp_L_law kc ks) ret) ret [some (.ref 0), some (.ref 2), some (.ref 45), some (.int (nI (6 * k)))] [] (zLay n 15) M' := by
  refine z_bf (lw_go hk hn) ?_
  refine And.intro (z_inN0 (by omega) (by omega)) ?_
  refine z_swi (k := 32) (t := 1093) rfl (by show (M' 0 (nI (6 * k)).toNatClampNeg &&& 63).toInt = _; rw [es]; decide) ?_
  refine z_go ?_
  refine And.intro (lw_ix (j := 1) (by omega) hn) ?_
  refine And.intro (lw_ix (j := 2) (by omega) hn) ?_
  refine And.intro (lw_ix (j := 3) (by omega) hn) ?_
  refine z_cx (zMet_fz (e5_get n M' w hI _ _ _)) (fun M1 r1 => ?_)
  have k1 := rC_ge hC r1.1.2
  refine And.intro (lw_ix (j := 1) (by omega) hn) ?_
  refine And.intro (lw_ix (j := 2) (by omega) hn) ?_
  refine And.intro (lw_ix (j := 3) (by omega) hn) ?_
  refine z_cx (zMet_fz (e6_get n 15 M1 w k1 _ _ _)) (fun M2 r2 => ?_)
  rw [r1.2.1] at r2
  refine z_bt (congrArg (fun g : Nat → Int32 => (stGet w (g (nI (6 * k) + 1).toNatClampNeg) (g (nI (6 * k) + 2).toNatClampNeg) (g (nI (6 * k) + 3).toNatClampNeg)).1) r1.2.1.symm) ?_
  refine z_go ?_
  exact ih _ _ ⟨(stGet w (M' 0 (nI (6 * k) + 1).toNatClampNeg) (M' 0 (nI (6 * k) + 2).toNatClampNeg) (M' 0 (nI (6 * k) + 3).toNatClampNeg)).2, cI_lt r1.1.1 (fun p hp => r2.1.2 p hp), r2.1.1, wb_get hB, (r2.2.1).trans e0, (r2.2.2.trans r1.2.2).trans e1, nI_add (6 * k) 6⟩
set_option maxRecDepth 20000 in
set_option maxHeartbeats 2000000 in
theorem lw_c_33 {n kc ks k : Nat} {ret : zR} {M' : zM} {w : Rw} {f0 f1 : Nat → Int32} (hn : n ≤ 3072) (hk : 6 * k + 6 ≤ n) (hI : cI w M') (hC : rC w M') (hB : wb2 w) (e0 : M' 0 = f0) (e1 : M' 1 = f1) (hD : ∀ i, i < 4 → f1 i = nI (hrs i)) (es : M' 0 (nI (6 * k)).toNatClampNeg &&& 63 = nI 33) (ih : ∀ x M2, lwI f0 f1 (k + 1) x M2 → z_E (zp_L_law kc ks) ret 18 [some (.ref 0), some (.ref 2), some (.ref 45), some (.int x)] [] (zLay n 15) M2) : z_run (z_from 18 (zp_L_law kc ks)) (z_E (zp_L_law kc ks) ret) ret [some (.ref 0), some (.ref 2), some (.ref 45), some (.int (nI (6 * k)))] [] (zLay n 15) M' := by
  refine z_bf (lw_go hk hn) ?_
  refine And.intro (z_inN0 (by omega) (by omega)) ?_
  refine z_swi (k := 33) (t := 1136) rfl (by show (M' 0 (nI (6 * k)).toNatClampNeg &&& 63).toInt = _; rw [es]; decide) ?_
  refine z_go ?_
  refine And.intro (lw_ix (j := 1) (by omega) hn) ?_
  refine And.intro (lw_ix (j := 2) (by omega) hn) ?_
  refine And.intro (lw_ix (j := 3) (by omega) hn) ?_
  refine And.intro (lw_ix (j := 4) (by omega) hn) ?_
  refine And.intro (lw_ix (j := 5) (by omega) hn) ?_
  refine z_cx (zMet_fz (e5_copy n M' w hI _ _ _ _ _)) (fun M1 r1 => ?_)
  have k1 := rC_ge hC r1.1.2
  refine And.intro (lw_ix (j := 1) (by omega) hn) ?_
  refine And.intro (lw_ix (j := 2) (by omega) hn) ?_
  refine And.intro (lw_ix (j := 3) (by omega) hn) ?_
  refine And.intro (lw_ix (j := 4) (by omega) hn) ?_
  refine And.intro (lw_ix (j := 5) (by omega) hn) ?_
  refine z_cx (zMet_fz (e6_copy n 15 M1 w k1 _ _ _ _ _)) (fun M2 r2 => ?_)
  rw [r1.2.1] at r2
  refine z_bt (congrArg (fun g : Nat → Int32 => (stCopy w (g (nI (6 * k) + 1).toNatClampNeg) (g (nI (6 * k) + 2).toNatClampNeg) (g (nI (6 * k) + 3).toNatClampNeg) (g (nI (6 * k) + 4).toNatClampNeg) (g (nI (6 * k) + 5).toNatClampNeg)).1) r1.2.1.symm) ?_
  refine z_go ?_
  exact ih _ _ ⟨(stCopy w (M' 0 (nI (6 * k) + 1).toNatClampNeg) (M' 0 (nI (6 * k) + 2).toNatClampNeg) (M' 0 (nI (6 * k) + 3).toNatClampNeg) (M' 0 (nI (6 * k) + 4).toNatClampNeg) (M' 0 (nI (6 * k) + 5).toNatClampNeg)).2, cI_lt r1.1.1 (fun p hp => r2.1.2 p hp), r2.1.1, wb_copy hB, (r2.2.1).trans e0, (r2.2.2.trans r1.2.2).trans e1, nI_add (6 * k) 6⟩
set_option maxRecDepth 20000 in
set_option maxHeartbeats 2000000 in
theorem lw_c_34 {n kc ks k : Nat} {ret : zR} {M' : zM} {w : Rw} {f0 f1 : Nat → Int32} (hn : n ≤ 3072) (hk : 6 * k + 6 ≤ n) (hI : cI w M') (hC : rC w M') (hB : wb2 w) (e0 : M' 0 = f0) (e1 : M' 1 = f1) (hD : ∀ i, i < 4 → f1 i = nI (hrs i)) (es : M' 0 (nI (6 * k)).toNatClampNeg &&& 63 = nI 34) (ih : ∀ x M2, lwI f0 f1 (k + 1) x M2 → z_E (zp_L_law kc ks) ret 18 [some (.ref 0), some (.ref 2), some (.ref 45), some (.int x)] [] (zLay n 15) M2) : z_run (z_from 18 (zp_L_law kc ks)) (z_E (zp_L_law kc ks) ret) ret [some (.ref 0), some (.ref 2), some (.ref 45), some (.int (nI (6 * k)))] [] (zLay n 15) M' := by
  refine z_bf (lw_go hk hn) ?_
  refine And.intro (z_inN0 (by omega) (by omega)) ?_
  refine z_swi (k := 34) (t := 1199) rfl (by show (M' 0 (nI (6 * k)).toNatClampNeg &&& 63).toInt = _; rw [es]; decide) ?_
  refine z_go ?_
  refine And.intro (lw_ix (j := 1) (by omega) hn) ?_
  refine And.intro (lw_ix (j := 2) (by omega) hn) ?_
  refine z_cx (zMet_fz (e5_write n M' w hI _ _)) (fun M1 r1 => ?_)
  have k1 := rC_ge hC r1.1.2
  refine And.intro (lw_ix (j := 1) (by omega) hn) ?_
  refine And.intro (lw_ix (j := 2) (by omega) hn) ?_
  refine z_cx (zMet_fz (e6_write n 15 M1 w k1 _ _)) (fun M2 r2 => ?_)
  rw [r1.2.1] at r2
  refine z_bt (congrArg (fun g : Nat → Int32 => (stWrite w (g (nI (6 * k) + 1).toNatClampNeg) (g (nI (6 * k) + 2).toNatClampNeg)).1) r1.2.1.symm) ?_
  refine z_go ?_
  exact ih _ _ ⟨(stWrite w (M' 0 (nI (6 * k) + 1).toNatClampNeg) (M' 0 (nI (6 * k) + 2).toNatClampNeg)).2, cI_lt r1.1.1 (fun p hp => r2.1.2 p hp), r2.1.1, wb_write hB, (r2.2.1).trans e0, (r2.2.2.trans r1.2.2).trans e1, nI_add (6 * k) 6⟩
set_option maxRecDepth 20000 in
set_option maxHeartbeats 2000000 in
theorem lw_c_35 {n kc ks k : Nat} {ret : zR} {M' : zM} {w : Rw} {f0 f1 : Nat → Int32} (hn : n ≤ 3072) (hk : 6 * k + 6 ≤ n) (hI : cI w M') (hC : rC w M') (hB : wb2 w) (e0 : M' 0 = f0) (e1 : M' 1 = f1) (hD : ∀ i, i < 4 → f1 i = nI (hrs i)) (es : M' 0 (nI (6 * k)).toNatClampNeg &&& 63 = nI 35) (ih : ∀ x M2, lwI f0 f1 (k + 1) x M2 → z_E (zp_L_law kc ks) ret 18 [some (.ref 0), some (.ref 2), some (.ref 45), some (.int x)] [] (zLay n 15) M2) : z_run (z_from 18 (zp_L_law kc ks)) (z_E (zp_L_law kc ks) ret) ret [some (.ref 0), some (.ref 2), some (.ref 45), some (.int (nI (6 * k)))] [] (zLay n 15) M' := by
  refine z_bf (lw_go hk hn) ?_
  refine And.intro (z_inN0 (by omega) (by omega)) ?_
  refine z_swi (k := 35) (t := 1232) rfl (by show (M' 0 (nI (6 * k)).toNatClampNeg &&& 63).toInt = _; rw [es]; decide) ?_
  refine z_go ?_
  refine And.intro (lw_ix (j := 1) (by omega) hn) ?_
  refine z_cx (zMet_fz (e5_count n M' w hI _)) (fun M1 r1 => ?_)
  have k1 := rC_ge hC r1.1.2
  refine And.intro (lw_ix (j := 1) (by omega) hn) ?_
  refine z_cx (zMet_fz (e6_count n 15 M1 w k1 _)) (fun M2 r2 => ?_)
  refine z_bt (congrArg (fun g : Nat → Int32 => aCount w (g (nI (6 * k) + 1).toNatClampNeg)) r1.2.1.symm) ?_
  refine z_go ?_
  exact ih _ _ ⟨w, cI_lt r1.1.1 (fun p hp => r2.1.2.1 p (Or.inl hp)), r2.1.1, hB, (r2.2.1.trans r1.2.1).trans e0, (r2.2.2.trans r1.2.2).trans e1, nI_add (6 * k) 6⟩
set_option maxRecDepth 20000 in
set_option maxHeartbeats 2000000 in
theorem lw_c_36 {n kc ks k : Nat} {ret : zR} {M' : zM} {w : Rw} {f0 f1 : Nat → Int32} (hn : n ≤ 3072) (hk : 6 * k + 6 ≤ n) (hI : cI w M') (hC : rC w M') (hB : wb2 w) (e0 : M' 0 = f0) (e1 : M' 1 = f1) (hD : ∀ i, i < 4 → f1 i = nI (hrs i)) (es : M' 0 (nI (6 * k)).toNatClampNeg &&& 63 = nI 36) (ih : ∀ x M2, lwI f0 f1 (k + 1) x M2 → z_E (zp_L_law kc ks) ret 18 [some (.ref 0), some (.ref 2), some (.ref 45), some (.int x)] [] (zLay n 15) M2) : z_run (z_from 18 (zp_L_law kc ks)) (z_E (zp_L_law kc ks) ret) ret [some (.ref 0), some (.ref 2), some (.ref 45), some (.int (nI (6 * k)))] [] (zLay n 15) M' := by
  refine z_bf (lw_go hk hn) ?_
  refine And.intro (z_inN0 (by omega) (by omega)) ?_
  refine z_swi (k := 36) (t := 1255) rfl (by show (M' 0 (nI (6 * k)).toNatClampNeg &&& 63).toInt = _; rw [es]; decide) ?_
  refine z_go ?_
  refine z_cx (zMet_fz (e5_digest n M' w hI hB (fun i hi => by rw [e1]; exact hD i hi))) (fun M1 r1 => ?_)
  have k1 := rC_ge hC r1.1.2
  refine z_cx (zMet_fz (e6_digest n 15 M1 w k1 hB)) (fun M2 r2 => ?_)
  refine z_bt ((lg_cmp_eq _ _).mpr rfl) ?_
  refine z_go ?_
  exact ih _ _ ⟨w, cI_lt r1.1.1 (fun p hp => r2.1.2.1 p (Or.inl hp)), r2.1.1, hB, (r2.2.1.trans r1.2.1).trans e0, (r2.2.2.trans r1.2.2).trans e1, nI_add (6 * k) 6⟩
