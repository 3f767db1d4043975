/-! the law: its cases -/
set_option maxRecDepth 20000 in
set_option maxHeartbeats 2000000 in
theorem lw_c_13 {n kc ks k : Nat} {ret : zR} {M' : zM} {w : Rw} {f0 f1 : Nat → Int32} (hn : n ≤ 3072) (hk : 6 * k + 6 ≤ n) (hI : cI w M') (hC : rC w M') (hB : wb2 w) (e0 : M' 0 = f0) (e1 : M' 1 = f1) (hD : ∀ i, i < 4 → f1 i = nI (hrs i)) (es : M' 0 (nI (6 * k)).toNatClampNeg &&& 63 = nI 13) (ih : ∀ x M2, lwI f0 f1 (k + 1) x M2 → z_E (zp_L_law kc ks) ret 18 [some (.ref 0), some (.ref 2), some (.ref 45), some (.int x)] [] (zLay n 15) M2) : z_run (z_from 18 (zp_L_law kc ks)) (z_E (zp_L_law kc ks) ret) ret [some (.ref 0), some (.ref 2), some (.ref 45), some (.int (nI (6 * k)))] [] (zLay n 15) M' := by
  refine z_bf (lw_go hk hn) ?_
  refine And.intro (z_inN0 (by omega) (by omega)) ?_
  refine z_swi (k := 13) (t := 585) rfl (by show (M' 0 (nI (6 * k)).toNatClampNeg &&& 63).toInt = _; rw [es]; decide) ?_
  refine z_go ?_
  refine And.intro (lw_ix (j := 1) (by omega) hn) ?_
  refine And.intro (lw_ix (j := 2) (by omega) hn) ?_
  refine z_cx (zMet_fz (e5_held n M' w hI _ _)) (fun M1 r1 => ?_)
  have k1 := rC_ge hC r1.1.2
  refine And.intro (lw_ix (j := 1) (by omega) hn) ?_
  refine And.intro (lw_ix (j := 2) (by omega) hn) ?_
  refine z_cx (zMet_fz (e6_held n 15 M1 w k1 _ _)) (fun M2 r2 => ?_)
  refine z_bt (congrArg (fun g : Nat → Int32 => aHeld w (g (nI (6 * k) + 1).toNatClampNeg) (g (nI (6 * k) + 2).toNatClampNeg)) r1.2.1.symm) ?_
  refine z_go ?_
  exact ih _ _ ⟨w, cI_lt r1.1.1 (fun p hp => r2.1.2.1 p (Or.inl hp)), r2.1.1, hB, (r2.2.1.trans r1.2.1).trans e0, (r2.2.2.trans r1.2.2).trans e1, nI_add (6 * k) 6⟩
set_option maxRecDepth 20000 in
set_option maxHeartbeats 2000000 in
theorem lw_c_14 {n kc ks k : Nat} {ret : zR} {M' : zM} {w : Rw} {f0 f1 : Nat → Int32} (hn : n ≤ 3072) (hk : 6 * k + 6 ≤ n) (hI : cI w M') (hC : rC w M') (hB : wb2 w) (e0 : M' 0 = f0) (e1 : M' 1 = f1) (hD : ∀ i, i < 4 → f1 i = nI (hrs i)) (es : M' 0 (nI (6 * k)).toNatClampNeg &&& 63 = nI 14) (ih : ∀ x M2, lwI f0 f1 (k + 1) x M2 → z_E (zp_L_law kc ks) ret 18 [some (.ref 0), some (.ref 2), some (.ref 45), some (.int x)] [] (zLay n 15) M2) : z_run (z_from 18 (zp_L_law kc ks)) (z_E (zp_L_law kc ks) ret) ret [some (.ref 0), some (.ref 2), some (.ref 45), some (.int (nI (6 * k)))] [] (zLay n 15) M' := by
  refine z_bf (lw_go hk hn) ?_
  refine And.intro (z_inN0 (by omega) (by omega)) ?_
  refine z_swi (k := 14) (t := 618) rfl (by show (M' 0 (nI (6 * k)).toNatClampNeg &&& 63).toInt = _; rw [es]; decide) ?_
  refine z_go ?_
  refine z_cx (zMet_fz (e5_first n M' w hI)) (fun M1 r1 => ?_)
  have k1 := rC_ge hC r1.1.2
  refine z_cx (zMet_fz (e6_first n 15 M1 w k1)) (fun M2 r2 => ?_)
  refine z_bt rfl ?_
  refine z_go ?_
  exact ih _ _ ⟨w, cI_lt r1.1.1 (fun p hp => r2.1.2.1 p (Or.inl hp)), r2.1.1, hB, (r2.2.1.trans r1.2.1).trans e0, (r2.2.2.trans r1.2.2).trans e1, nI_add (6 * k) 6⟩
set_option maxRecDepth 20000 in
set_option maxHeartbeats 2000000 in
theorem lw_c_15 {n kc ks k : Nat} {ret : zR} {M' : zM} {w : Rw} {f0 f1 : Nat → Int32} (hn : n ≤ 3072) (hk : 6 * k + 6 ≤ n) (hI : cI w M') (hC : rC w M') (hB : wb2 w) (e0 : M' 0 = f0) (e1 : M' 1 = f1) (hD : ∀ i, i < 4 → f1 i = nI (hrs i)) (es : M' 0 (nI (6 * k)).toNatClampNeg &&& 63 = nI 15) (ih : ∀ x M2, lwI f0 f1 (k + 1) x M2 → z_E (zp_L_law kc ks) ret 18 [some (.ref 0), some (.ref 2), some (.ref 45), some (.int x)] [] (zLay n 15) M2) : z_run (z_from 18 (zp_L_law kc ks)) (z_E (zp_L_law kc ks) ret) ret [some (.ref 0), some (.ref 2), some (.ref 45), some (.int (nI (6 * k)))] [] (zLay n 15) M' := by
  refine z_bf (lw_go hk hn) ?_
  refine And.intro (z_inN0 (by omega) (by omega)) ?_
  refine z_swi (k := 15) (t := 631) rfl (by show (M' 0 (nI (6 * k)).toNatClampNeg &&& 63).toInt = _; rw [es]; decide) ?_
  refine z_go ?_
  refine z_cx (zMet_fz (e5_quiet n M' w hI)) (fun M1 r1 => ?_)
  have k1 := rC_ge hC r1.1.2
  refine z_cx (zMet_fz (e6_quiet n 15 M1 w k1)) (fun M2 r2 => ?_)
  refine z_bt rfl ?_
  refine z_go ?_
  exact ih _ _ ⟨w, cI_lt r1.1.1 (fun p hp => r2.1.2.1 p (Or.inl hp)), r2.1.1, hB, (r2.2.1.trans r1.2.1).trans e0, (r2.2.2.trans r1.2.2).trans e1, nI_add (6 * k) 6⟩
set_option maxRecDepth 20000 in
set_option maxHeartbeats 2000000 in
theorem lw_c_16 {n kc ks k : Nat} {ret : zR} {M' : zM} {w : Rw} {f0 f1 : Nat → Int32} (hn : n ≤ 3072) (hk : 6 * k + 6 ≤ n) (hI : cI w M') (hC : rC w M') (hB : wb2 w) (e0 : M' 0 = f0) (e1 : M' 1 = f1) (hD : ∀ i, i < 4 → f1 i = nI (hrs i)) (es : M' 0 (nI (6 * k)).toNatClampNeg &&& 63 = nI 16) (ih : ∀ x M2, lwI f0 f1 (k + 1) x M2 → z_E (zp_L_law kc ks) ret 18 [some (.ref 0), some (.ref 2), some (.ref 45), some (.int x)] [] (zLay n 15) M2) : z_run (z_from 18 (zp_L_law kc ks)) (z_E (zp_L_law kc ks) ret) ret [some (.ref 0), some (.ref 2), some (.ref 45), some (.int (nI (6 * k)))] [] (zLay n 15) M' := by
  refine z_bf (lw_go hk hn) ?_
  refine And.intro (z_inN0 (by omega) (by omega)) ?_
  refine z_swi (k := 16) (t := 644) rfl (by show (M' 0 (nI (6 * k)).toNatClampNeg &&& 63).toInt = _; rw [es]; decide) ?_
  refine z_go ?_
  refine z_cx (zMet_fz (e5_well n M' w hI)) (fun M1 r1 => ?_)
  have k1 := rC_ge hC r1.1.2
  refine z_cx (zMet_fz (e6_well n 15 M1 w k1)) (fun M2 r2 => ?_)
  refine z_bt rfl ?_
  refine z_go ?_
  exact ih _ _ ⟨w, cI_lt r1.1.1 (fun p hp => r2.1.2.1 p (Or.inl hp)), r2.1.1, hB, (r2.2.1.trans r1.2.1).trans e0, (r2.2.2.trans r1.2.2).trans e1, nI_add (6 * k) 6⟩
set_option maxRecDepth 20000 in
set_option maxHeartbeats 2000000 in
theorem lw_c_17 {n kc ks k : Nat} {ret : zR} {M' : zM} {w : Rw} {f0 f1 : Nat → Int32} (hn : n ≤ 3072) (hk : 6 * k + 6 ≤ n) (hI : cI w M') (hC : rC w M') (hB : wb2 w) (e0 : M' 0 = f0) (e1 : M' 1 = f1) (hD : ∀ i, i < 4 → f1 i = nI (hrs i)) (es : M' 0 (nI (6 * k)).toNatClampNeg &&& 63 = nI 17) (ih : ∀ x M2, lwI f0 f1 (k + 1) x M2 → z_E (zp_L_law kc ks) ret 18 [some (.ref 0), some (.ref 2), some (.ref 45), some (.int x)] [] (zLay n 15) M2) : z_run (z_from 18 (zp_L_law kc ks)) (z_E (zp_L_law kc ks) ret) ret [some (.ref 0), some (.ref 2), some (.ref 45), some (.int (nI (6 * k)))] [] (zLay n 15) M' := by
  refine z_bf (lw_go hk hn) ?_
  refine And.intro (z_inN0 (by omega) (by omega)) ?_
  refine z_swi (k := 17) (t := 657) rfl (by show (M' 0 (nI (6 * k)).toNatClampNeg &&& 63).toInt = _; rw [es]; decide) ?_
  refine z_go ?_
  refine And.intro (lw_ix (j := 1) (by omega) hn) ?_
  refine z_cx (zMet_fz (e5_elbow n M' w hI _)) (fun M1 r1 => ?_)
  have k1 := rC_ge hC r1.1.2
  refine And.intro (lw_ix (j := 1) (by omega) hn) ?_
  refine z_cx (zMet_fz (e6_elbow n 15 M1 w k1 _)) (fun M2 r2 => ?_)
  refine z_bt (congrArg (fun g : Nat → Int32 => aElbow w (g (nI (6 * k) + 1).toNatClampNeg)) r1.2.1.symm) ?_
  refine z_go ?_
  exact ih _ _ ⟨w, cI_lt r1.1.1 (fun p hp => r2.1.2.1 p (Or.inl hp)), r2.1.1, hB, (r2.2.1.trans r1.2.1).trans e0, (r2.2.2.trans r1.2.2).trans e1, nI_add (6 * k) 6⟩
set_option maxRecDepth 20000 in
set_option maxHeartbeats 2000000 in
theorem lw_c_18 {n kc ks k : Nat} {ret : zR} {M' : zM} {w : Rw} {f0 f1 : Nat → Int32} (hn : n ≤ 3072) (hk : 6 * k + 6 ≤ n) (hI : cI w M') (hC : rC w M') (hB : wb2 w) (e0 : M' 0 = f0) (e1 : M' 1 = f1) (hD : ∀ i, i < 4 → f1 i = nI (hrs i)) (es : M' 0 (nI (6 * k)).toNatClampNeg &&& 63 = nI 18) (ih : ∀ x M2, lwI f0 f1 (k + 1) x M2 → z_E (zp_L_law kc ks) ret 18 [some (.ref 0), some (.ref 2), some (.ref 45), some (.int x)] [] (zLay n 15) M2) : z_run (z_from 18 (zp_L_law kc ks)) (z_E (zp_L_law kc ks) ret) ret [some (.ref 0), some (.ref 2), some (.ref 45), some (.int (nI (6 * k)))] [] (zLay n 15) M' := by
  refine z_bf (lw_go hk hn) ?_
  refine And.intro (z_inN0 (by omega) (by omega)) ?_
  refine z_swi (k := 18) (t := 680) rfl (by show (M' 0 (nI (6 * k)).toNatClampNeg &&& 63).toInt = _; rw [es]; decide) ?_
  refine z_go ?_
  refine And.intro (lw_ix (j := 1) (by omega) hn) ?_
  refine And.intro (lw_ix (j := 2) (by omega) hn) ?_
  refine z_cx (zMet_fz (e5_shut n M' w hI _ _)) (fun M1 r1 => ?_)
  have k1 := rC_ge hC r1.1.2
  refine And.intro (lw_ix (j := 1) (by omega) hn) ?_
  refine And.intro (lw_ix (j := 2) (by omega) hn) ?_
  refine z_cx (zMet_fz (e6_shut n 15 M1 w k1 _ _)) (fun M2 r2 => ?_)
  refine z_bt (congrArg (fun g : Nat → Int32 => aShut w (g (nI (6 * k) + 1).toNatClampNeg) (g (nI (6 * k) + 2).toNatClampNeg)) r1.2.1.symm) ?_
  refine z_go ?_
  exact ih _ _ ⟨w, cI_lt r1.1.1 (fun p hp => r2.1.2.1 p (Or.inl hp)), r2.1.1, hB, (r2.2.1.trans r1.2.1).trans e0, (r2.2.2.trans r1.2.2).trans e1, nI_add (6 * k) 6⟩
set_option maxRecDepth 20000 in
set_option maxHeartbeats 2000000 in
theorem lw_c_19 {n kc ks k : Nat} {ret : zR} {M' : zM} {w : Rw} {f0 f1 : Nat → Int32} (hn : n ≤ 3072) (hk : 6 * k + 6 ≤ n) (hI : cI w M') (hC : rC w M') (hB : wb2 w) (e0 : M' 0 = f0) (e1 : M' 1 = f1) (hD : ∀ i, i < 4 → f1 i = nI (hrs i)) (es : M' 0 (nI (6 * k)).toNatClampNeg &&& 63 = nI 19) (ih : ∀ x M2, lwI f0 f1 (k + 1) x M2 → z_E (zp_L_law kc ks) ret 18 [some (.ref 0), some (.ref 2), some (.ref 45), some (.int x)] [] (zLay n 15) M2) : z_run (z_from 18 (zp_L_law kc ks)) (z_E (zp_L_law kc ks) ret) ret [some (.ref 0), some (.ref 2), some (.ref 45), some (.int (nI (6 * k)))] [] (zLay n 15) M' := by
  refine z_bf (lw_go hk hn) ?_
  refine And.intro (z_inN0 (by omega) (by omega)) ?_
  refine z_swi (k := 19) (t := 713) rfl (by show (M' 0 (nI (6 * k)).toNatClampNeg &&& 63).toInt = _; rw [es]; decide) ?_
  refine z_go ?_
  refine z_cx (zMet_fz (e5_least n M' w hI)) (fun M1 r1 => ?_)
  have k1 := rC_ge hC r1.1.2
  refine z_cx (zMet_fz (e6_least n 15 M1 w k1)) (fun M2 r2 => ?_)
  refine z_bt rfl ?_
  refine z_go ?_
  exact ih _ _ ⟨w, cI_lt r1.1.1 (fun p hp => r2.1.2.1 p (Or.inl hp)), r2.1.1, hB, (r2.2.1.trans r1.2.1).trans e0, (r2.2.2.trans r1.2.2).trans e1, nI_add (6 * k) 6⟩
set_option maxRecDepth 20000 in
set_option maxHeartbeats 2000000 in
theorem lw_c_20 {n kc ks k : Nat} {ret : zR} {M' : zM} {w : Rw} {f0 f1 : Nat → Int32} (hn : n ≤ 3072) (hk : 6 * k + 6 ≤ n) (hI : cI w M') (hC : rC w M') (hB : wb2 w) (e0 : M' 0 = f0) (e1 : M' 1 = f1) (hD : ∀ i, i < 4 → f1 i = nI (hrs i)) (es : M' 0 (nI (6 * k)).toNatClampNeg &&& 63 = nI 20) (ih : ∀ x M2, lwI f0 f1 (k + 1) x M2 → z_E (zp_L_law kc ks) ret 18 [some (.ref 0), some (.ref 2), some (.ref 45), some (.int x)] [] (zLay n 15) M2) : z_run (z_from 18 (zp_L_law kc ks)) (z_E (zp_L_law kc ks) ret) ret [some (.ref 0), some (.ref 2), some (.ref 45), some (.int (nI (6 * k)))] [] (zLay n 15) M' := by
  refine z_bf (lw_go hk hn) ?_
  refine And.intro (z_inN0 (by omega) (by omega)) ?_
  refine z_swi (k := 20) (t := 726) rfl (by show (M' 0 (nI (6 * k)).toNatClampNeg &&& 63).toInt = _; rw [es]; decide) ?_
  refine z_go ?_
  refine And.intro (lw_ix (j := 1) (by omega) hn) ?_
  refine z_cx (zMet_fz (e5_patch n M' w hI _)) (fun M1 r1 => ?_)
  have k1 := rC_ge hC r1.1.2
  refine And.intro (lw_ix (j := 1) (by omega) hn) ?_
  refine z_cx (zMet_fz (e6_patch n 15 M1 w k1 _)) (fun M2 r2 => ?_)
  refine z_bt (congrArg (fun g : Nat → Int32 => aPatch w (g (nI (6 * k) + 1).toNatClampNeg)) r1.2.1.symm) ?_
  refine z_go ?_
  exact ih _ _ ⟨w, cI_lt r1.1.1 (fun p hp => r2.1.2.1 p (Or.inl hp)), r2.1.1, hB, (r2.2.1.trans r1.2.1).trans e0, (r2.2.2.trans r1.2.2).trans e1, nI_add (6 * k) 6⟩
set_option maxRecDepth 20000 in
set_option maxHeartbeats 2000000 in
theorem lw_c_21 {n kc ks k : Nat} {ret : zR} {M' : zM} {w : Rw} {f0 f1 : Nat → Int32} (hn : n ≤ 3072) (hk : 6 * k + 6 ≤ n) (hI : cI w M') (hC : rC w M') (hB : wb2 w) (e0 : M' 0 = f0) (e1 : M' 1 = f1) (hD : ∀ i, i < 4 → f1 i = nI (hrs i)) (es : M' 0 (nI (6 * k)).toNatClampNeg &&& 63 = nI 21) (ih : ∀ x M2, lwI f0 f1 (k + 1) x M2 → z_E (zp_L_law kc ks) ret 18 [some (.ref 0), some (.ref 2), some (.ref 45), some (.int x)] [] (zLay n 15) M2) : z_run (z_from 18 (zp_L_law kc ks)) (z_E (zp_L_law kc ks) ret) ret [some (.ref 0), some (.ref 2), some (.ref 45), some (.int (nI (6 * k)))] [] (zLay n 15) M' := by
  refine z_bf (lw_go hk hn) ?_
  refine And.intro (z_inN0 (by omega) (by omega)) ?_
  refine z_swi (k := 21) (t := 749) rfl (by show (M' 0 (nI (6 * k)).toNatClampNeg &&& 63).toInt = _; rw [es]; decide) ?_
  refine z_go ?_
  refine And.intro (lw_ix (j := 1) (by omega) hn) ?_
  refine And.intro (lw_ix (j := 2) (by omega) hn) ?_
  refine And.intro (lw_ix (j := 3) (by omega) hn) ?_
  refine z_cx (zMet_fz (e5_seen n M' w hI _ _ _)) (fun M1 r1 => ?_)
  have k1 := rC_ge hC r1.1.2
  refine And.intro (lw_ix (j := 1) (by omega) hn) ?_
  refine And.intro (lw_ix (j := 2) (by omega) hn) ?_
  refine And.intro (lw_ix (j := 3) (by omega) hn) ?_
  refine z_cx (zMet_fz (e6_seen n 15 M1 w k1 _ _ _)) (fun M2 r2 => ?_)
  rw [r1.2.1] at r2
  refine z_bt (congrArg (fun g : Nat → Int32 => aSeen w (g (nI (6 * k) + 1).toNatClampNeg) (g (nI (6 * k) + 2).toNatClampNeg) (g (nI (6 * k) + 3).toNatClampNeg)) r1.2.1.symm) ?_
  refine z_go ?_
  exact ih _ _ ⟨(nSeen w (M' 0 (nI (6 * k) + 1).toNatClampNeg) (M' 0 (nI (6 * k) + 2).toNatClampNeg) (M' 0 (nI (6 * k) + 3).toNatClampNeg)), cI_lt r1.1.1 (fun p hp => r2.1.2 p hp), r2.1.1, wb_seen hB, (r2.2.1).trans e0, (r2.2.2.trans r1.2.2).trans e1, nI_add (6 * k) 6⟩
set_option maxRecDepth 20000 in
set_option maxHeartbeats 2000000 in
theorem lw_c_22 {n kc ks k : Nat} {ret : zR} {M' : zM} {w : Rw} {f0 f1 : Nat → Int32} (hn : n ≤ 3072) (hk : 6 * k + 6 ≤ n) (hI : cI w M') (hC : rC w M') (hB : wb2 w) (e0 : M' 0 = f0) (e1 : M' 1 = f1) (hD : ∀ i, i < 4 → f1 i = nI (hrs i)) (es : M' 0 (nI (6 * k)).toNatClampNeg &&& 63 = nI 22) (ih : ∀ x M2, lwI f0 f1 (k + 1) x M2 → z_E (zp_L_law kc ks) ret 18 [some (.ref 0), some (.ref 2), some (.ref 45), some (.int x)] [] (zLay n 15) M2) : z_run (z_from 18 (zp_L_law kc ks)) (z_E (zp_L_law kc ks) ret) ret [some (.ref 0), some (.ref 2), some (.ref 45), some (.int (nI (6 * k)))] [] (zLay n 15) M' := by
  refine z_bf (lw_go hk hn) ?_
  refine And.intro (z_inN0 (by omega) (by omega)) ?_
  refine z_swi (k := 22) (t := 792) rfl (by show (M' 0 (nI (6 * k)).toNatClampNeg &&& 63).toInt = _; rw [es]; decide) ?_
  refine z_go ?_
  refine z_cx (zMet_fz (e5_forget n M' w hI)) (fun M1 r1 => ?_)
  have k1 := rC_ge hC r1.1.2
  refine z_cx (zMet_fz (e6_forget n 15 M1 w k1)) (fun M2 r2 => ?_)
  refine z_bt rfl ?_
  refine z_go ?_
  exact ih _ _ ⟨(nForget w), cI_lt r1.1.1 (fun p hp => r2.1.2 p hp), r2.1.1, wb_forget hB, (r2.2.1.trans r1.2.1).trans e0, (r2.2.2.trans r1.2.2).trans e1, nI_add (6 * k) 6⟩
set_option maxRecDepth 20000 in
set_option maxHeartbeats 2000000 in
theorem lw_c_23 {n kc ks k : Nat} {ret : zR} {M' : zM} {w : Rw} {f0 f1 : Nat → Int32} (hn : n ≤ 3072) (hk : 6 * k + 6 ≤ n) (hI : cI w M') (hC : rC w M') (hB : wb2 w) (e0 : M' 0 = f0) (e1 : M' 1 = f1) (hD : ∀ i, i < 4 → f1 i = nI (hrs i)) (es : M' 0 (nI (6 * k)).toNatClampNeg &&& 63 = nI 23) (ih : ∀ x M2, lwI f0 f1 (k + 1) x M2 → z_E (zp_L_law kc ks) ret 18 [some (.ref 0), some (.ref 2), some (.ref 45), some (.int x)] [] (zLay n 15) M2) : z_run (z_from 18 (zp_L_law kc ks)) (z_E (zp_L_law kc ks) ret) ret [some (.ref 0), some (.ref 2), some (.ref 45), some (.int (nI (6 * k)))] [] (zLay n 15) M' := by
  refine z_bf (lw_go hk hn) ?_
  refine And.intro (z_inN0 (by omega) (by omega)) ?_
  refine z_swi (k := 23) (t := 805) rfl (by show (M' 0 (nI (6 * k)).toNatClampNeg &&& 63).toInt = _; rw [es]; decide) ?_
  refine z_go ?_
  refine z_cx (zMet_fz (e5_never n M' w hI)) (fun M1 r1 => ?_)
  have k1 := rC_ge hC r1.1.2
  refine z_cx (zMet_fz (e6_never n 15 M1 w k1)) (fun M2 r2 => ?_)
  refine z_bt rfl ?_
  refine z_go ?_
  exact ih _ _ ⟨w, cI_lt r1.1.1 (fun p hp => r2.1.2.1 p (Or.inl hp)), r2.1.1, hB, (r2.2.1.trans r1.2.1).trans e0, (r2.2.2.trans r1.2.2).trans e1, nI_add (6 * k) 6⟩
set_option maxRecDepth 20000 in
set_option maxHeartbeats 2000000 in
theorem lw_c_24 {n kc ks k : Nat} {ret : zR} {M' : zM} {w : Rw} {f0 f1 : Nat → Int32} (hn : n ≤ 3072) (hk : 6 * k + 6 ≤ n) (hI : cI w M') (hC : rC w M') (hB : wb2 w) (e0 : M' 0 = f0) (e1 : M' 1 = f1) (hD : ∀ i, i < 4 → f1 i = nI (hrs i)) (es : M' 0 (nI (6 * k)).toNatClampNeg &&& 63 = nI 24) (ih : ∀ x M2, lwI f0 f1 (k + 1) x M2 → z_E (zp_L_law kc ks) ret 18 [some (.ref 0), some (.ref 2), some (.ref 45), some (.int x)] [] (zLay n 15) M2) : z_run (z_from 18 (zp_L_law kc ks)) (z_E (zp_L_law kc ks) ret) ret [some (.ref 0), some (.ref 2), some (.ref 45), some (.int (nI (6 * k)))] [] (zLay n 15) M' := by
  refine z_bf (lw_go hk hn) ?_
  refine And.intro (z_inN0 (by omega) (by omega)) ?_
  refine z_swi (k := 24) (t := 818) rfl (by show (M' 0 (nI (6 * k)).toNatClampNeg &&& 63).toInt = _; rw [es]; decide) ?_
  refine z_go ?_
  refine And.intro (lw_ix (j := 1) (by omega) hn) ?_
  refine z_cx (zMet_fz (e5_was n M' w hI _)) (fun M1 r1 => ?_)
  have k1 := rC_ge hC r1.1.2
  refine And.intro (lw_ix (j := 1) (by omega) hn) ?_
  refine z_cx (zMet_fz (e6_was n 15 M1 w k1 _)) (fun M2 r2 => ?_)
  refine z_bt (congrArg (fun g : Nat → Int32 => aWas w (g (nI (6 * k) + 1).toNatClampNeg)) r1.2.1.symm) ?_
  refine z_go ?_
  exact ih _ _ ⟨w, cI_lt r1.1.1 (fun p hp => r2.1.2.1 p (Or.inl hp)), r2.1.1, hB, (r2.2.1.trans r1.2.1).trans e0, (r2.2.2.trans r1.2.2).trans e1, nI_add (6 * k) 6⟩
