/-! plans: elbow in the reference; shut, patch, least, in both -/
theorem pBest_ne {g : Nat → Option Nat} {n v : Nat} (h : g n = some v) : ∃ q, pBest g (n + 1) = some q := by
  rw [pBest, h]
  simp only
  cases pBest g n with
  | none => exact ⟨_, rfl⟩
  | some q =>
    simp only
    by_cases hv : v < q.2
    · rw [if_pos hv]; exact ⟨_, rfl⟩
    · rw [if_neg hv]; exact ⟨_, rfl⟩
def nB (i j : Nat) : Bool := !Nat.beq j i
theorem thB_but : ∀ i, i < 8 → ∀ j, j < 8 → mThB ((-1 : Int32) ^^^ ((1 : Int32) <<< (nI i &&& 31))) j = nB i j := by decide
theorem thN_but : ∀ i, i < 8 → ∀ j, j < 8 → mThN ((1 : Int32) <<< (nI i &&& 31)) j = nB i j := by decide
noncomputable section
def gShut (w : Rw) (k i : Nat) : Option Nat := if i = k then none else some (tOne w allB allB (nI i) (pWd (w.1 1) (w.2 0)) (eEl (w.1 2) (w.2 1)) (w.1 0 0) k)
def gPatch (w : Rw) (i : Nat) : Option Nat := some (tAll w (nB i) allB (-1) (pWd (w.1 1) (w.2 0)) (eEl (w.1 2) (w.2 1)) (w.1 0 0))
def aShut (w : Rw) (x y : Int32) : Int32 := if (0 ≤ x ∧ x ≤ nI (tN w) - 1) ∧ 0 ≤ y ∧ y ≤ 1 then pAns (pBest (gShut w x.toNatClampNeg) (tN w)) y.toNatClampNeg else -2
def aPatch (w : Rw) (x : Int32) : Int32 := if 0 ≤ x ∧ x ≤ 1 then pAns (pBest (gPatch w) (w.2 2)) x.toNatClampNeg else -2
end
theorem gShut_lt (w : Rw) (k : Nat) : ∀ i v, gShut w k i = some v → v < 999 := fun i v h => by
  unfold gShut at h
  by_cases e : i = k
  · rw [if_pos e] at h; cases h
  · rw [if_neg e] at h; cases h; exact tOne_lt _ _ _ _ _ _ _ _
theorem gPatch_lt (w : Rw) : ∀ i v, gPatch w i = some v → v < 999 := fun i v h => by
  cases h
  exact tAll_lt _ _ _ _ _ _ _
theorem pAns_0 (p : Option (Nat × Nat)) : pAns p 0 = pB p := by
  cases p <;> rfl
theorem pAns_1 {p : Option (Nat × Nat)} {q : Nat × Nat} (h : p = some q) : pAns p 1 = pM p := by
  subst h; rfl
theorem pB_p {g : Nat → Option Nat} {n v : Nat} (h : pBest g (n + 1) = some (n, v)) : pB (pBest g (n + 1)) = nI n ∧ pM (pBest g (n + 1)) = nI v := by rw [h]; exact ⟨rfl, rfl⟩
set_option maxRecDepth 10000 in
set_option maxHeartbeats 1000000 in
theorem d6_elbowOf0 (n eb : Nat) (M : zM) (w : Rw) (hC : rC w M) : zMet zi_X6_elbowOf [.ref 45, .int (nI 0)] (zLay n eb) M (zLay n eb) (zr (some (.int (aElbow w (nI 0)))) (fun M' => rC w M' ∧ rSm M M')) := by
  refine z_mr (zk_X6_elbowOf _ _) rfl (Nat.le_of_ble_eq_true rfl) rfl (fun ret hret => ?_)
  refine z_cx (d6_asTold n eb M w hC) (fun M1 h1 => ?_)
  have loop := z_l3 (P := zp_X6_elbowOf) (ret := ret) (pc := 13) (L := zLay n eb) (N := 40) (lo := fun b f x => [some (.ref 45), some (.int (nI 0)), some (.int b), some (.int f), some (.int x), none]) (I := fun h b f x M' => rkT 23 M1 M' ∧ b = pB (pBest (gElbow w) h) ∧ f = pM (pBest (gElbow w) h) ∧ x = nI h) (by
    rintro h b f x M' hh ⟨hM, rfl, rfl, rfl⟩ ih
    have hch : (nI h).toNatClampNeg = h := z_cl (by omega)
    have h60 : M' 60 = M1 60 := hM.1 60 (by omega) (by omega)
    have h53 : M' 53 = M1 53 := hM.1 53 (by omega) (by omega)
    have ht : rTr w (va_up M' 60 (upd (M' 60) (nI h).toNatClampNeg (M' 53 (nI h).toNatClampNeg + 1))) allB allB (-1) (pWd (w.1 1) (w.2 0)) (eUp (eEl (w.1 2) (w.2 1)) h) (w.1 0 0) := by
      obtain ⟨⟨-, b1, b2, b3, b4, b5, b6⟩, -, b7, -⟩ := id h1.2.1
      rw [hch, h60, h53]
      refine rTr_of h1.2.1 (fun p p1 p2 p3 => by rw [z_un (by omega)]; exact hM.1 p (by omega) (by omega)) ?_ ?_ ?_ ?_ ?_ ?_ ?_ ?_ ?_
      · show M' 45 2 = _; exact hM.2 2 (by omega) (by omega)
      · show M' 45 11 = _; exact hM.2 11 (by omega) (by omega)
      · show M' 45 15 = _; exact hM.2 15 (by omega) (by omega)
      · intro i hi; show mThN (M' 45 19) i = _; rw [hM.2 19 (by omega) (by omega)]; exact b1 i hi
      · intro i hi; show mThN (M' 45 20) i = _; rw [hM.2 20 (by omega) (by omega)]; exact b2 i hi
      · show M' 45 21 = _; rw [hM.2 21 (by omega) (by omega)]; exact b3
      · intro q hq; show M' 50 q = _; rw [hM.1 50 (by omega) (by omega)]; exact b4 q hq
      · intro t ht
        rw [z_us]
        unfold eUp
        by_cases e : t = h
        · subst e; rw [upd_eq, upd_eq, b7 t ht]
        · rw [upd_ne e, upd_ne e, b5 t ht]
      · show M' 45 22 = _; rw [hM.2 22 (by omega) (by omega)]; exact b6
    rcases pBest_st (n := h) (v := _) (gElbow_lt w) rfl with hq | hq
    · refine z_go ?_
      refine z_bf (nI_ge (a := h) (b := 40) hh (by omega)) ?_
      refine And.intro (z_inN0 (by omega) (by omega)) ?_
      refine And.intro (z_inN0 (by omega) (by omega)) ?_
      refine z_cx (d_runs n eb _ (ht)) (fun M2 h2 => ?_)
      obtain ⟨q1, q2, q3⟩ := h2
      refine And.intro (z_inN0 (by omega) (by omega)) ?_
      refine And.intro (z_inN0 (by omega) (by omega)) ?_
      refine z_ca (c6_shortAll n eb _ (tN w) _ (tN8 w) (by show M2 45 2 = _; rw [q1, upd_ne (by omega)]; show M' 45 2 = _; rw [hM.2 2 (by omega) (by omega)]; exact h1.2.1.1.1.2.1) (fun t ht => (show M2 65 t = _ from crs_sh q3 t ht))) ?_
      refine z_bt hq.1 ?_
      refine z_go ?_
      refine z_bt hq.1 ?_
      refine z_go ?_
      refine ih _ _ _ _ ⟨⟨fun p p1 p2 => by
          by_cases e : p = 60
          · subst e
            rw [z_us, q2 53 (by omega) (by omega), q2 60 (by omega) (by omega), z_us, z_un (by omega), hch, fa_upd_twice, h53, h60]
            exact fa_upd_same ((h1.2.1.1.2.2.2.2.2.1 h hh).trans (h1.2.1.2.2.1 h hh).symm)
          · rw [z_un e, q2 p p1 p2, z_un e]; exact hM.1 p p1 p2, fun i i1 i2 => by show M2 45 i = _; rw [q1, upd_ne i2]; exact hM.2 i i1 i2⟩, ?_, ?_, nI_1 h⟩
      · show pB (pBest (gElbow w) h) = _; rw [hq.2]
      · show pM (pBest (gElbow w) h) = _; rw [hq.2]
    · refine z_go ?_
      refine z_bf (nI_ge (a := h) (b := 40) hh (by omega)) ?_
      refine And.intro (z_inN0 (by omega) (by omega)) ?_
      refine And.intro (z_inN0 (by omega) (by omega)) ?_
      refine z_cx (d_runs n eb _ (ht)) (fun M2 h2 => ?_)
      obtain ⟨q1, q2, q3⟩ := h2
      refine And.intro (z_inN0 (by omega) (by omega)) ?_
      refine And.intro (z_inN0 (by omega) (by omega)) ?_
      refine z_ca (c6_shortAll n eb _ (tN w) _ (tN8 w) (by show M2 45 2 = _; rw [q1, upd_ne (by omega)]; show M' 45 2 = _; rw [hM.2 2 (by omega) (by omega)]; exact h1.2.1.1.1.2.1) (fun t ht => (show M2 65 t = _ from crs_sh q3 t ht))) ?_
      refine z_bf hq.1 ?_
      refine z_go ?_
      refine z_bf hq.1 ?_
      refine z_go ?_
      refine ih _ _ _ _ ⟨⟨fun p p1 p2 => by
          by_cases e : p = 60
          · subst e
            rw [z_us, q2 53 (by omega) (by omega), q2 60 (by omega) (by omega), z_us, z_un (by omega), hch, fa_upd_twice, h53, h60]
            exact fa_upd_same ((h1.2.1.1.2.2.2.2.2.1 h hh).trans (h1.2.1.2.2.1 h hh).symm)
          · rw [z_un e, q2 p p1 p2, z_un e]; exact hM.1 p p1 p2, fun i i1 i2 => by show M2 45 i = _; rw [q1, upd_ne i2]; exact hM.2 i i1 i2⟩, ?_, ?_, nI_1 h⟩
      · show nI h = _; exact (pB_p hq.2).1.symm
      · show nI _ = _; exact (pB_p hq.2).2.symm) (by
    rintro b f x M' ⟨hM, rfl, rfl, rfl⟩
    refine z_go ?_
    refine z_bt (nI_le (a := 40) (b := 40) (Nat.le_refl _) (by omega)) ?_
    refine z_go ?_
    refine z_bt rfl ?_
    refine z_go ?_
    refine z_rq hret (z_vi ?_) ⟨rC_sm h1.1 (rSm_rkT hM (by omega) (by omega) (by omega) (by omega)), rSm_tr h1.2.2 (rSm_rkT hM (by omega) (by omega) (by omega) (by omega))⟩
    rw [aElbow, if_pos (by decide), show (nI 0).toNatClampNeg = 0 from rfl, pAns_0])
  exact loop 0 _ _ _ _ (Nat.zero_le _) ⟨rkT_rf _ _, rfl, rfl, rfl⟩
set_option maxRecDepth 10000 in
set_option maxHeartbeats 1000000 in
theorem d6_elbowOf1 (n eb : Nat) (M : zM) (w : Rw) (hC : rC w M) : zMet zi_X6_elbowOf [.ref 45, .int (nI 1)] (zLay n eb) M (zLay n eb) (zr (some (.int (aElbow w (nI 1)))) (fun M' => rC w M' ∧ rSm M M')) := by
  refine z_mr (zk_X6_elbowOf _ _) rfl (Nat.le_of_ble_eq_true rfl) rfl (fun ret hret => ?_)
  refine z_cx (d6_asTold n eb M w hC) (fun M1 h1 => ?_)
  have loop := z_l3 (P := zp_X6_elbowOf) (ret := ret) (pc := 13) (L := zLay n eb) (N := 40) (lo := fun b f x => [some (.ref 45), some (.int (nI 1)), some (.int b), some (.int f), some (.int x), none]) (I := fun h b f x M' => rkT 23 M1 M' ∧ b = pB (pBest (gElbow w) h) ∧ f = pM (pBest (gElbow w) h) ∧ x = nI h) (by
    rintro h b f x M' hh ⟨hM, rfl, rfl, rfl⟩ ih
    have hch : (nI h).toNatClampNeg = h := z_cl (by omega)
    have h60 : M' 60 = M1 60 := hM.1 60 (by omega) (by omega)
    have h53 : M' 53 = M1 53 := hM.1 53 (by omega) (by omega)
    have ht : rTr w (va_up M' 60 (upd (M' 60) (nI h).toNatClampNeg (M' 53 (nI h).toNatClampNeg + 1))) allB allB (-1) (pWd (w.1 1) (w.2 0)) (eUp (eEl (w.1 2) (w.2 1)) h) (w.1 0 0) := by
      obtain ⟨⟨-, b1, b2, b3, b4, b5, b6⟩, -, b7, -⟩ := id h1.2.1
      rw [hch, h60, h53]
      refine rTr_of h1.2.1 (fun p p1 p2 p3 => by rw [z_un (by omega)]; exact hM.1 p (by omega) (by omega)) ?_ ?_ ?_ ?_ ?_ ?_ ?_ ?_ ?_
      · show M' 45 2 = _; exact hM.2 2 (by omega) (by omega)
      · show M' 45 11 = _; exact hM.2 11 (by omega) (by omega)
      · show M' 45 15 = _; exact hM.2 15 (by omega) (by omega)
      · intro i hi; show mThN (M' 45 19) i = _; rw [hM.2 19 (by omega) (by omega)]; exact b1 i hi
      · intro i hi; show mThN (M' 45 20) i = _; rw [hM.2 20 (by omega) (by omega)]; exact b2 i hi
      · show M' 45 21 = _; rw [hM.2 21 (by omega) (by omega)]; exact b3
      · intro q hq; show M' 50 q = _; rw [hM.1 50 (by omega) (by omega)]; exact b4 q hq
      · intro t ht
        rw [z_us]
        unfold eUp
        by_cases e : t = h
        · subst e; rw [upd_eq, upd_eq, b7 t ht]
        · rw [upd_ne e, upd_ne e, b5 t ht]
      · show M' 45 22 = _; rw [hM.2 22 (by omega) (by omega)]; exact b6
    rcases pBest_st (n := h) (v := _) (gElbow_lt w) rfl with hq | hq
    · refine z_go ?_
      refine z_bf (nI_ge (a := h) (b := 40) hh (by omega)) ?_
      refine And.intro (z_inN0 (by omega) (by omega)) ?_
      refine And.intro (z_inN0 (by omega) (by omega)) ?_
      refine z_cx (d_runs n eb _ (ht)) (fun M2 h2 => ?_)
      obtain ⟨q1, q2, q3⟩ := h2
      refine And.intro (z_inN0 (by omega) (by omega)) ?_
      refine And.intro (z_inN0 (by omega) (by omega)) ?_
      refine z_ca (c6_shortAll n eb _ (tN w) _ (tN8 w) (by show M2 45 2 = _; rw [q1, upd_ne (by omega)]; show M' 45 2 = _; rw [hM.2 2 (by omega) (by omega)]; exact h1.2.1.1.1.2.1) (fun t ht => (show M2 65 t = _ from crs_sh q3 t ht))) ?_
      refine z_bt hq.1 ?_
      refine z_go ?_
      refine z_bt hq.1 ?_
      refine z_go ?_
      refine ih _ _ _ _ ⟨⟨fun p p1 p2 => by
          by_cases e : p = 60
          · subst e
            rw [z_us, q2 53 (by omega) (by omega), q2 60 (by omega) (by omega), z_us, z_un (by omega), hch, fa_upd_twice, h53, h60]
            exact fa_upd_same ((h1.2.1.1.2.2.2.2.2.1 h hh).trans (h1.2.1.2.2.1 h hh).symm)
          · rw [z_un e, q2 p p1 p2, z_un e]; exact hM.1 p p1 p2, fun i i1 i2 => by show M2 45 i = _; rw [q1, upd_ne i2]; exact hM.2 i i1 i2⟩, ?_, ?_, nI_1 h⟩
      · show pB (pBest (gElbow w) h) = _; rw [hq.2]
      · show pM (pBest (gElbow w) h) = _; rw [hq.2]
    · refine z_go ?_
      refine z_bf (nI_ge (a := h) (b := 40) hh (by omega)) ?_
      refine And.intro (z_inN0 (by omega) (by omega)) ?_
      refine And.intro (z_inN0 (by omega) (by omega)) ?_
      refine z_cx (d_runs n eb _ (ht)) (fun M2 h2 => ?_)
      obtain ⟨q1, q2, q3⟩ := h2
      refine And.intro (z_inN0 (by omega) (by omega)) ?_
      refine And.intro (z_inN0 (by omega) (by omega)) ?_
      refine z_ca (c6_shortAll n eb _ (tN w) _ (tN8 w) (by show M2 45 2 = _; rw [q1, upd_ne (by omega)]; show M' 45 2 = _; rw [hM.2 2 (by omega) (by omega)]; exact h1.2.1.1.1.2.1) (fun t ht => (show M2 65 t = _ from crs_sh q3 t ht))) ?_
      refine z_bf hq.1 ?_
      refine z_go ?_
      refine z_bf hq.1 ?_
      refine z_go ?_
      refine ih _ _ _ _ ⟨⟨fun p p1 p2 => by
          by_cases e : p = 60
          · subst e
            rw [z_us, q2 53 (by omega) (by omega), q2 60 (by omega) (by omega), z_us, z_un (by omega), hch, fa_upd_twice, h53, h60]
            exact fa_upd_same ((h1.2.1.1.2.2.2.2.2.1 h hh).trans (h1.2.1.2.2.1 h hh).symm)
          · rw [z_un e, q2 p p1 p2, z_un e]; exact hM.1 p p1 p2, fun i i1 i2 => by show M2 45 i = _; rw [q1, upd_ne i2]; exact hM.2 i i1 i2⟩, ?_, ?_, nI_1 h⟩
      · show nI h = _; exact (pB_p hq.2).1.symm
      · show nI _ = _; exact (pB_p hq.2).2.symm) (by
    rintro b f x M' ⟨hM, rfl, rfl, rfl⟩
    refine z_go ?_
    refine z_bt (nI_le (a := 40) (b := 40) (Nat.le_refl _) (by omega)) ?_
    refine z_go ?_
    refine z_bf (by decide) ?_
    refine z_go ?_
    refine z_rq hret (z_vi ?_) ⟨rC_sm h1.1 (rSm_rkT hM (by omega) (by omega) (by omega) (by omega)), rSm_tr h1.2.2 (rSm_rkT hM (by omega) (by omega) (by omega) (by omega))⟩
    obtain ⟨q, hq⟩ := pBest_ne (g := gElbow w) (n := 39) rfl
    rw [aElbow, if_pos (by decide), show (nI 1).toNatClampNeg = 1 from rfl, pAns_1 hq])
  exact loop 0 _ _ _ _ (Nat.zero_le _) ⟨rkT_rf _ _, rfl, rfl, rfl⟩
set_option maxRecDepth 10000 in
set_option maxHeartbeats 1000000 in
theorem e6_elbow (n eb : Nat) (M : zM) (w : Rw) (hC : rC w M) (x : Int32) : zMet zi_X6_elbow [.ref 45, .int x] (zLay n eb) M (zLay n eb) (zr (some (.int (aElbow w x))) (fun M' => rC w M' ∧ rSm M M')) := by
  refine z_mr (zk_X6_elbow _ _) rfl (Nat.le_of_ble_eq_true rfl) rfl (fun ret hret => ?_)
  by_cases hx : 0 ≤ x ∧ x ≤ 1
  · obtain ⟨j, hj, rfl⟩ := rg 1 rfl (by omega) hx
    rcases (show j = 0 ∨ j = 1 by omega) with e | e
    · subst e
      refine z_ca (z_cv 1 (c6_in _ _ _ _ _ (Nat.le_of_ble_eq_true rfl)) (zb_1 hx)) ?_
      refine z_bf (by decide) ?_
      refine z_cx (d6_elbowOf0 n eb M w hC) (fun M1 h1 => ?_)
      refine z_go ?_
      exact z_rq hret rfl h1
    · subst e
      refine z_ca (z_cv 1 (c6_in _ _ _ _ _ (Nat.le_of_ble_eq_true rfl)) (zb_1 hx)) ?_
      refine z_bf (by decide) ?_
      refine z_cx (d6_elbowOf1 n eb M w hC) (fun M1 h1 => ?_)
      refine z_go ?_
      exact z_rq hret rfl h1
  · refine z_ca (z_cv 0 (c6_in _ _ _ _ _ (Nat.le_of_ble_eq_true rfl)) (zb_0 hx)) ?_
    refine z_bt (by decide) ?_
    refine z_go ?_
    exact z_rq hret (z_vi (show _ = aElbow w x from (if_neg hx).symm)) ⟨hC, rSm_rf M⟩
set_option maxRecDepth 10000 in
set_option maxHeartbeats 1000000 in
theorem d5_bestShut (n : Nat) (M : zM) (w : Rw) (hI : cI w M) (k : Nat) (hk : k < tN w) : zMet zi_X5_bestShut [.ref 2, .int (nI k)] (zLay n 15) M (zLay n 15) (zr (some (.int (pE (pBest (gShut w k) (tN w))))) (fun M' => cI w M' ∧ ∀ p, 45 ≤ p → M' p = M p)) := by
  refine z_mr (zk_X5_bestShut _ _) rfl (Nat.le_of_ble_eq_true rfl) rfl (fun ret hret => ?_)
  have h8 := tN8 w
  have loop := z_l2 (P := zp_X5_bestShut) (ret := ret) (pc := 5) (L := zLay n 15) (N := tN w) (lo := fun b x => [some (.ref 2), some (.int (nI k)), some (.int b), some (.int x)]) (I := fun h b x M' => kpU 15 M M' ∧ b = pE (pBest (gShut w k) h) ∧ x = nI h) (by
    rintro h b x M' hh ⟨hM, rfl, rfl⟩ ih
    by_cases ek : h = k
    · have hno : gShut w k h = none := if_pos ek
      refine z_go ?_
      refine z_bf (by show ¬ M' 8 6 ≤ nI h; rw [hM.1 8 (by omega) (by omega), hI.1.2.2.2.2.1]; exact nI_ge hh (by omega)) ?_
      refine z_bt (by rw [ek]) ?_
      refine z_go ?_
      exact ih _ _ _ ⟨hM, (pBest_no hno).symm ▸ rfl, nI_1 h⟩
    · have ht := cTr_15 (v := nI h) hI.1 hM
      refine z_go ?_
      refine z_bf (by show ¬ M' 8 6 ≤ nI h; rw [hM.1 8 (by omega) (by omega), hI.1.2.2.2.2.1]; exact nI_ge hh (by omega)) ?_
      refine z_bf (fun c => ek ((nI_eq (by omega) (by omega)).mp c)) ?_
      refine z_cx (d_fol28_15 n _ (ht)) (fun M2 h2 => ?_)
      obtain ⟨q1, q2⟩ := h2
      refine z_ca (c0_shortHours28 n 15 _ (tN w) k _ h8 hk (fun t ht => (show M2 32 t = _ from crs_sh q2 t ht))) ?_
      refine ih _ _ _ ⟨kpU_fol hM q1, ?_, nI_1 h⟩
      exact pE_st (g := gShut w k) (by omega) (gShut_lt w k) (if_neg ek)) (by
    rintro b x M' ⟨hM, rfl, rfl⟩
    refine z_go ?_
    refine z_bt (by show M' 8 6 ≤ nI (tN w); rw [hM.1 8 (by omega) (by omega), hI.1.2.2.2.2.1]; exact nI_le (Nat.le_refl _) (by omega)) ?_
    refine z_go ?_
    exact z_rq hret rfl ⟨cI_kpT hI (kpU_end hM hI.1.2.2.2.1.2.2.2.2.2.2.2.2), fun p hp => kpU_end hM hI.1.2.2.2.1.2.2.2.2.2.2.2.2 p (by omega)⟩)
  exact loop 0 _ _ _ (Nat.zero_le _) ⟨kpU_rf _ _, rfl, rfl⟩
set_option maxRecDepth 10000 in
set_option maxHeartbeats 1000000 in
theorem d5_bestPatch (n : Nat) (M : zM) (w : Rw) (hI : cI w M) : zMet zi_X5_bestPatch [.ref 2] (zLay n 15) M (zLay n 15) (zr (some (.int (pE (pBest (gPatch w) (w.2 2))))) (fun M' => cI w M' ∧ ∀ p, 45 ≤ p → M' p = M p)) := by
  refine z_mr (zk_X5_bestPatch _ _) rfl (Nat.le_of_ble_eq_true rfl) rfl (fun ret hret => ?_)
  have h6 := hI.1.1.1.2.2.1
  have loop := z_l2 (P := zp_X5_bestPatch) (ret := ret) (pc := 5) (L := zLay n 15) (N := w.2 2) (lo := fun b x => [some (.ref 2), some (.int b), some (.int x)]) (I := fun h b x M' => kpU 10 M M' ∧ b = pE (pBest (gPatch w) h) ∧ x = nI h) (by
    rintro h b x M' hh ⟨hM, rfl, rfl⟩ ih
    have ht := cTr_10 (v := (-1 : Int32) ^^^ ((1 : Int32) <<< (nI h &&& 31))) (thL := nB h) hI.1 hM (fun i hi => thB_but h (by omega) i (by omega))
    refine z_go ?_
    refine z_bf (by show ¬ M' 7 9 ≤ nI h; rw [hM.2 9 (by omega), hI.1.2.2.2.1.2.2.2.2.1]; exact nI_ge hh (by omega)) ?_
    refine z_cx (d_fol28_15 n _ (ht)) (fun M2 h2 => ?_)
    obtain ⟨q1, q2⟩ := h2
    refine z_ca (c0_shortsInAll28 n 15 _ (tN w) _ (tN8 w) (fun t ht => (show M2 32 t = _ from crs_sh q2 t ht))) ?_
    refine ih _ _ _ ⟨kpU_fol hM q1, ?_, nI_1 h⟩
    exact pE_st (g := gPatch w) (by omega) (gPatch_lt w) rfl) (by
    rintro b x M' ⟨hM, rfl, rfl⟩
    refine z_go ?_
    refine z_bt (by show M' 7 9 ≤ nI (w.2 2); rw [hM.2 9 (by omega), hI.1.2.2.2.1.2.2.2.2.1]; exact nI_le (Nat.le_refl _) (by omega)) ?_
    refine z_go ?_
    exact z_rq hret rfl ⟨cI_kpT hI (kpU_end hM hI.1.2.2.2.1.2.2.2.2.2.1), fun p hp => kpU_end hM hI.1.2.2.2.1.2.2.2.2.2.1 p (by omega)⟩)
  exact loop 0 _ _ _ (Nat.zero_le _) ⟨kpU_rf _ _, rfl, rfl⟩
set_option maxRecDepth 10000 in
set_option maxHeartbeats 1000000 in
theorem e5_patch (n : Nat) (M : zM) (w : Rw) (hI : cI w M) (x : Int32) : zMet zi_X5_patch [.ref 2, .int x] (zLay n 15) M (zLay n 15) (zr (some (.int (aPatch w x))) (fun M' => cI w M' ∧ ∀ p, 45 ≤ p → M' p = M p)) := by
  refine z_mr (zk_X5_patch _ _) rfl (Nat.le_of_ble_eq_true rfl) rfl (fun ret hret => ?_)
  have h6 := hI.1.1.1.2.2.1
  by_cases hx : 0 ≤ x ∧ x ≤ 1
  · obtain ⟨j, hj, rfl⟩ := rg 1 rfl (by omega) hx
    refine z_ca (z_cv 1 (c5_within _ _ _ _ _ (Nat.le_of_ble_eq_true rfl)) (zb_1 hx)) ?_
    refine z_bf (by decide) ?_
    refine z_cx (d5_bestPatch n M w hI) (fun M1 h1 => ?_)
    refine z_ca (z_cv _ (c5_partOf _ _ _ _ (Nat.le_of_ble_eq_true rfl)) (pE_part _ j hj (fun q hq => ⟨by have := (pBest_lt _ q hq).1; omega, gPatch_lt w _ _ (pBest_lt _ q hq).2⟩))) ?_
    refine z_go ?_
    exact z_rq hret (z_vi (by rw [aPatch, if_pos hx, z_cl (by omega)])) h1
  · refine z_ca (z_cv 0 (c5_within _ _ _ _ _ (Nat.le_of_ble_eq_true rfl)) (zb_0 hx)) ?_
    refine z_bt (by decide) ?_
    refine z_go ?_
    exact z_rq hret (z_vi (by rw [aPatch, if_neg hx])) ⟨hI, fun _ _ => rfl⟩
set_option maxRecDepth 10000 in
set_option maxHeartbeats 1000000 in
theorem e5_shut (n : Nat) (M : zM) (w : Rw) (hI : cI w M) (x y : Int32) : zMet zi_X5_shut [.ref 2, .int x, .int y] (zLay n 15) M (zLay n 15) (zr (some (.int (aShut w x y))) (fun M' => cI w M' ∧ ∀ p, 45 ≤ p → M' p = M p)) := by
  refine z_mr (zk_X5_shut _ _) rfl (Nat.le_of_ble_eq_true rfl) rfl (fun ret hret => ?_)
  have h8 := tN8 w
  by_cases hx : 0 ≤ x ∧ x ≤ nI (tN w) - 1
  · by_cases hy : 0 ≤ y ∧ y ≤ 1
    · obtain ⟨k, hk, rfl⟩ := rgH h8 hx
      obtain ⟨j, hj, rfl⟩ := rg 1 rfl (by omega) hy
      refine z_ca (z_cv 1 (d5_isHouse n 15 M w hI.1 _) (zb_1 hx)) ?_
      refine z_bf (by decide) ?_
      refine z_ca (z_cv 1 (c5_within _ _ _ _ _ (Nat.le_of_ble_eq_true rfl)) (zb_1 hy)) ?_
      refine z_bf (by decide) ?_
      refine z_cx (d5_bestShut n M w hI k hk) (fun M1 h1 => ?_)
      refine z_ca (z_cv _ (c5_partOf _ _ _ _ (Nat.le_of_ble_eq_true rfl)) (pE_part _ j hj (fun q hq => ⟨by have := (pBest_lt _ q hq).1; omega, gShut_lt w _ _ _ (pBest_lt _ q hq).2⟩))) ?_
      refine z_go ?_
      exact z_rq hret (z_vi (by rw [aShut, if_pos ⟨hx, hy⟩, z_cl (by omega), z_cl (by omega)])) h1
    · refine z_ca (z_cv 1 (d5_isHouse n 15 M w hI.1 _) (zb_1 hx)) ?_
      refine z_bf (by decide) ?_
      refine z_ca (z_cv 0 (c5_within _ _ _ _ _ (Nat.le_of_ble_eq_true rfl)) (zb_0 hy)) ?_
      refine z_bt (by decide) ?_
      refine z_go ?_
      exact z_rq hret (z_vi (show _ = aShut w x y from (if_neg (fun z => hy z.2)).symm)) ⟨hI, fun _ _ => rfl⟩
  · refine z_ca (z_cv 0 (d5_isHouse n 15 M w hI.1 _) (zb_0 hx)) ?_
    refine z_bt (by decide) ?_
    refine z_go ?_
    exact z_rq hret (z_vi (show _ = aShut w x y from (if_neg (fun z => hx z.1)).symm)) ⟨hI, fun _ _ => rfl⟩
