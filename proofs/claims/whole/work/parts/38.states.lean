/-! trials, and the states of class and reference -/
theorem d_fol21_15 (n : Nat) (M : zM) {w : Rw} {thL thP : Nat → Bool} {sh : Int32} {wd el : Nat → Int32} {st : Int32} (h : cTr w M 15 thL thP sh wd el st) : zMet zi_X0_follow [.ref 21, .ref 7] (zLay n 15) M (zLay n 15) (zr none (fun M' => (∀ p, p ≤ 21 ∨ 27 < p → M' p = M p) ∧ crs 21 (tN w) (tHr w thL thP sh wd el st) M')) :=
  zMet_imp (c0_follow21_15 n M _ _ _ _ _ _ (cTr_tw h)) (fun M' q => ⟨q.1, fun j hj => mRes_cong (q.2 j hj) (cTr_hr h hj)⟩)
theorem d_fol28_15 (n : Nat) (M : zM) {w : Rw} {thL thP : Nat → Bool} {sh : Int32} {wd el : Nat → Int32} {st : Int32} (h : cTr w M 15 thL thP sh wd el st) : zMet zi_X0_follow [.ref 28, .ref 7] (zLay n 15) M (zLay n 15) (zr none (fun M' => (∀ p, p ≤ 28 ∨ 34 < p → M' p = M p) ∧ crs 28 (tN w) (tHr w thL thP sh wd el st) M')) :=
  zMet_imp (c0_follow28_15 n M _ _ _ _ _ _ (cTr_tw h)) (fun M' q => ⟨q.1, fun j hj => mRes_cong (q.2 j hj) (cTr_hr h hj)⟩)
theorem d_fol28_36 (n : Nat) (M : zM) {w : Rw} {thL thP : Nat → Bool} {sh : Int32} {wd el : Nat → Int32} {st : Int32} (h : cTr w M 36 thL thP sh wd el st) : zMet zi_X0_follow [.ref 28, .ref 7] (zLay n 36) M (zLay n 36) (zr none (fun M' => (∀ p, p ≤ 28 ∨ 34 < p → M' p = M p) ∧ crs 28 (tN w) (tHr w thL thP sh wd el st) M')) :=
  zMet_imp (c0_follow28_36 n M _ _ _ _ _ _ (cTr_tw h)) (fun M' q => ⟨q.1, fun j hj => mRes_cong (q.2 j hj) (cTr_hr h hj)⟩)
theorem d_runs (n eb : Nat) (M : zM) {w : Rw} {thL thP : Nat → Bool} {sh : Int32} {wd el : Nat → Int32} {st : Int32} (h : rTr w M thL thP sh wd el st) : zMet zi_X6_runs [.ref 45] (zLay n eb) M (zLay n eb) (zr none (fun M' => M' 45 = upd (M 45) 23 (tHr w thL thP sh wd el st 39).1 ∧ (∀ p, p ≠ 45 → p < 61 ∨ 66 < p → M' p = M p) ∧ crs 61 (tN w) (tHr w thL thP sh wd el st) M')) :=
  zMet_imp (c6_runs n eb M _ _ _ _ _ _ (rTr_tw h)) (fun M' q => ⟨by rw [q.1, ← rTr_hr h (show 39 < 40 by omega)]; rfl, q.2.1, fun j hj => mRes_cong (q.2.2 j hj) (rTr_hr h hj)⟩)
theorem crs_sh {C : Nat} {w : Rw} {thL thP : Nat → Bool} {sh : Int32} {wd el : Nat → Int32} {st : Int32} {M : zM} (h : crs C (tN w) (tHr w thL thP sh wd el st) M) : ∀ j, j < 40 → M (C + 4) j = nI (bw (tSh w thL thP sh wd el st j) (tN w)) := fun j hj => by
  rw [(h j hj).2.2.2.1]
  exact tHr_short w thL thP sh wd el st j
def allB (_ : Nat) : Bool := true
theorem thB_all : ∀ i, i < 8 → mThB (-1) i = true := by decide
theorem thN_all : ∀ i, i < 8 → mThN 0 i = true := by decide
noncomputable section
/-- the hours as told -/
def tHt (w : Rw) : Nat → Int32 × Int32 × Int32 × Int32 × (Nat → Int32) := tHr w allB allB (-1) (pWd (w.1 1) (w.2 0)) (eEl (w.1 2) (w.2 1)) (w.1 0 0)
def tSt (w : Rw) : Nat → Nat → Bool := tSh w allB allB (-1) (pWd (w.1 1) (w.2 0)) (eEl (w.1 2) (w.2 1)) (w.1 0 0)
end
/-- what holds of all that may be told -/
def wf (w : Rw) : Prop :=
  (w.2 0 ≤ 55 ∧ w.2 1 ≤ 40 ∧ w.2 2 ≤ 6 ∧ w.2 3 ≤ 6 ∧ w.2 4 ≤ 8) ∧ rBy (w.1 1) (w.2 0) ∧ (∀ i, i < w.2 3 → ∃ q, q < 8 ∧ w.1 7 i = nI q) ∧ (∀ i, i < w.2 4 → (∃ t, t < 40 ∧ w.1 8 i = nI t) ∧ ∃ q, q < 8 ∧ w.1 9 i = nI q) ∧ ∀ s, s < 4 → (w.1 11 s = 0 ∨ w.1 11 s = 1) ∧ (w.1 11 s = 1 → (w.1 12 s = 0 ∨ w.1 12 s = 1 ∨ w.1 12 s = 2) ∧ ∃ z, z ≤ 60 ∧ w.1 13 s = nI z)
/-- the class's cells that no question changes -/
def cC (w : Rw) (M : zM) : Prop :=
  wf w ∧ (M 3 1 = 55 ∧ M 3 2 = nI (w.2 0) ∧ M 3 3 = (pRes (w.1 1) (w.2 0)).1 ∧ M 4 = w.1 1) ∧ (M 5 1 = 40 ∧ M 5 2 = nI (w.2 1) ∧ M 5 3 = eFt (w.1 2) (w.2 1) ∧ M 6 = w.1 2) ∧
  (M 7 2 = nI (eMn (w.1 2) (w.2 1)) ∧ M 7 3 = w.1 0 0 ∧ M 7 4 = w.1 0 1 ∧ M 7 5 = w.1 0 2 ∧ M 7 9 = nI (w.2 2) ∧ M 7 10 = -1 ∧ M 7 13 = nI (w.2 3) ∧ M 7 14 = -1 ∧ M 7 15 = -1) ∧ M 8 6 = nI (tN w) ∧ cHm (w.1 1) (w.2 0) (tN w) M ∧ (∀ h, h < 40 → M 15 h = eEl (w.1 2) (w.2 1) h) ∧
  (M 16 = w.1 3 ∧ M 17 = w.1 4 ∧ M 18 = w.1 5 ∧ M 19 = w.1 6 ∧ M 20 = w.1 7) ∧ (M 38 = w.1 8 ∧ M 39 = w.1 9 ∧ M 40 = w.1 10) ∧ (∀ s, s < 4 → M 42 s = (if w.1 11 s = 0 then -1 else w.1 12 s) ∧ (w.1 11 s = 1 → M 43 s = w.1 13 s)) ∧ M 44 = w.1 14 ∧ M 2 13 = nI (w.2 4) ∧ M 2 15 = w.1 0 3
/-- M' holds in all these what M holds -/
def cSm (M M' : zM) : Prop := (∀ p, 3 ≤ p → p ≤ 20 → M' p = M p) ∧ (∀ p, 38 ≤ p → p ≤ 44 → M' p = M p) ∧ M' 2 13 = M 2 13 ∧ M' 2 15 = M 2 15
theorem cC_sm {w : Rw} {M M' : zM} (h : cC w M) (s : cSm M M') : cC w M' := by
  obtain ⟨s1, s2, s3, s4⟩ := s
  unfold cC cHm at *
  rw [s1 3 (by omega) (by omega), s1 4 (by omega) (by omega), s1 5 (by omega) (by omega), s1 6 (by omega) (by omega), s1 7 (by omega) (by omega), s1 8 (by omega) (by omega), s1 9 (by omega) (by omega), s1 10 (by omega) (by omega), s1 11 (by omega) (by omega), s1 12 (by omega) (by omega), s1 13 (by omega) (by omega), s1 14 (by omega) (by omega), s1 15 (by omega) (by omega), s1 16 (by omega) (by omega), s1 17 (by omega) (by omega), s1 18 (by omega) (by omega), s1 19 (by omega) (by omega), s1 20 (by omega) (by omega), s2 38 (by omega) (by omega), s2 39 (by omega) (by omega), s2 40 (by omega) (by omega), s2 42 (by omega) (by omega), s2 43 (by omega) (by omega), s2 44 (by omega) (by omega), s3, s4]
  exact h
/-- the town of the class is the town as told -/
theorem cC_tr {w : Rw} {M : zM} (h : cC w M) : cTr w M 15 allB allB (-1) (pWd (w.1 1) (w.2 0)) (eEl (w.1 2) (w.2 1)) (w.1 0 0) := by
  obtain ⟨⟨⟨w1, w2, w3, w4, w5⟩, wb, wp, -⟩, -, -, ⟨t1, t2, t3, t4, t5, t6, t7, t8, t9⟩, h8, hm, he, ⟨l1, l2, l3, l4, l5⟩, -⟩ := h
  refine ⟨⟨⟨w3, w4, wp⟩, h8, fun k hk => ⟨(hm k hk).1, (hm k hk).2.1, (hm k hk).2.2.2.2.2⟩, t5, t7, l1, l2, l3, l4, l5, t3, t4⟩, fun i hi => ?_, fun i hi => ?_, t9, fun k hk => (hm k hk).2.2.1, he, t2⟩
  · rw [t6]; exact thB_all i (by omega)
  · rw [t8]; exact thB_all i (by omega)
/-- the caches: the told course, and who is short by which leaks -/
def cT (w : Rw) (M : zM) : Prop := M 2 5 = 0 ∨ (M 2 5 = 1 ∧ crs 21 (tN w) (tHt w) M)
noncomputable section
/-- the leaks of the choice c (its bits) are there: who is ever short -/
def tCh (c : Nat) (i : Nat) : Bool := mThB (nI c) i
def tEv (w : Rw) (c k : Nat) : Bool := decide (¬ cnt (fun h => tSh w (tCh c) allB (-1) (pWd (w.1 1) (w.2 0)) (eEl (w.1 2) (w.2 1)) (w.1 0 0) h k) 40 = 0)
end
def cL (w : Rw) (M : zM) : Prop := M 2 7 = 0 ∨ (M 2 7 = 1 ∧ ∀ c, c < 2 ^ w.2 2 → M 35 c = nI (bw (tEv w c) (tN w)))
def cI (w : Rw) (M : zM) : Prop := cC w M ∧ cT w M ∧ cL w M
theorem cT_kp {w : Rw} {M M' : zM} (h : cT w M) (s5 : M' 2 5 = M 2 5) (s : ∀ p, 21 ≤ p → p ≤ 27 → M' p = M p) : cT w M' := by
  unfold cT crs mRes at *
  rw [s5, s (21 + 1) (by omega) (by omega), s (21 + 2) (by omega) (by omega), s (21 + 3) (by omega) (by omega), s (21 + 4) (by omega) (by omega), s (21 + 5) (by omega) (by omega)]
  exact h
theorem cL_kp {w : Rw} {M M' : zM} (h : cL w M) (s7 : M' 2 7 = M 2 7) (s : M' 35 = M 35) : cL w M' := by
  unfold cL at *
  rw [s7, s]
  exact h
set_option maxRecDepth 10000 in
set_option maxHeartbeats 1000000 in
theorem d5_toldCourse (n : Nat) (M : zM) (w : Rw) (hI : cI w M) : zMet zi_X5_toldCourse [.ref 2] (zLay n 15) M (zLay n 15) (zr (some (.ref 21)) (fun M' => cI w M' ∧ crs 21 (tN w) (tHt w) M' ∧ ∀ p, 45 ≤ p → M' p = M p)) := by
  refine z_mr (zk_X5_toldCourse _ _) rfl (Nat.le_of_ble_eq_true rfl) rfl (fun ret hret => ?_)
  refine z_br (fun h1n => ?_) (fun h1j => ?_)
  · refine z_cx (d_fol21_15 n M (cC_tr hI.1)) (fun M1 h1 => ?_)
    refine And.intro ⟨rfl, rfl⟩ ?_
    obtain ⟨q1, q2⟩ := h1
    have sm : cSm M (va_up M1 2 (upd (M1 2) 5 1)) := ⟨fun p p1 p2 => by rw [z_un (by omega)]; exact q1 p (by omega), fun p p1 p2 => by rw [z_un (by omega)]; exact q1 p (by omega), by show M1 2 13 = _; rw [q1 2 (by omega)], by show M1 2 15 = _; rw [q1 2 (by omega)]⟩
    refine z_rq hret rfl ⟨⟨cC_sm hI.1 sm, Or.inr ⟨rfl, q2⟩, cL_kp hI.2.2 (by show M1 2 7 = _; rw [q1 2 (by omega)]) (by rw [z_un (by omega)]; exact q1 35 (by omega))⟩, q2, fun p hp => ?_⟩
    rw [z_un (by omega)]; exact q1 p (by omega)
  · refine z_go ?_
    rcases hI.2.1 with z | ⟨z, zc⟩
    · exact absurd z h1j
    · exact z_rq hret rfl ⟨hI, zc, fun _ _ => rfl⟩
/-- the reference's cells of what is told -/
def rC (w : Rw) (M : zM) : Prop :=
  wf w ∧ (M 46 0 = nI (w.2 0) ∧ M 46 1 = nI (w.2 1)) ∧ (∀ i, i < 55 → M 47 i = w.1 1 i) ∧ (∀ i, i < 40 → M 47 (55 + i) = w.1 2 i) ∧ (M 54 0 = w.1 0 0 ∧ M 54 1 = w.1 0 1 ∧ M 54 2 = w.1 0 2) ∧ (M 45 11 = nI (w.2 2) ∧ M 45 15 = nI (w.2 3) ∧ M 45 30 = nI (w.2 4) ∧ M 45 40 = w.1 0 3) ∧ (M 55 = w.1 3 ∧ M 56 = w.1 4 ∧ M 57 = w.1 5 ∧ M 58 = w.1 6 ∧ M 59 = w.1 7) ∧ (M 67 = w.1 8 ∧ M 68 = w.1 9 ∧ M 69 = w.1 10) ∧ (M 71 = w.1 11 ∧ M 72 = w.1 12 ∧ M 73 = w.1 13 ∧ M 74 = w.1 14)
def rSm (M M' : zM) : Prop := (∀ p, p < 45 ∨ p = 46 ∨ p = 47 ∨ (54 ≤ p ∧ p ≤ 59) ∨ (67 ≤ p ∧ p ≤ 69) ∨ (71 ≤ p ∧ p ≤ 74) → M' p = M p) ∧ M' 45 11 = M 45 11 ∧ M' 45 15 = M 45 15 ∧ M' 45 30 = M 45 30 ∧ M' 45 40 = M 45 40
theorem rSm_rf (M : zM) : rSm M M := ⟨fun _ _ => rfl, rfl, rfl, rfl, rfl⟩
theorem rSm_tr {M M' M'' : zM} (h : rSm M M') (h' : rSm M' M'') : rSm M M'' := ⟨fun p hp => (h'.1 p hp).trans (h.1 p hp), h'.2.1.trans h.2.1, h'.2.2.1.trans h.2.2.1, h'.2.2.2.1.trans h.2.2.2.1, h'.2.2.2.2.trans h.2.2.2.2⟩
theorem rC_sm {w : Rw} {M M' : zM} (h : rC w M) (s : rSm M M') : rC w M' := by
  obtain ⟨s1, s2, s3, s4, s5⟩ := s
  unfold rC at *
  rw [s1 46 (by omega), s1 47 (by omega), s1 54 (by omega), s1 55 (by omega), s1 56 (by omega), s1 57 (by omega), s1 58 (by omega), s1 59 (by omega), s1 67 (by omega), s1 68 (by omega), s1 69 (by omega), s1 71 (by omega), s1 72 (by omega), s1 73 (by omega), s1 74 (by omega), s2, s3, s4, s5]
  exact h
theorem rC_tx {w : Rw} {M : zM} (h : rC w M) : rTx M (w.1 1) (w.2 0) := ⟨h.1.1.1, h.2.1.1, h.2.2.1, h.1.2.1⟩
theorem rC_te {w : Rw} {M : zM} (h : rC w M) : rTe M (w.1 2) (w.2 1) := ⟨h.1.1.2.1, h.2.1.2, h.2.2.2.1⟩
/-- as told, in the reference -/
def rTd (w : Rw) (M : zM) : Prop := rTr w M allB allB (-1) (pWd (w.1 1) (w.2 0)) (eEl (w.1 2) (w.2 1)) (w.1 0 0) ∧ rHm (w.1 1) (w.2 0) (tN w) M ∧ (∀ h, h < 40 → M 53 h = eEl (w.1 2) (w.2 1) h) ∧ M 45 8 = nI (eMn (w.1 2) (w.2 1))
theorem rAs_sm {w : Rw} {M M' : zM} (hC : rC w M) (h : rAs (w.1 1) (w.1 2) (w.2 0) (w.2 1) M M') : rC w M' ∧ rTd w M' ∧ rSm M M' := by
  obtain ⟨a1, a2, a3, a4, a5⟩ := h
  have sm : rSm M M' := ⟨fun p hp => a2 p (by omega) (by omega) (by omega), by rw [a1]; rfl, by rw [a1]; rfl, by rw [a1]; rfl, by rw [a1]; rfl⟩
  have hC' := rC_sm hC sm
  refine ⟨hC', ⟨?_, a3, a4, by rw [a1]; rfl⟩, sm⟩
  obtain ⟨⟨⟨w1, w2, w3, w4, w5⟩, wb, wp, -⟩, -, -, -, ⟨t1, t2, t3⟩, ⟨u1, u2, u3, u4⟩, ⟨l1, l2, l3, l4, l5⟩, -⟩ := hC'
  have e54 : M' 54 = M 54 := a2 54 (by omega) (by omega) (by omega)
  refine ⟨⟨⟨w3, w4, wp⟩, by rw [a1]; rfl, fun k hk => ⟨(a3 k hk).1, (a3 k hk).2.1, (a3 k hk).2.2.2.1, (a3 k hk).2.2.2.2⟩, u1, u2, l1, l2, l3, l4, l5, t2, t3⟩, fun i hi => ?_, fun i hi => ?_, by rw [a1]; rfl, fun k hk => (a3 k hk).2.2.1, a5, ?_⟩
  · rw [show M' 45 19 = 0 by rw [a1]; rfl]; exact thN_all i (by omega)
  · rw [show M' 45 20 = 0 by rw [a1]; rfl]; exact thN_all i (by omega)
  · rw [← t1, e54, a1]; rfl
theorem d6_asTold (n eb : Nat) (M : zM) (w : Rw) (hC : rC w M) : zMet zi_X6_asTold [.ref 45] (zLay n eb) M (zLay n eb) (zr none (fun M' => rC w M' ∧ rTd w M' ∧ rSm M M')) :=
  zMet_imp (c6_asTold n eb M _ _ _ _ (rC_tx hC) (rC_te hC)) (fun M' q => rAs_sm hC q)
set_option maxRecDepth 10000 in
set_option maxHeartbeats 1000000 in
theorem d6_runsTold (n eb : Nat) (M : zM) (w : Rw) (hC : rC w M) : zMet zi_X6_runsTold [.ref 45] (zLay n eb) M (zLay n eb) (zr none (fun M' => rC w M' ∧ crs 61 (tN w) (tHt w) M' ∧ rSm M M' ∧ M' 45 2 = nI (tN w) ∧ M' 45 8 = nI (eMn (w.1 2) (w.2 1)) ∧ rHm (w.1 1) (w.2 0) (tN w) M')) := by
  refine z_mr (zk_X6_runsTold _ _) rfl (Nat.le_of_ble_eq_true rfl) rfl (fun ret hret => ?_)
  refine z_cx (d6_asTold n eb M w hC) (fun M1 h1 => ?_)
  refine z_cx (d_runs n eb M1 h1.2.1.1) (fun M2 h2 => ?_)
  obtain ⟨q1, q2, q3⟩ := h2
  have sm2 : rSm M1 M2 := ⟨fun p hp => q2 p (by omega) (by omega), by rw [q1]; rfl, by rw [q1]; rfl, by rw [q1]; rfl, by rw [q1]; rfl⟩
  exact z_rq hret rfl ⟨rC_sm h1.1 sm2, q3, rSm_tr h1.2.2 sm2, by rw [q1]; exact h1.2.1.1.1.2.1, by rw [q1]; exact h1.2.1.2.2.2, fun k hk => by
    obtain ⟨r1, r2, r3, r4, r5⟩ := h1.2.1.2.1 k hk
    exact ⟨by rw [q2 48 (by omega) (by omega)]; exact r1, by rw [q2 49 (by omega) (by omega)]; exact r2, by rw [q2 50 (by omega) (by omega)]; exact r3, by rw [q2 51 (by omega) (by omega)]; exact r4, fun t ht => by rw [q2 52 (by omega) (by omega)]; exact r5 t ht⟩⟩
