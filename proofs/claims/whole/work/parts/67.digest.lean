/-! digest: the class -/
theorem zMet_fz {i : zI} {as : List Value} {L : zL} {M : zM} {v : Option Value} {R : zM → Prop} (h : zMet i as L M L (zr v R)) : zMet i as L M L (zr v (fun M' => R M' ∧ M' 0 = M 0 ∧ M' 1 = M 1)) := by
  obtain ⟨h1, h2, h3⟩ := h
  refine ⟨h1, h2, fun l D ad cA nS f0 f1 sz => ?_⟩
  have h4 := h3 l D ad cA nS f0 f1 sz
  unfold Met at h4 ⊢
  intro p e ha hc hk s m args below hf hS hP ht
  obtain ⟨k, o, a1, a2, a3, ⟨v', M', ad', cA', ⟨hv, hR⟩, r1, r2, r3, r4, r5, r6, r7⟩, a5⟩ := h4 p e ha hc hk s m args below hf hS hP ht
  obtain ⟨-, -, -, -, -, hFz, -⟩ := hP
  exact ⟨k, o, a1, a2, a3, ⟨v', M', ad', cA', ⟨hv, hR, r6.2.2.1.trans hFz.2.2.1.symm, r6.2.2.2.trans hFz.2.2.2.symm⟩, r1, r2, r3, r4, r5, r6, r7⟩, a5⟩
def dg (h : Int64) (x : Int32) : Int64 := 31 * h + x.toInt64
def dL (f : Nat → Int32) (h : Int64) : Nat → Int64
  | 0 => h
  | n + 1 => dg (dL f h n) (f n)
def dF (f : Nat → Int64 → Int64) (h : Int64) : Nat → Int64
  | 0 => h
  | n + 1 => f n (dF f h n)
def hrs : Nat → Nat
  | 0 => 0
  | 1 => 7
  | 2 => 20
  | _ => 39
theorem hrs_lt (i : Nat) : hrs i < 40 := by
  unfold hrs
  split <;> omega
noncomputable section
def dHour (w : Rw) (t : Nat) (h : Int64) : Int64 := dL (fun j => aBag w (nI t) (nI j)) (dg h (aElbows w (nI t))) 4
def dGot (w : Rw) (k i : Nat) (h : Int64) : Int64 := dL (fun j => aGot w (nI (hrs i)) (nI k) (nI j)) h 3
def dHs1 (w : Rw) (k : Nat) (h : Int64) : Int64 := dF (dGot w k) (dL (fun j => aHouse w (nI k) (nI j)) h 7) 4
def dHs2 (w : Rw) (k : Nat) (h : Int64) : Int64 := dg (dg (dg (dg (dg (dg h (aHeld w (nI k) (nI 0))) (aHeld w (nI k) (nI 1))) (aShut w (nI k) (nI 0))) (aShut w (nI k) (nI 1))) (aWas w (nI k))) (aAsk w (nI k))
def dHouse (w : Rw) (k : Nat) (h : Int64) : Int64 := 31 * (31 * dHs2 w k (dHs1 w k h) + aMtN w 5 k 0) + aMtN w 5 k 1
def dTw1 (w : Rw) (h : Int64) : Int64 := dg (dg (dg (dg (dg (dg (dg (dg (dg h (aFirst w)) (aQuiet w)) (aWell w)) (aElbow w (nI 0))) (aElbow w (nI 1))) (aLeast w)) (aPatch w (nI 0))) (aPatch w (nI 1))) (aNever w)
def dTown (w : Rw) (h : Int64) : Int64 := dg (dg (dL (fun j => aStarts w (nI j)) (dTw1 w h) 3) (aYearN w 7 25 0)) (aYearN w 7 25 1)
def dTop (w : Rw) : Int64 := dg (dg (dL (fun j => aCount w (nI j)) 17 8) (aFault w (nI 0))) (aFault w (nI 1))
def aDigest (w : Rw) : Int64 := dTown w (dF (dHouse w) (dF (dHour w) (dTop w) 40) (tN w))
end
theorem aShut_e {w : Rw} {k j : Nat} (hk : k < tN w) (hj : j ≤ 1) : aShut w (nI k) (nI j) = pAns (pBest (gShut w k) (tN w)) j := by
  have h8 := tN8 w
  unfold aShut
  rw [if_pos ⟨rgH' hk h8, nI_pos' (by omega), nI_le (a := j) (b := 1) hj (by omega)⟩, z_cl (by omega), z_cl (by omega)]
theorem aElbow_e {w : Rw} {j : Nat} (hj : j ≤ 1) : aElbow w (nI j) = pAns (pBest (gElbow w) 40) j := by
  unfold aElbow
  rw [if_pos ⟨nI_pos' (by omega), nI_le (a := j) (b := 1) hj (by omega)⟩, z_cl (by omega)]
theorem aPatch_e {w : Rw} {j : Nat} (hj : j ≤ 1) : aPatch w (nI j) = pAns (pBest (gPatch w) (w.2 2)) j := by
  unfold aPatch
  rw [if_pos ⟨nI_pos' (by omega), nI_le (a := j) (b := 1) hj (by omega)⟩, z_cl (by omega)]
/-- the class goes on as told -/
abbrev kc (w : Rw) (M M' : zM) : Prop := cI w M' ∧ (∀ p, 45 ≤ p → M' p = M p) ∧ M' 0 = M 0 ∧ M' 1 = M 1
theorem kc_st {w : Rw} {M M' M2 : zM} (h : kc w M M') (q : (cI w M2 ∧ ∀ p, 45 ≤ p → M2 p = M' p) ∧ M2 0 = M' 0 ∧ M2 1 = M' 1) : kc w M M2 := ⟨q.1.1, fun p hp => (q.1.2 p hp).trans (h.2.1 p hp), q.2.1.trans h.2.2.1, q.2.2.trans h.2.2.2⟩
theorem kc_rf {w : Rw} {M : zM} (h : cI w M) : kc w M M := ⟨h, fun _ _ => rfl, rfl, rfl⟩
theorem kc_tr {w : Rw} {M M' M2 : zM} (h : kc w M M') (q : kc w M' M2) : kc w M M2 := ⟨q.1, fun p hp => (q.2.1 p hp).trans (h.2.1 p hp), q.2.2.1.trans h.2.2.1, q.2.2.2.trans h.2.2.2⟩
theorem c5_sP (g : Nat → Bool) (j : Nat) (hj : j < 3) (L : zL) (M : zM) (hL : 2 ≤ L.length) : zMet zi_X5_startsPart [.long (lN (bw g 61)), .int (nI j)] L M L (zx (some (.int (aSP g j))) M) := by
  rcases (show j = 0 ∨ j = 1 ∨ j = 2 by omega) with e | e | e <;> subst e
  · exact c5_startsPart0 g L M hL
  · exact c5_startsPart1 g L M hL
  · exact c5_startsPart2 g L M hL
theorem z_cl64 {i : zI} {as : List Value} {L : zL} {M M' : zM} {e : Int64} (y : Int64) (hc : zMet i as L M L (zx (some (.long e)) M')) (h : e = y) : zMet i as L M L (zx (some (.long y)) M') := by
  subst h
  exact hc
theorem zMet_v64 {i : zI} {as : List Value} {L : zL} {M : zM} {e : Int64} (y : Int64) {R : zM → Prop} (hc : zMet i as L M L (zr (some (.long e)) R)) (h : e = y) : zMet i as L M L (zr (some (.long y)) R) := by
  subst h
  exact hc
set_option maxRecDepth 10000 in
set_option maxHeartbeats 1000000 in
theorem c5_digestPlan (h : Int64) (p : Option (Nat × Nat)) (hp : ∀ q, p = some q → q.1 < 64 ∧ q.2 < 999) (L : zL) (M : zM) (hL : 2 ≤ L.length) : zMet zi_X5_digestPlan [.long h, .int (pE p)] L M L (zx (some (.long (dg (dg h (pAns p 0)) (pAns p 1)))) M) := by
  refine z_me (zk_X5_digestPlan _ _) rfl hL rfl (fun ret hret => ?_)
  refine z_ca (z_cv (pAns p 0) (c5_partOf _ _ L M hL) (pE_part p 0 (by omega) hp)) ?_
  refine z_ca (z_cv (pAns p 1) (c5_partOf _ _ L M hL) (pE_part p 1 (by omega) hp)) ?_
  exact hret
set_option maxRecDepth 10000 in
set_option maxHeartbeats 1000000 in
theorem d5_digestHour (n : Nat) (M : zM) (w : Rw) (hI : cI w M) (h : Int64) (t : Nat) (ht : t < 40) : zMet zi_X5_digestHour [.ref 2, .long h, .int (nI t)] (zLay n 15) M (zLay n 15) (zr (some (.long (dHour w t h))) (kc w M)) := by
  refine z_mr (zk_X5_digestHour _ _) rfl (Nat.le_of_ble_eq_true rfl) rfl (fun ret hret => ?_)
  refine z_cx (zMet_fz (e5_elbows n M w hI (nI t))) (fun M1 h1 => ?_)
  have loop := z_lg (P := zp_X5_digestHour) (ret := ret) (pc := 17) (L := zLay n 15) (N := 4) (lo := fun q : Int64 × Int32 => [some (.ref 2), none, none, some (.int (nI t)), some (.long q.1), none, some (.int q.2)]) (I := fun j q M' => kc w M M' ∧ q.1 = dL (fun j => aBag w (nI t) (nI j)) (dg h (aElbows w (nI t))) j ∧ q.2 = nI j) (by
    rintro j ⟨b, x⟩ M' hj ⟨hK, hb, hx⟩ ih
    simp only at hb hx
    subst hb; subst hx
    refine z_go ?_
    refine z_bf (fun c => absurd ((nI_ltI (a := 3) (b := j) (by omega) (by omega)).mp c) (by omega)) ?_
    refine z_cx (zMet_fz (e5_bag n M' w hK.1 (nI t) (nI j))) (fun M2 h2 => ?_)
    exact ih (_, _) _ ⟨kc_st hK h2, rfl, nI_1 j⟩) (by
    rintro ⟨b, x⟩ M' ⟨hK, hb, hx⟩
    simp only at hb hx
    subst hx
    refine z_go ?_
    refine z_bt (nI_lt (a := 3) (b := 4) (by omega) (by omega)) ?_
    refine z_go ?_
    exact z_rq hret (z_vl hb) hK)
  exact loop 0 (_, _) _ (Nat.zero_le _) ⟨kc_st (kc_rf hI) h1, rfl, rfl⟩
set_option maxRecDepth 10000 in
set_option maxHeartbeats 1000000 in
theorem d5_digestHouse (n : Nat) (M : zM) (w : Rw) (hI : cI w M) (hB : wb2 w) (hD : ∀ i, i < 4 → M 1 i = nI (hrs i)) (h : Int64) (k : Nat) (hk : k < tN w) : zMet zi_X5_digestHouse [.ref 2, .long h, .int (nI k)] (zLay n 15) M (zLay n 15) (zr (some (.long (dHouse w k h))) (kc w M)) := by
  refine z_mr (zk_X5_digestHouse _ _) rfl (Nat.le_of_ble_eq_true rfl) rfl (fun ret hret => ?_)
  have h8 := tN8 w
  have loop := z_lg (P := zp_X5_digestHouse) (ret := ret) (pc := 6) (L := zLay n 15) (N := 7) (lo := fun q : Int64 × Int32 => [some (.ref 2), none, none, some (.int (nI k)), some (.long q.1), none, some (.int q.2), none, none, none, none]) (I := fun j q M' => kc w M M' ∧ q.1 = dL (fun j => aHouse w (nI k) (nI j)) h j ∧ q.2 = nI j) (by
    rintro j ⟨b, x⟩ M' hj ⟨hK, hb, hx⟩ ih
    simp only at hb hx
    subst hb; subst hx
    refine z_go ?_
    refine z_bf (fun c => absurd ((nI_ltI (a := 6) (b := j) (by omega) (by omega)).mp c) (by omega)) ?_
    refine z_cx (zMet_fz (e5_house n M' w hK.1 (nI k) (nI j))) (fun M2 h2 => ?_)
    exact ih (_, _) _ ⟨kc_st hK h2, rfl, nI_1 j⟩) (by
    rintro ⟨b, x⟩ M' ⟨hK, hb, hx⟩
    simp only at hb hx
    subst hx
    obtain hb := hb
    refine z_go ?_
    refine z_bt (nI_lt (a := 6) (b := 7) (by omega) (by omega)) ?_
    refine z_go ?_
    obtain ⟨A, hA⟩ : ∃ A, A = dL (fun j => aHouse w (nI k) (nI j)) h 7 := ⟨_, rfl⟩
    rw [← hA] at hb
    subst hb
    have loop2 := z_lg (P := zp_X5_digestHouse) (ret := ret) (pc := 49) (L := zLay n 15) (N := 4) (lo := fun q : Int64 × Int32 => [some (.ref 2), none, none, some (.int (nI k)), some (.long q.1), none, some (.ref 1), some (.int (nI 4)), some (.int q.2), none, none]) (I := fun i q M' => kc w M M' ∧ q.1 = dF (dGot w k) b i ∧ q.2 = nI i) (by
      rintro i ⟨y, x⟩ M' hi ⟨hK, hb, hx⟩ ih
      simp only at hb hx
      subst hb; subst hx
      refine z_go ?_
      refine z_bf (nI_ge (a := i) (b := 4) hi (by omega)) ?_
      refine And.intro (z_inN0 (by omega) (by omega)) ?_
      have e9 : M' 1 (nI i).toNatClampNeg = nI (hrs i) := by
        rw [z_cl (by omega), hK.2.2.2]
        exact hD i hi
      have inn := z_lg (P := zp_X5_digestHouse) (ret := ret) (pc := 66) (L := zLay n 15) (N := 3) (lo := fun q : Int64 × Int32 => [some (.ref 2), none, none, some (.int (nI k)), some (.long q.1), none, some (.ref 1), some (.int (nI 4)), some (.int (nI i)), some (.int (M' 1 (nI i).toNatClampNeg)), some (.int q.2)]) (I := fun j q M3 => kc w M M3 ∧ q.1 = dL (fun j => aGot w (nI (hrs i)) (nI k) (nI j)) (dF (dGot w k) b i) j ∧ q.2 = nI j) (by
        rintro j ⟨b, x⟩ M3 hj ⟨hKj, hb, hx⟩ ihj
        simp only at hb hx
        subst hb; subst hx
        refine z_go ?_
        refine z_bf (fun c => absurd ((nI_ltI (a := 2) (b := j) (by omega) (by omega)).mp c) (by omega)) ?_
        refine z_cx (zMet_fz (e5_got n M3 w hKj.1 (M' 1 (nI i).toNatClampNeg) (nI k) (nI j))) (fun M2 h2 => ?_)
        exact ihj (_, _) _ ⟨kc_st hKj h2, by show dg (dL _ (dF (dGot w k) b i) j) (aGot w (M' 1 (nI i).toNatClampNeg) (nI k) (nI j)) = _; rw [e9]; rfl, nI_1 j⟩) (by
        rintro ⟨b, x⟩ M3 ⟨hKj, hb, hx⟩
        simp only at hb hx
        subst hx
        refine z_go ?_
        refine z_bt (nI_lt (a := 2) (b := 3) (by omega) (by omega)) ?_
        refine z_go ?_
        exact ih (_, _) _ ⟨hKj, hb, nI_1 i⟩)
      exact inn 0 (_, _) _ (Nat.zero_le _) ⟨hK, rfl, rfl⟩) (by
      rintro ⟨y, x⟩ M' ⟨hK, hb, hx⟩
      simp only at hb hx
      subst hx
      refine z_go ?_
      refine z_bt (nI_le (a := 4) (b := 4) (Nat.le_refl _) (by omega)) ?_
      refine z_go ?_
      refine z_cx (zMet_fz (e5_held n M' w hK.1 (nI k) (nI 0))) (fun N1 r1 => ?_)
      have k1 := kc_st hK r1
      refine z_cx (zMet_fz (e5_held n N1 w k1.1 (nI k) (nI 1))) (fun N2 r2 => ?_)
      have k2 := kc_st k1 r2
      refine z_cx (zMet_fz (d5_bestShut n N2 w k2.1 k hk)) (fun N3 r3 => ?_)
      have k3 := kc_st k2 r3
      refine z_ca (c5_digestPlan _ (pBest (gShut w k) (tN w)) (fun q hq => ⟨by have := (pBest_lt _ q hq).1; omega, gShut_lt w k _ _ (pBest_lt _ q hq).2⟩) _ _ (Nat.le_of_ble_eq_true rfl)) ?_
      refine z_cx (zMet_fz (e5_was n N3 w k3.1 (nI k))) (fun N4 r4 => ?_)
      have k4 := kc_st k3 r4
      refine z_cx (zMet_fz (e5_ask n N4 w k4.1 hB (nI k))) (fun N5 r5 => ?_)
      have k5 := kc_st k4 r5
      refine z_cx (zMet_fz (zMet_v64 (aMtN w 5 k 0) (e5_moth n N5 w k5.1 (nI 5) (nI k) (nI 0)) (aMoth_y (by omega) hk (by omega)))) (fun N6 r6 => ?_)
      have k7 := kc_st k5 r6
      refine z_cx (zMet_fz (zMet_v64 (aMtN w 5 k 1) (e5_moth n N6 w k7.1 (nI 5) (nI k) (nI 1)) (aMoth_y (by omega) hk (by omega)))) (fun N7 r8 => ?_)
      refine z_rq hret (z_vl ?_) (kc_st k7 r8)
      rw [dHouse, dHs2, dHs1, aShut_e hk (by omega), aShut_e hk (by omega), ← hA, ← hb]
      rfl)
    exact loop2 0 (_, _) _ (Nat.zero_le _) ⟨hK, rfl, rfl⟩)
  exact loop 0 (_, _) _ (Nat.zero_le _) ⟨kc_rf hI, rfl, rfl⟩
