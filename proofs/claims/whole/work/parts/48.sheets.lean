/-! sheets: sheet, lose, put, get, in both -/
def wC (w : Rw) (c : Nat) (f : Nat → Int32) : Rw := (va_up w.1 c f, w.2)
def nar (f v : Int32) : Int32 := if f = 0 then v.toInt8.toInt32 else if f = 1 then v.toInt16.toInt32 else v
theorem cI_find {w : Rw} {M : zM} (h : cI w M) (v : Int32) : cI (wU w 0 3 v) (va_up M 2 (upd (M 2) 15 v)) := by
  obtain ⟨⟨⟨⟨w1, w2, w3, w4, w5⟩, wb, wp, ws, wt⟩, c1, c2, c3, c4, c5, c6, c7, c8, c9, c10, c11, c12⟩, hT, hL⟩ := h
  exact ⟨⟨⟨⟨w1, w2, w3, w4, w5⟩, wb, wp, ws, wt⟩, c1, c2, c3, c4, c5, c6, c7, c8, c9, c10, c11, rfl⟩, hT, hL⟩
theorem rC_find {w : Rw} {M : zM} (h : rC w M) (v : Int32) : rC (wU w 0 3 v) (va_up M 45 (upd (M 45) 40 v)) := by
  obtain ⟨⟨⟨w1, w2, w3, w4, w5⟩, wb, wp, ws, wt⟩, c1, c2, c3, c4, ⟨c5, c6, c7, c8⟩, c9, c10, c11⟩ := h
  exact ⟨⟨⟨w1, w2, w3, w4, w5⟩, wb, wp, ws, wt⟩, c1, c2, c3, c4, ⟨c5, c6, c7, rfl⟩, c9, c10, c11⟩
set_option maxRecDepth 10000 in
set_option maxHeartbeats 1000000 in
theorem c5_found (n eb : Nat) (M : zM) (x : Int32) : zMet zi_X5_found [.ref 2, .int x] (zLay n eb) M (zLay n eb) (zx (some (.int (-10 - x))) (va_up M 2 (upd (M 2) 15 x))) := by
  refine z_me (zk_X5_found _ _) rfl (Nat.le_of_ble_eq_true rfl) rfl (fun ret hret => ?_)
  exact hret
set_option maxRecDepth 10000 in
set_option maxHeartbeats 1000000 in
theorem c6_meets (n eb : Nat) (M : zM) (x : Int32) : zMet zi_X6_meets [.ref 45, .int x] (zLay n eb) M (zLay n eb) (zx (some (.int (-10 - x))) (va_up M 45 (upd (M 45) 40 x))) := by
  refine z_me (zk_X6_meets _ _) rfl (Nat.le_of_ble_eq_true rfl) rfl (fun ret hret => ?_)
  exact hret
set_option maxRecDepth 10000 in
set_option maxHeartbeats 1000000 in
theorem c1_isLost (n eb : Nat) (M : zM) (s : Nat) (hs : s < 4) : zMet zi_X1_isLost [.ref 41, .int (nI s)] (zLay n eb) M (zLay n eb) (zx (some (.int (zb (M 42 s = -1)))) M) := by
  refine z_me (zk_X1_isLost _ _) rfl (Nat.le_of_ble_eq_true rfl) rfl (fun ret hret => ?_)
  have hcs : (nI s).toNatClampNeg = s := z_cl (by omega)
  by_cases h : M 42 s = -1
  · refine And.intro (z_inN0 (by omega) (by omega)) ?_
    refine z_bt (by show M 42 (nI s).toNatClampNeg = -1; rw [hcs]; exact h) ?_
    refine z_go ?_
    exact And.intro rfl (z_re hret (z_vi (zb_1 h).symm) rfl)
  · refine And.intro (z_inN0 (by omega) (by omega)) ?_
    refine z_bf (by show ¬ M 42 (nI s).toNatClampNeg = -1; rw [hcs]; exact h) ?_
    refine z_go ?_
    exact And.intro rfl (z_re hret (z_vi (zb_0 h).symm) rfl)
theorem has_iff {i m : Int32} {z : Nat} (hz : z ≤ 60) : (0 ≤ i ∧ 0 ≤ m ∧ i ≤ nI z - m) ↔ 0 ≤ i.toInt ∧ 0 ≤ m.toInt ∧ i.toInt + m.toInt ≤ z := by
  have hz' : (nI z).toInt = (z : Int) := nI_toInt (by omega)
  have hb := m.toInt_lt
  have hb2 := m.le_toInt
  have e : (nI z - m).toInt = ((z : Int) - m.toInt).bmod (2 ^ 32) := by rw [Int32.toInt_sub, hz']
  have z0 : (0 : Int32).toInt = 0 := by decide
  constructor
  · rintro ⟨h1, h2, h3⟩
    have a1 := (fa_le 0 i).mp h1
    have a2 := (fa_le 0 m).mp h2
    have a3 := (fa_le i _).mp h3
    rw [z0] at a1 a2
    rw [e, Int.bmod_eq_of_le (by omega) (by omega)] at a3
    exact ⟨a1, a2, by omega⟩
  · rintro ⟨a1, a2, a3⟩
    refine ⟨(fa_le 0 i).mpr (by rw [z0]; exact a1), (fa_le 0 m).mpr (by rw [z0]; exact a2), (fa_le i _).mpr ?_⟩
    rw [e, Int.bmod_eq_of_le (by omega) (by omega)]
    omega
theorem has1_iff {i : Int32} {z : Nat} (hz : z ≤ 60) : (0 ≤ i ∧ 0 ≤ (1 : Int32) ∧ i ≤ nI z - 1) ↔ 0 ≤ i ∧ i ≤ nI z - 1 := ⟨fun h => ⟨h.1, h.2.2⟩, fun h => ⟨h.1, by decide, h.2⟩⟩
theorem rgZ {x : Int32} {N : Nat} (hN : N ≤ 60) (h : 0 ≤ x ∧ x ≤ nI N - 1) : ∃ k, k < N ∧ x = nI k := by
  have h2 := (has_iff (i := x) (m := 1) hN).mp ⟨h.1, by decide, h.2⟩
  have e1 : (1 : Int32).toInt = 1 := by decide
  rw [e1] at h2
  refine ⟨x.toInt.toNat, by omega, ?_⟩
  rw [fa_eq, nI_toInt (by omega)]
  omega
theorem rgZ' {k N : Nat} (hk : k < N) (hN : N ≤ 60) : 0 ≤ nI k ∧ nI k ≤ nI N - 1 := by
  have e1 : (1 : Int32).toInt = 1 := by decide
  have := (has_iff (i := nI k) (m := 1) hN).mpr (by rw [nI_toInt (by omega), e1]; omega)
  exact ⟨this.1, this.2.2⟩
set_option maxRecDepth 10000 in
set_option maxHeartbeats 1000000 in
theorem c1_has (n eb : Nat) (M : zM) (s z : Nat) (hs : s < 4) (hz : M 43 s = nI z) (i m : Int32) : zMet zi_X1_has [.ref 41, .int (nI s), .int i, .int m] (zLay n eb) M (zLay n eb) (zx (some (.int (zb (0 ≤ i ∧ 0 ≤ m ∧ i ≤ nI z - m)))) M) := by
  refine z_me (zk_X1_has _ _) rfl (Nat.le_of_ble_eq_true rfl) rfl (fun ret hret => ?_)
  have hcs : (nI s).toNatClampNeg = s := z_cl (by omega)
  have e : M 43 (nI s).toNatClampNeg = nI z := by rw [hcs]; exact hz
  by_cases h1 : i < 0
  · refine z_bt h1 ?_
    refine z_go ?_
    exact And.intro rfl (z_re hret (z_vi (zb_0 (fun q => absurd h1 (Int32.not_lt.mpr q.1))).symm) rfl)
  · by_cases h2 : m < 0
    · refine z_bf h1 ?_
      refine z_bt h2 ?_
      refine z_go ?_
      exact And.intro rfl (z_re hret (z_vi (zb_0 (fun q => absurd h2 (Int32.not_lt.mpr q.2.1))).symm) rfl)
    · by_cases h3 : nI z - m < i
      · refine z_bf h1 ?_
        refine z_bf h2 ?_
        refine And.intro (z_inN0 (by omega) (by omega)) ?_
        refine z_bt (by show M 43 (nI s).toNatClampNeg - m < i; rw [e]; exact h3) ?_
        refine z_go ?_
        exact And.intro rfl (z_re hret (z_vi (zb_0 (fun q => absurd h3 (Int32.not_lt.mpr q.2.2))).symm) rfl)
      · refine z_bf h1 ?_
        refine z_bf h2 ?_
        refine And.intro (z_inN0 (by omega) (by omega)) ?_
        refine z_bf (by show ¬ M 43 (nI s).toNatClampNeg - m < i; rw [e]; exact h3) ?_
        refine z_go ?_
        exact And.intro rfl (z_re hret (z_vi (zb_1 ⟨Int32.not_lt.mp h1, Int32.not_lt.mp h2, Int32.not_lt.mp h3⟩).symm) rfl)
set_option maxRecDepth 10000 in
set_option maxHeartbeats 1000000 in
theorem c1_item (n eb : Nat) (M : zM) (s z i : Nat) (hs : s < 4) (hz : M 43 s = nI z) (hz6 : z ≤ 60) (hi : i < z) : zMet zi_X1_item [.ref 41, .int (nI s), .int (nI i)] (zLay n eb) M (zLay n eb) (zx (some (.int (M 44 (60 * s + i)))) M) := by
  refine z_me (zk_X1_item _ _) rfl (Nat.le_of_ble_eq_true rfl) rfl (fun ret hret => ?_)
  have hix : nI s * 60 + nI i = nI (60 * s + i) := by rw [show (60 : Int32) = nI 60 from rfl, pk_mul, nI_add, Nat.mul_comm]
  refine z_ca (z_cv 1 (c1_has n eb M s z hs hz (nI i) 1) (zb_1 ((has1_iff hz6).mpr (rgZ' hi hz6)))) ?_
  refine z_bf (by decide) ?_
  refine And.intro (by show vp_in (nI s * 60 + nI i) 240; rw [hix]; exact z_inN0 (by omega) (by omega)) ?_
  refine z_go ?_
  refine z_re hret (z_vi ?_) rfl
  show M 44 (nI s * 60 + nI i).toNatClampNeg = _
  rw [hix, z_cl (by omega)]
set_option maxRecDepth 10000 in
set_option maxHeartbeats 1000000 in
theorem c1_store (n eb : Nat) (M : zM) (s z i : Nat) (hs : s < 4) (hz : M 43 s = nI z) (hz6 : z ≤ 60) (hi : i < z) (v : Int32) : zMet zi_X1_store [.ref 41, .int (nI s), .int (nI i), .int v] (zLay n eb) M (zLay n eb) (zx none (va_up M 44 (upd (M 44) (60 * s + i) (nar (M 42 s) v)))) := by
  refine z_me (zk_X1_store _ _) rfl (Nat.le_of_ble_eq_true rfl) rfl (fun ret hret => ?_)
  have hcs : (nI s).toNatClampNeg = s := z_cl (by omega)
  have hix : nI s * 60 + nI i = nI (60 * s + i) := by rw [show (60 : Int32) = nI 60 from rfl, pk_mul, nI_add, Nat.mul_comm]
  by_cases h0 : M 42 s = 0
  · refine z_ca (z_cv 1 (c1_has n eb M s z hs hz (nI i) 1) (zb_1 ((has1_iff hz6).mpr (rgZ' hi hz6)))) ?_
    refine z_bf (by decide) ?_
    refine And.intro (z_inN0 (by omega) (by omega)) ?_
    refine z_bt (by show M 42 (nI s).toNatClampNeg = 0; rw [hcs]; exact h0) ?_
    refine z_go ?_
    refine And.intro (by show vp_in (nI s * 60 + nI i) 240; rw [hix]; exact z_inN0 (by omega) (by omega)) ?_
    refine z_re hret rfl ?_
    show va_up M 44 (upd (M 44) (nI s * 60 + nI i).toNatClampNeg (v.toInt8.toInt32)) = _
    rw [hix, z_cl (by omega), nar, if_pos h0]
  · by_cases h1 : M 42 s = 1
    · refine z_ca (z_cv 1 (c1_has n eb M s z hs hz (nI i) 1) (zb_1 ((has1_iff hz6).mpr (rgZ' hi hz6)))) ?_
      refine z_bf (by decide) ?_
      refine And.intro (z_inN0 (by omega) (by omega)) ?_
      refine z_bf (by show ¬ M 42 (nI s).toNatClampNeg = 0; rw [hcs]; exact h0) ?_
      refine z_go ?_
      refine And.intro (z_inN0 (by omega) (by omega)) ?_
      refine z_bt (by show M 42 (nI s).toNatClampNeg = 1; rw [hcs]; exact h1) ?_
      refine z_go ?_
      refine And.intro (by show vp_in (nI s * 60 + nI i) 240; rw [hix]; exact z_inN0 (by omega) (by omega)) ?_
      refine z_re hret rfl ?_
      show va_up M 44 (upd (M 44) (nI s * 60 + nI i).toNatClampNeg (v.toInt16.toInt32)) = _
      rw [hix, z_cl (by omega), nar, if_neg h0, if_pos h1]
    · refine z_ca (z_cv 1 (c1_has n eb M s z hs hz (nI i) 1) (zb_1 ((has1_iff hz6).mpr (rgZ' hi hz6)))) ?_
      refine z_bf (by decide) ?_
      refine And.intro (z_inN0 (by omega) (by omega)) ?_
      refine z_bf (by show ¬ M 42 (nI s).toNatClampNeg = 0; rw [hcs]; exact h0) ?_
      refine z_go ?_
      refine And.intro (z_inN0 (by omega) (by omega)) ?_
      refine z_bf (by show ¬ M 42 (nI s).toNatClampNeg = 1; rw [hcs]; exact h1) ?_
      refine z_go ?_
      refine And.intro (by show vp_in (nI s * 60 + nI i) 240; rw [hix]; exact z_inN0 (by omega) (by omega)) ?_
      refine z_re hret rfl ?_
      show va_up M 44 (upd (M 44) (nI s * 60 + nI i).toNatClampNeg (v)) = _
      rw [hix, z_cl (by omega), nar, if_neg h0, if_neg h1]
set_option maxRecDepth 10000 in
set_option maxHeartbeats 1000000 in
theorem c6_keep (n eb : Nat) (M : zM) (s i : Nat) (hs : s < 4) (hi : i < 60) (v : Int32) : zMet zi_X6_keep [.ref 45, .int (nI s), .int (nI i), .int v] (zLay n eb) M (zLay n eb) (zx none (va_up M 74 (upd (M 74) (60 * s + i) (nar (M 72 s) v)))) := by
  refine z_me (zk_X6_keep _ _) rfl (Nat.le_of_ble_eq_true rfl) rfl (fun ret hret => ?_)
  have hcs : (nI s).toNatClampNeg = s := z_cl (by omega)
  have hix : 60 * nI s + nI i = nI (60 * s + i) := by rw [show (60 : Int32) = nI 60 from rfl, pk_mul, nI_add]
  by_cases h0 : M 72 s = 0
  · refine And.intro (z_inN0 (by omega) (by omega)) ?_
    refine z_bt (by show M 72 (nI s).toNatClampNeg = 0; rw [hcs]; exact h0) ?_
    refine z_go ?_
    refine And.intro (by show vp_in (60 * nI s + nI i) 240; rw [hix]; exact z_inN0 (by omega) (by omega)) ?_
    refine z_re hret rfl ?_
    show va_up M 74 (upd (M 74) (60 * nI s + nI i).toNatClampNeg (v.toInt8.toInt32)) = _
    rw [hix, z_cl (by omega), nar, if_pos h0]
  · by_cases h1 : M 72 s = 1
    · refine And.intro (z_inN0 (by omega) (by omega)) ?_
      refine z_bf (by show ¬ M 72 (nI s).toNatClampNeg = 0; rw [hcs]; exact h0) ?_
      refine z_go ?_
      refine And.intro (z_inN0 (by omega) (by omega)) ?_
      refine z_bt (by show M 72 (nI s).toNatClampNeg = 1; rw [hcs]; exact h1) ?_
      refine z_go ?_
      refine And.intro (by show vp_in (60 * nI s + nI i) 240; rw [hix]; exact z_inN0 (by omega) (by omega)) ?_
      refine z_re hret rfl ?_
      show va_up M 74 (upd (M 74) (60 * nI s + nI i).toNatClampNeg (v.toInt16.toInt32)) = _
      rw [hix, z_cl (by omega), nar, if_neg h0, if_pos h1]
    · refine And.intro (z_inN0 (by omega) (by omega)) ?_
      refine z_bf (by show ¬ M 72 (nI s).toNatClampNeg = 0; rw [hcs]; exact h0) ?_
      refine z_go ?_
      refine And.intro (z_inN0 (by omega) (by omega)) ?_
      refine z_bf (by show ¬ M 72 (nI s).toNatClampNeg = 1; rw [hcs]; exact h1) ?_
      refine z_go ?_
      refine And.intro (by show vp_in (60 * nI s + nI i) 240; rw [hix]; exact z_inN0 (by omega) (by omega)) ?_
      refine z_re hret rfl ?_
      show va_up M 74 (upd (M 74) (60 * nI s + nI i).toNatClampNeg (v)) = _
      rw [hix, z_cl (by omega), nar, if_neg h0, if_neg h1]
set_option maxRecDepth 10000 in
set_option maxHeartbeats 1000000 in
theorem c1_renew (n eb : Nat) (M : zM) (s : Nat) (hs : s < 4) (f m : Int32) : zMet zi_X1_renew [.ref 41, .int (nI s), .int f, .int m] (zLay n eb) M (zLay n eb) (zx none (va_up (va_up (va_up M 42 (upd (M 42) s f)) 43 (upd (M 43) s m)) 44 (fb_put (M 44) (fun _ => 0) (60 * s) 60))) := by
  refine z_me (zk_X1_renew _ _) rfl (Nat.le_of_ble_eq_true rfl) rfl (fun ret hret => ?_)
  have hcs : (nI s).toNatClampNeg = s := z_cl (by omega)
  have hix : ∀ i, nI s * 60 + nI i = nI (60 * s + i) := fun i => by rw [show (60 : Int32) = nI 60 from rfl, pk_mul, nI_add, Nat.mul_comm]
  obtain ⟨M1, hM1⟩ : ∃ M1, M1 = va_up (va_up M 42 (upd (M 42) s f)) 43 (upd (M 43) s m) := ⟨_, rfl⟩
  rw [← hM1] at hret
  refine And.intro (z_inN0 (by omega) (by omega)) ?_
  refine And.intro (z_inN0 (by omega) (by omega)) ?_
  have loop := z_l1 (P := zp_X1_renew) (ret := ret) (pc := 17) (L := zLay n eb) (N := 60) (lo := fun x => [some (.ref 41), some (.int (nI s)), none, none, some (.int x)]) (I := fun i x M' => M' = va_up M1 44 (fb_put (M 44) (fun _ => 0) (60 * s) i) ∧ x = nI i) (by
    rintro i x M' hi ⟨rfl, rfl⟩ ih
    refine z_go ?_
    refine z_bf (nI_ge (a := i) (b := 60) hi (by omega)) ?_
    refine And.intro (by show vp_in (nI s * 60 + nI i) 240; rw [hix i]; exact z_inN0 (by omega) (by omega)) ?_
    refine ih _ _ ⟨?_, nI_1 i⟩
    show va_up (va_up M1 44 (fb_put (M 44) (fun _ => 0) (60 * s) i)) 44 (upd (fb_put (M 44) (fun _ => 0) (60 * s) i) (nI s * 60 + nI i).toNatClampNeg 0) = _
    rw [z_uu, hix i, z_cl (by omega), fb_put_succ (M 44) (fun _ => 0) (60 * s) i]) (by
    rintro x M' ⟨rfl, rfl⟩
    refine z_go ?_
    refine z_bt (nI_le (a := 60) (b := 60) (Nat.le_refl _) (by omega)) ?_
    refine z_go ?_
    exact z_re hret rfl rfl)
  refine loop 0 _ _ (Nat.zero_le _) ⟨?_, rfl⟩
  show va_up (va_up M 42 (upd (M 42) (nI s).toNatClampNeg f)) 43 (upd (M 43) (nI s).toNatClampNeg m) = _
  rw [hcs, fb_put_0, hM1]
  exact (z_uid (M := va_up (va_up M 42 (upd (M 42) s f)) 43 (upd (M 43) s m)) (p := 44)).symm
set_option maxRecDepth 10000 in
set_option maxHeartbeats 1000000 in
theorem c1_drop (n eb : Nat) (M : zM) (s : Nat) (hs : s < 4) : zMet zi_X1_drop [.ref 41, .int (nI s)] (zLay n eb) M (zLay n eb) (zx none (va_up (va_up M 42 (upd (M 42) s (-1))) 43 (upd (M 43) s 0))) := by
  refine z_me (zk_X1_drop _ _) rfl (Nat.le_of_ble_eq_true rfl) rfl (fun ret hret => ?_)
  have hcs : (nI s).toNatClampNeg = s := z_cl (by omega)
  refine And.intro (z_inN0 (by omega) (by omega)) ?_
  refine And.intro (z_inN0 (by omega) (by omega)) ?_
  refine z_re hret rfl ?_
  show va_up (va_up M 42 (upd (M 42) (nI s).toNatClampNeg (-1))) 43 (upd (M 43) (nI s).toNatClampNeg 0) = _
  rw [hcs]
noncomputable section
def stSheet (w : Rw) (x f m : Int32) : Int32 × Rw := if 0 ≤ x ∧ x ≤ 3 then (if 0 ≤ f ∧ f ≤ 2 then (if m ≤ 60 then (if 0 ≤ m then (m, wC (wU (wU (wU w 11 x.toNatClampNeg 1) 12 x.toNatClampNeg f) 13 x.toNatClampNeg m) 14 (fb_put (w.1 14) (fun _ => 0) (60 * x.toNatClampNeg) 60)) else (-15, wU w 0 3 5)) else (-2, w)) else (-2, w)) else (-2, w)
def stLose (w : Rw) (x : Int32) : Int32 × Rw := if 0 ≤ x ∧ x ≤ 3 then (if w.1 11 x.toNatClampNeg = 0 then (-11, wU w 0 3 1) else (w.1 13 x.toNatClampNeg, wU w 11 x.toNatClampNeg 0)) else (-2, w)
/-- what a sheet lacks for an item -/
def lack (w : Rw) (s : Nat) (f i : Int32) : Int32 := if w.1 11 s = 0 then 1 else if ¬ w.1 12 s = f then 3 else if 0 ≤ i ∧ i ≤ w.1 13 s - 1 then 0 else 2
def stPut (w : Rw) (x f i v : Int32) : Int32 × Rw := if 0 ≤ x ∧ x ≤ 3 then (if 0 ≤ f ∧ f ≤ 2 then (if lack w x.toNatClampNeg f i = 0 then (1, wU w 14 (60 * x.toNatClampNeg + i.toNatClampNeg) (nar f v)) else (-10 - lack w x.toNatClampNeg f i, wU w 0 3 (lack w x.toNatClampNeg f i))) else (-2, w)) else (-2, w)
def stGet (w : Rw) (x f i : Int32) : Int32 × Rw := if 0 ≤ x ∧ x ≤ 3 then (if 0 ≤ f ∧ f ≤ 2 then (if lack w x.toNatClampNeg f i = 0 then (w.1 14 (60 * x.toNatClampNeg + i.toNatClampNeg), w) else (-2147483648, wU w 0 3 (lack w x.toNatClampNeg f i))) else (-2147483648, w)) else (-2147483648, w)
end
/-- the sheets of w' differ from those of w at s alone -/
theorem sh_up {g : Nat → Int32} {k s : Nat} {x : Int32} : upd g k x s = if s = k then x else g s := by
  by_cases e : s = k
  · rw [if_pos e]; simp [upd, e]
  · rw [if_neg e]; simp [upd, e]
set_option maxRecDepth 10000 in
set_option maxHeartbeats 1000000 in
theorem e5_sheet (n : Nat) (M : zM) (w : Rw) (hI : cI w M) (x f m : Int32) : zMet zi_X5_sheet [.ref 2, .int x, .int f, .int m] (zLay n 15) M (zLay n 15) (zr (some (.int (stSheet w x f m).1)) (cTo (stSheet w x f m).2 M)) := by
  refine z_mr (zk_X5_sheet _ _) rfl (Nat.le_of_ble_eq_true rfl) rfl (fun ret hret => ?_)
  obtain ⟨⟨⟨w1, w2, w3, w4, w5⟩, wb, wp, ws, wt⟩, c1, c2, c3, c4, c5, c6, c7, c8, c9, c10, c11, c12⟩ := hI.1
  by_cases hx : 0 ≤ x ∧ x ≤ 3
  · obtain ⟨s, hs, rfl⟩ := rg 3 rfl (by omega) hx
    have hcs : (nI s).toNatClampNeg = s := z_cl (by omega)
    by_cases hf : 0 ≤ f ∧ f ≤ 2
    · by_cases hm : m ≤ 60
      · by_cases h0 : 0 ≤ m
        · obtain ⟨q, hq, rfl⟩ := rg 60 rfl (by omega) ⟨h0, hm⟩
          obtain ⟨g, hg, rfl⟩ := rg 2 rfl (by omega) hf
          have hwt : ∀ t, t < 4 → (upd (w.1 11) s 1 t = 0 ∨ upd (w.1 11) s 1 t = 1) ∧ (upd (w.1 11) s 1 t = 1 → (upd (w.1 12) s (nI g) t = 0 ∨ upd (w.1 12) s (nI g) t = 1 ∨ upd (w.1 12) s (nI g) t = 2) ∧ ∃ z, z ≤ 60 ∧ upd (w.1 13) s (nI q) t = nI z) := fun t ht => by
            rw [sh_up, sh_up, sh_up]
            by_cases e : t = s
            · rw [if_pos e, if_pos e, if_pos e]
              refine ⟨Or.inr rfl, fun _ => ⟨?_, q, hq, rfl⟩⟩
              rcases (show g = 0 ∨ g = 1 ∨ g = 2 by omega) with r | r | r
              · left; rw [r]; rfl
              · right; left; rw [r]; rfl
              · right; right; rw [r]; rfl
            · rw [if_neg e, if_neg e, if_neg e]
              exact wt t ht
          have hno : stSheet w (nI s) (nI g) (nI q) = (nI q, wC (wU (wU (wU w 11 s 1) 12 s (nI g)) 13 s (nI q)) 14 (fb_put (w.1 14) (fun _ => 0) (60 * s) 60)) := by unfold stSheet; rw [if_pos hx, if_pos hf, if_pos hm, if_pos h0, hcs]
          rw [hno] at hret
          have hC1 : cI (wC (wU (wU (wU w 11 s 1) 12 s (nI g)) 13 s (nI q)) 14 (fb_put (w.1 14) (fun _ => 0) (60 * s) 60)) (va_up (va_up (va_up M 42 (upd (M 42) s (nI g))) 43 (upd (M 43) s (nI q))) 44 (fb_put (M 44) (fun _ => 0) (60 * s) 60)) := by
            refine ⟨⟨⟨⟨w1, w2, w3, w4, w5⟩, wb, wp, ws, hwt⟩, c1, c2, c3, c4, c5, c6, c7, c8, fun t ht => ?_, ?_, c11, c12⟩, hI.2.1, hI.2.2⟩
            · show upd (M 42) s (nI g) t = (if upd (w.1 11) s 1 t = 0 then -1 else upd (w.1 12) s (nI g) t) ∧ (upd (w.1 11) s 1 t = 1 → upd (M 43) s (nI q) t = upd (w.1 13) s (nI q) t)
              rw [sh_up, sh_up, sh_up, sh_up, sh_up]
              by_cases e : t = s
              · rw [if_pos e, if_pos e, if_pos e, if_pos e, if_pos e, if_neg (by decide)]
                exact ⟨rfl, fun _ => rfl⟩
              · rw [if_neg e, if_neg e, if_neg e, if_neg e, if_neg e]
                exact c9 t ht
            · show fb_put (M 44) (fun _ => 0) (60 * s) 60 = fb_put (w.1 14) (fun _ => 0) (60 * s) 60
              rw [c10]
          refine z_ca (z_cv 1 (c5_isSheet _ _ _ (Nat.le_of_ble_eq_true rfl)) (zb_1 hx)) ?_
          refine z_bf (by decide) ?_
          refine z_ca (z_cv 1 (c5_isForm _ _ _ (Nat.le_of_ble_eq_true rfl)) (zb_1 hf)) ?_
          refine z_bf (by decide) ?_
          refine z_bt hm ?_
          refine z_go ?_
          refine z_bt h0 ?_
          refine z_go ?_
          refine z_ca (c1_renew n 15 M s (by omega) _ _) ?_
          refine z_rq hret rfl ⟨hC1, fun p hp => ?_⟩
          rw [z_un (by omega), z_un (by omega), z_un (by omega)]
        · have hno : stSheet w (nI s) f m = (-15, wU w 0 3 5) := by unfold stSheet; rw [if_pos hx, if_pos hf, if_pos hm, if_neg h0]
          rw [hno] at hret
          refine z_ca (z_cv 1 (c5_isSheet _ _ _ (Nat.le_of_ble_eq_true rfl)) (zb_1 hx)) ?_
          refine z_bf (by decide) ?_
          refine z_ca (z_cv 1 (c5_isForm _ _ _ (Nat.le_of_ble_eq_true rfl)) (zb_1 hf)) ?_
          refine z_bf (by decide) ?_
          refine z_bt hm ?_
          refine z_go ?_
          refine z_bf h0 ?_
          refine z_ca (c5_found n 15 _ _) ?_
          exact z_rq hret rfl ⟨cI_find hI _, fun p hp => z_un (by omega)⟩
      · have hno : stSheet w (nI s) f m = (-2, w) := by unfold stSheet; rw [if_pos hx, if_pos hf, if_neg hm]
        rw [hno] at hret
        refine z_ca (z_cv 1 (c5_isSheet _ _ _ (Nat.le_of_ble_eq_true rfl)) (zb_1 hx)) ?_
        refine z_bf (by decide) ?_
        refine z_ca (z_cv 1 (c5_isForm _ _ _ (Nat.le_of_ble_eq_true rfl)) (zb_1 hf)) ?_
        refine z_bf (by decide) ?_
        refine z_bf hm ?_
        exact z_rq hret rfl ⟨hI, fun _ _ => rfl⟩
    · have hno : stSheet w (nI s) f m = (-2, w) := by unfold stSheet; rw [if_pos hx, if_neg hf]
      rw [hno] at hret
      refine z_ca (z_cv 1 (c5_isSheet _ _ _ (Nat.le_of_ble_eq_true rfl)) (zb_1 hx)) ?_
      refine z_bf (by decide) ?_
      refine z_ca (z_cv 0 (c5_isForm _ _ _ (Nat.le_of_ble_eq_true rfl)) (zb_0 hf)) ?_
      refine z_bt (by decide) ?_
      refine z_go ?_
      exact z_rq hret rfl ⟨hI, fun _ _ => rfl⟩
  · have hno : stSheet w x f m = (-2, w) := by unfold stSheet; rw [if_neg hx]
    rw [hno] at hret
    refine z_ca (z_cv 0 (c5_isSheet _ _ _ (Nat.le_of_ble_eq_true rfl)) (zb_0 hx)) ?_
    refine z_bt (by decide) ?_
    refine z_go ?_
    exact z_rq hret rfl ⟨hI, fun _ _ => rfl⟩
set_option maxRecDepth 10000 in
set_option maxHeartbeats 1000000 in
theorem e6_sheet (n eb : Nat) (M : zM) (w : Rw) (hC : rC w M) (x f m : Int32) : zMet zi_X6_sheet [.ref 45, .int x, .int f, .int m] (zLay n eb) M (zLay n eb) (zr (some (.int (stSheet w x f m).1)) (rTo (stSheet w x f m).2 M)) := by
  refine z_mr (zk_X6_sheet _ _) rfl (Nat.le_of_ble_eq_true rfl) rfl (fun ret hret => ?_)
  have hC0 := hC
  obtain ⟨⟨⟨w1, w2, w3, w4, w5⟩, wb, wp, ws, wt⟩, c1, c2, c3, c4, ⟨c5, c6, c7, c8⟩, c9, c10, c11⟩ := hC
  by_cases hx : 0 ≤ x ∧ x ≤ 3
  · obtain ⟨s, hs, rfl⟩ := rg 3 rfl (by omega) hx
    have hcs : (nI s).toNatClampNeg = s := z_cl (by omega)
    by_cases hf : 0 ≤ f ∧ f ≤ 2
    · by_cases hm : m ≤ 60
      · by_cases h0 : 0 ≤ m
        · obtain ⟨q, hq, rfl⟩ := rg 60 rfl (by omega) ⟨h0, hm⟩
          obtain ⟨g, hg, rfl⟩ := rg 2 rfl (by omega) hf
          have hwt : ∀ t, t < 4 → (upd (w.1 11) s 1 t = 0 ∨ upd (w.1 11) s 1 t = 1) ∧ (upd (w.1 11) s 1 t = 1 → (upd (w.1 12) s (nI g) t = 0 ∨ upd (w.1 12) s (nI g) t = 1 ∨ upd (w.1 12) s (nI g) t = 2) ∧ ∃ z, z ≤ 60 ∧ upd (w.1 13) s (nI q) t = nI z) := fun t ht => by
            rw [sh_up, sh_up, sh_up]
            by_cases e : t = s
            · rw [if_pos e, if_pos e, if_pos e]
              refine ⟨Or.inr rfl, fun _ => ⟨?_, q, hq, rfl⟩⟩
              rcases (show g = 0 ∨ g = 1 ∨ g = 2 by omega) with r | r | r
              · left; rw [r]; rfl
              · right; left; rw [r]; rfl
              · right; right; rw [r]; rfl
            · rw [if_neg e, if_neg e, if_neg e]
              exact wt t ht
          have hno : stSheet w (nI s) (nI g) (nI q) = (nI q, wC (wU (wU (wU w 11 s 1) 12 s (nI g)) 13 s (nI q)) 14 (fb_put (w.1 14) (fun _ => 0) (60 * s) 60)) := by unfold stSheet; rw [if_pos hx, if_pos hf, if_pos hm, if_pos h0, hcs]
          rw [hno] at hret
          have hix : ∀ i, 60 * nI s + nI i = nI (60 * s + i) := fun i => by rw [show (60 : Int32) = nI 60 from rfl, pk_mul, nI_add]
          obtain ⟨M1, hM1⟩ : ∃ M1, M1 = va_up (va_up (va_up M 71 (upd (M 71) s 1)) 72 (upd (M 72) s (nI g))) 73 (upd (M 73) s (nI q)) := ⟨_, rfl⟩
          refine z_ca (z_cv 1 (c6_isSheet _ _ _ (Nat.le_of_ble_eq_true rfl)) (zb_1 hx)) ?_
          refine z_bf (by decide) ?_
          refine z_ca (z_cv 1 (c6_in _ _ _ _ _ (Nat.le_of_ble_eq_true rfl)) (zb_1 hf)) ?_
          refine z_bf (by decide) ?_
          refine z_bt hm ?_
          refine z_go ?_
          refine z_bt h0 ?_
          refine z_go ?_
          refine And.intro (z_inN0 (by omega) (by omega)) ?_
          refine And.intro (z_inN0 (by omega) (by omega)) ?_
          refine And.intro (z_inN0 (by omega) (by omega)) ?_
          have loop := z_l1 (P := zp_X6_sheet) (ret := ret) (pc := 59) (L := zLay n eb) (N := 60) (lo := fun x => [some (.ref 45), some (.int (nI s)), none, some (.int (nI q)), some (.int x)]) (I := fun i x M' => M' = va_up M1 74 (fb_put (M 74) (fun _ => 0) (60 * s) i) ∧ x = nI i) (by
              rintro i x M' hi ⟨rfl, rfl⟩ ih
              refine z_go ?_
              refine z_bf (nI_ge (a := i) (b := 60) hi (by omega)) ?_
              refine And.intro (by show vp_in (60 * nI s + nI i) 240; rw [hix i]; exact z_inN0 (by omega) (by omega)) ?_
              refine ih _ _ ⟨?_, nI_1 i⟩
              show va_up (va_up M1 74 (fb_put (M 74) (fun _ => 0) (60 * s) i)) 74 (upd (fb_put (M 74) (fun _ => 0) (60 * s) i) (60 * nI s + nI i).toNatClampNeg 0) = _
              rw [z_uu, hix i, z_cl (by omega), fb_put_succ (M 74) (fun _ => 0) (60 * s) i]) (by
              rintro x M' ⟨rfl, rfl⟩
              refine z_go ?_
              refine z_bt (nI_le (a := 60) (b := 60) (Nat.le_refl _) (by omega)) ?_
              refine z_go ?_
              refine z_rq hret rfl ⟨⟨⟨⟨w1, w2, w3, w4, w5⟩, wb, wp, ws, hwt⟩, ?_⟩, fun p hp => ?_⟩
              · rw [hM1]
                refine ⟨c1, c2, c3, c4, ⟨c5, c6, c7, c8⟩, c9, c10, ?_, ?_, ?_, ?_⟩
                · show upd (M 71) s 1 = upd (w.1 11) s 1
                  rw [c11.1]
                · show upd (M 72) s (nI g) = upd (w.1 12) s (nI g)
                  rw [c11.2.1]
                · show upd (M 73) s (nI q) = upd (w.1 13) s (nI q)
                  rw [c11.2.2.1]
                · show fb_put (M 74) (fun _ => 0) (60 * s) 60 = fb_put (w.1 14) (fun _ => 0) (60 * s) 60
                  rw [c11.2.2.2]
              · rw [hM1, z_un (by omega), z_un (by omega), z_un (by omega), z_un (by omega)])
          refine loop 0 _ _ (Nat.zero_le _) ⟨?_, rfl⟩
          show va_up (va_up (va_up M 71 (upd (M 71) (nI s).toNatClampNeg (vp_nar .boolean 1))) 72 (upd (M 72) (nI s).toNatClampNeg (nI g))) 73 (upd (M 73) (nI s).toNatClampNeg (nI q)) = _
          rw [hcs, fb_put_0, hM1]
          exact (z_uid (M := va_up (va_up (va_up M 71 (upd (M 71) s 1)) 72 (upd (M 72) s (nI g))) 73 (upd (M 73) s (nI q))) (p := 74)).symm
        · have hno : stSheet w (nI s) f m = (-15, wU w 0 3 5) := by unfold stSheet; rw [if_pos hx, if_pos hf, if_pos hm, if_neg h0]
          rw [hno] at hret
          refine z_ca (z_cv 1 (c6_isSheet _ _ _ (Nat.le_of_ble_eq_true rfl)) (zb_1 hx)) ?_
          refine z_bf (by decide) ?_
          refine z_ca (z_cv 1 (c6_in _ _ _ _ _ (Nat.le_of_ble_eq_true rfl)) (zb_1 hf)) ?_
          refine z_bf (by decide) ?_
          refine z_bt hm ?_
          refine z_go ?_
          refine z_bf h0 ?_
          refine z_ca (c6_meets n eb _ _) ?_
          exact z_rq hret rfl ⟨rC_find hC0 _, fun p hp => z_un (by omega)⟩
      · have hno : stSheet w (nI s) f m = (-2, w) := by unfold stSheet; rw [if_pos hx, if_pos hf, if_neg hm]
        rw [hno] at hret
        refine z_ca (z_cv 1 (c6_isSheet _ _ _ (Nat.le_of_ble_eq_true rfl)) (zb_1 hx)) ?_
        refine z_bf (by decide) ?_
        refine z_ca (z_cv 1 (c6_in _ _ _ _ _ (Nat.le_of_ble_eq_true rfl)) (zb_1 hf)) ?_
        refine z_bf (by decide) ?_
        refine z_bf hm ?_
        exact z_rq hret rfl ⟨hC0, fun _ _ => rfl⟩
    · have hno : stSheet w (nI s) f m = (-2, w) := by unfold stSheet; rw [if_pos hx, if_neg hf]
      rw [hno] at hret
      refine z_ca (z_cv 1 (c6_isSheet _ _ _ (Nat.le_of_ble_eq_true rfl)) (zb_1 hx)) ?_
      refine z_bf (by decide) ?_
      refine z_ca (z_cv 0 (c6_in _ _ _ _ _ (Nat.le_of_ble_eq_true rfl)) (zb_0 hf)) ?_
      refine z_bt (by decide) ?_
      refine z_go ?_
      exact z_rq hret rfl ⟨hC0, fun _ _ => rfl⟩
  · have hno : stSheet w x f m = (-2, w) := by unfold stSheet; rw [if_neg hx]
    rw [hno] at hret
    refine z_ca (z_cv 0 (c6_isSheet _ _ _ (Nat.le_of_ble_eq_true rfl)) (zb_0 hx)) ?_
    refine z_bt (by decide) ?_
    refine z_go ?_
    exact z_rq hret rfl ⟨hC0, fun _ _ => rfl⟩
