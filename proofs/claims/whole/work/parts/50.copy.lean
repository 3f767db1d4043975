/-! copy, in both -/
noncomputable section
abbrev okC (w : Rw) (s t : Nat) (i j m : Int32) : Prop := (0 ≤ i ∧ 0 ≤ m ∧ i ≤ w.1 13 s - m) ∧ 0 ≤ j ∧ 0 ≤ m ∧ j ≤ w.1 13 t - m

def stCopy (w : Rw) (x i y j m : Int32) : Int32 × Rw := if 0 ≤ x ∧ x ≤ 3 then (if 0 ≤ y ∧ y ≤ 3 then (if w.1 11 x.toNatClampNeg = 0 then (-11, wU w 0 3 1) else if w.1 11 y.toNatClampNeg = 0 then (-11, wU w 0 3 1) else if ¬ w.1 12 x.toNatClampNeg = w.1 12 y.toNatClampNeg then (-14, wU w 0 3 4) else if okC w x.toNatClampNeg y.toNatClampNeg i j m then (1, wC w 14 (va_cpy (w.1 14) (w.1 14) (60 * x.toNatClampNeg + i.toNatClampNeg) (60 * y.toNatClampNeg + j.toNatClampNeg) m.toNatClampNeg)) else (-12, wU w 0 3 2)) else (-2, w)) else (-2, w)
end
theorem add64 (i m : Int32) : (i.toInt64 + m.toInt64).toInt = i.toInt + m.toInt := by
  have a1 := i.toInt_lt
  have a2 := i.le_toInt
  have b1 := m.toInt_lt
  have b2 := m.le_toInt
  rw [Int64.toInt_add, Int32.toInt_toInt64, Int32.toInt_toInt64]
  exact Int.bmod_eq_of_le (by omega) (by omega)
theorem toN {x : Int32} (h : 0 ≤ x.toInt) : ∃ k : Nat, (k : Int) = x.toInt ∧ x = nI k := by
  have a1 := x.toInt_lt
  refine ⟨x.toInt.toNat, by omega, ?_⟩
  rw [fa_eq, nI_toInt (by omega)]
  omega
theorem over_iff {i m : Int32} {z : Nat} (hz : z ≤ 60) : (i.toInt64 + m.toInt64 ≤ (nI z).toInt64) ↔ i.toInt + m.toInt ≤ z := by
  rw [fa_le64, add64, Int32.toInt_toInt64, nI_toInt (by omega)]
theorem over_iff' {i m : Int32} {z : Nat} (hz : z ≤ 60) : ((nI z).toInt64 < i.toInt64 + m.toInt64) ↔ (z : Int) < i.toInt + m.toInt := by
  rw [fa_lt64, add64, Int32.toInt_toInt64, nI_toInt (by omega)]
set_option maxRecDepth 10000 in
set_option maxHeartbeats 1000000 in
theorem c1_move (n eb : Nat) (M : zM) (s a t b c : Nat) (hs : s < 4) (ht : t < 4) (ha : a + c ≤ 60) (hb : b + c ≤ 60) : zMet zi_X1_move [.ref 41, .int (nI s), .int (nI a), .int (nI t), .int (nI b), .int (nI c)] (zLay n eb) M (zLay n eb) (zx none (va_up M 44 (va_cpy (M 44) (M 44) (60 * s + a) (60 * t + b) c))) := by
  refine z_me (zk_X1_move _ _) rfl (Nat.le_of_ble_eq_true rfl) rfl (fun ret hret => ?_)
  have e1 : nI s * 60 + nI a = nI (60 * s + a) := by rw [show (60 : Int32) = nI 60 from rfl, pk_mul, nI_add, Nat.mul_comm]
  have e2 : nI t * 60 + nI b = nI (60 * t + b) := by rw [show (60 : Int32) = nI 60 from rfl, pk_mul, nI_add, Nat.mul_comm]
  have e3 : (nI c).toNatClampNeg = c := z_cl (by omega)
  refine And.intro (by
      show ¬ nI s * 60 + nI a < 0 ∧ ¬ nI t * 60 + nI b < 0 ∧ ¬ nI c < 0 ∧ (nI s * 60 + nI a).toNatClampNeg + (nI c).toNatClampNeg ≤ 240 ∧ (nI t * 60 + nI b).toNatClampNeg + (nI c).toNatClampNeg ≤ 240
      rw [e1, e2, e3, z_cl (by omega), z_cl (by omega)]
      exact ⟨nI_pos (by omega), nI_pos (by omega), nI_pos (by omega), by omega, by omega⟩) ?_
  refine z_re hret rfl ?_
  show va_up M 44 (va_cpy (M 44) (M 44) (nI s * 60 + nI a).toNatClampNeg (nI t * 60 + nI b).toNatClampNeg (nI c).toNatClampNeg) = _
  rw [e1, e2, e3, z_cl (by omega), z_cl (by omega)]
set_option maxRecDepth 10000 in
set_option maxHeartbeats 1000000 in
theorem e5_copy (n : Nat) (M : zM) (w : Rw) (hI : cI w M) (x i y j m : Int32) : zMet zi_X5_copy [.ref 2, .int x, .int i, .int y, .int j, .int m] (zLay n 15) M (zLay n 15) (zr (some (.int (stCopy w x i y j m).1)) (cTo (stCopy w x i y j m).2 M)) := by
  refine z_mr (zk_X5_copy _ _) rfl (Nat.le_of_ble_eq_true rfl) rfl (fun ret hret => ?_)
  obtain ⟨⟨⟨w1, w2, w3, w4, w5⟩, wb, wp, ws, wt⟩, c1, c2, c3, c4, c5, c6, c7, c8, c9, c10, c11, c12⟩ := hI.1
  by_cases hx : 0 ≤ x ∧ x ≤ 3
  · obtain ⟨s, hs, rfl⟩ := rg 3 rfl (by omega) hx
    have hcs : (nI s).toNatClampNeg = s := z_cl (by omega)
    by_cases hy : 0 ≤ y ∧ y ≤ 3
    · obtain ⟨t, ht, rfl⟩ := rg 3 rfl (by omega) hy
      have hct : (nI t).toNatClampNeg = t := z_cl (by omega)
      by_cases h1 : w.1 11 s = 0
      · have hno : stCopy w (nI s) i (nI t) j m = (-11, wU w 0 3 1) := by unfold stCopy; rw [if_pos hx, if_pos hy, hcs, hct, if_pos h1]
        rw [hno] at hret
        refine z_ca (z_cv 1 (c5_isSheet _ _ _ (Nat.le_of_ble_eq_true rfl)) (zb_1 hx)) ?_
        refine z_bf (by decide) ?_
        refine z_ca (z_cv 1 (c5_isSheet _ _ _ (Nat.le_of_ble_eq_true rfl)) (zb_1 hy)) ?_
        refine z_bf (by decide) ?_
        refine z_go ?_
        refine z_ca (z_cv 1 (c1_isLost n 15 M s (by omega)) (zb_1 (cSh0 hI.1 (by omega) h1))) ?_
        refine z_bf (by decide) ?_
        refine z_go ?_
        refine z_ca (c5_found n 15 _ _) ?_
        exact z_rq hret rfl ⟨cI_find hI _, fun p hp => z_un (by omega)⟩
      · by_cases h2 : w.1 11 t = 0
        · have hno : stCopy w (nI s) i (nI t) j m = (-11, wU w 0 3 1) := by unfold stCopy; rw [if_pos hx, if_pos hy, hcs, hct, if_neg h1, if_pos h2]
          rw [hno] at hret
          refine z_ca (z_cv 1 (c5_isSheet _ _ _ (Nat.le_of_ble_eq_true rfl)) (zb_1 hx)) ?_
          refine z_bf (by decide) ?_
          refine z_ca (z_cv 1 (c5_isSheet _ _ _ (Nat.le_of_ble_eq_true rfl)) (zb_1 hy)) ?_
          refine z_bf (by decide) ?_
          refine z_go ?_
          refine z_ca (z_cv 0 (c1_isLost n 15 M s (by omega)) (zb_0 (cSh1 hI.1 (by omega) h1).2.1)) ?_
          refine z_bt (by decide) ?_
          refine z_ca (z_cv 1 (c1_isLost n 15 M t (by omega)) (zb_1 (cSh0 hI.1 (by omega) h2))) ?_
          refine z_bf (by decide) ?_
          refine z_ca (c5_found n 15 _ _) ?_
          exact z_rq hret rfl ⟨cI_find hI _, fun p hp => z_un (by omega)⟩
        · obtain ⟨q1, q2, q3, z, q4, q5, q6⟩ := cSh1 hI.1 (show s < 4 by omega) h1
          obtain ⟨r1, r2, r3, v, r4, r5, r6⟩ := cSh1 hI.1 (show t < 4 by omega) h2
          by_cases h3 : w.1 12 s = w.1 12 t
          · by_cases h4 : okC w s t i j m
            · have h40 := h4
              obtain ⟨h5, h6⟩ := h4
              rw [q5] at h5
              rw [r5] at h6
              obtain ⟨u1, u2, u3⟩ := (has_iff q4).mp h5
              obtain ⟨v1, v2, v3⟩ := (has_iff r4).mp h6
              obtain ⟨a, ea, rfl⟩ := toN u1
              obtain ⟨b, eb', rfl⟩ := toN v1
              obtain ⟨c, ec, rfl⟩ := toN u2
              have hno : stCopy w (nI s) (nI a) (nI t) (nI b) (nI c) = (1, wC w 14 (va_cpy (w.1 14) (w.1 14) (60 * s + a) (60 * t + b) c)) := by unfold stCopy; rw [if_pos hx, if_pos hy, hcs, hct, if_neg h1, if_neg h2, if_neg (fun q => q h3), if_pos h40, z_cl (by omega), z_cl (by omega), z_cl (by omega)]
              rw [hno] at hret
              refine z_ca (z_cv 1 (c5_isSheet _ _ _ (Nat.le_of_ble_eq_true rfl)) (zb_1 hx)) ?_
              refine z_bf (by decide) ?_
              refine z_ca (z_cv 1 (c5_isSheet _ _ _ (Nat.le_of_ble_eq_true rfl)) (zb_1 hy)) ?_
              refine z_bf (by decide) ?_
              refine z_go ?_
              refine z_ca (z_cv 0 (c1_isLost n 15 M s (by omega)) (zb_0 q2)) ?_
              refine z_bt (by decide) ?_
              refine z_ca (z_cv 0 (c1_isLost n 15 M t (by omega)) (zb_0 r2)) ?_
              refine z_bt (by decide) ?_
              refine z_go ?_
              refine And.intro (z_inN0 (by omega) (by omega)) ?_
              refine And.intro (z_inN0 (by omega) (by omega)) ?_
              refine z_bt (by show M 42 (nI s).toNatClampNeg = M 42 (nI t).toNatClampNeg; rw [hcs, hct, q1, r1]; exact h3) ?_
              refine z_go ?_
              refine z_ca (z_cv 1 (c1_has n 15 M s z (by omega) q6 _ _) (zb_1 h5)) ?_
              refine z_bf (by decide) ?_
              refine z_ca (z_cv 1 (c1_has n 15 M t v (by omega) r6 _ _) (zb_1 h6)) ?_
              refine z_bf (by decide) ?_
              refine z_go ?_
              refine z_ca (c1_move n 15 M s a t b c (by omega) (by omega) (by omega) (by omega)) ?_
              refine z_rq hret rfl ⟨⟨⟨⟨⟨w1, w2, w3, w4, w5⟩, wb, wp, ws, wt⟩, c1, c2, c3, c4, c5, c6, c7, c8, c9, ?_, c11, c12⟩, hI.2.1, hI.2.2⟩, fun p hp => z_un (by omega)⟩
              show va_cpy (M 44) (M 44) (60 * s + a) (60 * t + b) c = va_cpy (w.1 14) (w.1 14) (60 * s + a) (60 * t + b) c
              rw [c10]
            · have hno : stCopy w (nI s) i (nI t) j m = (-12, wU w 0 3 2) := by unfold stCopy; rw [if_pos hx, if_pos hy, hcs, hct, if_neg h1, if_neg h2, if_neg (fun q => q h3), if_neg h4]
              rw [hno] at hret
              unfold okC at h4
              rw [q5, r5] at h4
              by_cases h5 : 0 ≤ i ∧ 0 ≤ m ∧ i ≤ nI z - m
              · refine z_ca (z_cv 1 (c5_isSheet _ _ _ (Nat.le_of_ble_eq_true rfl)) (zb_1 hx)) ?_
                refine z_bf (by decide) ?_
                refine z_ca (z_cv 1 (c5_isSheet _ _ _ (Nat.le_of_ble_eq_true rfl)) (zb_1 hy)) ?_
                refine z_bf (by decide) ?_
                refine z_go ?_
                refine z_ca (z_cv 0 (c1_isLost n 15 M s (by omega)) (zb_0 q2)) ?_
                refine z_bt (by decide) ?_
                refine z_ca (z_cv 0 (c1_isLost n 15 M t (by omega)) (zb_0 r2)) ?_
                refine z_bt (by decide) ?_
                refine z_go ?_
                refine And.intro (z_inN0 (by omega) (by omega)) ?_
                refine And.intro (z_inN0 (by omega) (by omega)) ?_
                refine z_bt (by show M 42 (nI s).toNatClampNeg = M 42 (nI t).toNatClampNeg; rw [hcs, hct, q1, r1]; exact h3) ?_
                refine z_go ?_
                refine z_ca (z_cv 1 (c1_has n 15 M s z (by omega) q6 i m) (zb_1 h5)) ?_
                refine z_bf (by decide) ?_
                refine z_ca (z_cv 0 (c1_has n 15 M t v (by omega) r6 j m) (zb_0 (fun q => h4 ⟨h5, q⟩))) ?_
                refine z_bt (by decide) ?_
                refine z_ca (c5_found n 15 _ _) ?_
                exact z_rq hret rfl ⟨cI_find hI _, fun p hp => z_un (by omega)⟩
              · refine z_ca (z_cv 1 (c5_isSheet _ _ _ (Nat.le_of_ble_eq_true rfl)) (zb_1 hx)) ?_
                refine z_bf (by decide) ?_
                refine z_ca (z_cv 1 (c5_isSheet _ _ _ (Nat.le_of_ble_eq_true rfl)) (zb_1 hy)) ?_
                refine z_bf (by decide) ?_
                refine z_go ?_
                refine z_ca (z_cv 0 (c1_isLost n 15 M s (by omega)) (zb_0 q2)) ?_
                refine z_bt (by decide) ?_
                refine z_ca (z_cv 0 (c1_isLost n 15 M t (by omega)) (zb_0 r2)) ?_
                refine z_bt (by decide) ?_
                refine z_go ?_
                refine And.intro (z_inN0 (by omega) (by omega)) ?_
                refine And.intro (z_inN0 (by omega) (by omega)) ?_
                refine z_bt (by show M 42 (nI s).toNatClampNeg = M 42 (nI t).toNatClampNeg; rw [hcs, hct, q1, r1]; exact h3) ?_
                refine z_go ?_
                refine z_ca (z_cv 0 (c1_has n 15 M s z (by omega) q6 i m) (zb_0 h5)) ?_
                refine z_bt (by decide) ?_
                refine z_go ?_
                refine z_ca (c5_found n 15 _ _) ?_
                exact z_rq hret rfl ⟨cI_find hI _, fun p hp => z_un (by omega)⟩
          · have hno : stCopy w (nI s) i (nI t) j m = (-14, wU w 0 3 4) := by unfold stCopy; rw [if_pos hx, if_pos hy, hcs, hct, if_neg h1, if_neg h2, if_pos h3]
            rw [hno] at hret
            refine z_ca (z_cv 1 (c5_isSheet _ _ _ (Nat.le_of_ble_eq_true rfl)) (zb_1 hx)) ?_
            refine z_bf (by decide) ?_
            refine z_ca (z_cv 1 (c5_isSheet _ _ _ (Nat.le_of_ble_eq_true rfl)) (zb_1 hy)) ?_
            refine z_bf (by decide) ?_
            refine z_go ?_
            refine z_ca (z_cv 0 (c1_isLost n 15 M s (by omega)) (zb_0 q2)) ?_
            refine z_bt (by decide) ?_
            refine z_ca (z_cv 0 (c1_isLost n 15 M t (by omega)) (zb_0 r2)) ?_
            refine z_bt (by decide) ?_
            refine z_go ?_
            refine And.intro (z_inN0 (by omega) (by omega)) ?_
            refine And.intro (z_inN0 (by omega) (by omega)) ?_
            refine z_bf (by show ¬ M 42 (nI s).toNatClampNeg = M 42 (nI t).toNatClampNeg; rw [hcs, hct, q1, r1]; exact h3) ?_
            refine z_ca (c5_found n 15 _ _) ?_
            exact z_rq hret rfl ⟨cI_find hI _, fun p hp => z_un (by omega)⟩
    · have hno : stCopy w (nI s) i y j m = (-2, w) := by unfold stCopy; rw [if_pos hx, if_neg hy]
      rw [hno] at hret
      refine z_ca (z_cv 1 (c5_isSheet _ _ _ (Nat.le_of_ble_eq_true rfl)) (zb_1 hx)) ?_
      refine z_bf (by decide) ?_
      refine z_ca (z_cv 0 (c5_isSheet _ _ _ (Nat.le_of_ble_eq_true rfl)) (zb_0 hy)) ?_
      refine z_bt (by decide) ?_
      exact z_rq hret rfl ⟨hI, fun _ _ => rfl⟩
  · have hno : stCopy w x i y j m = (-2, w) := by unfold stCopy; rw [if_neg hx]
    rw [hno] at hret
    refine z_ca (z_cv 0 (c5_isSheet _ _ _ (Nat.le_of_ble_eq_true rfl)) (zb_0 hx)) ?_
    refine z_bt (by decide) ?_
    refine z_go ?_
    exact z_rq hret rfl ⟨hI, fun _ _ => rfl⟩
set_option maxRecDepth 10000 in
set_option maxHeartbeats 1000000 in
theorem e6_copy (n eb : Nat) (M : zM) (w : Rw) (hC : rC w M) (x i y j m : Int32) : zMet zi_X6_copy [.ref 45, .int x, .int i, .int y, .int j, .int m] (zLay n eb) M (zLay n eb) (zr (some (.int (stCopy w x i y j m).1)) (rTo (stCopy w x i y j m).2 M)) := by
  refine z_mr (zk_X6_copy _ _) rfl (Nat.le_of_ble_eq_true rfl) rfl (fun ret hret => ?_)
  have hC0 := hC
  obtain ⟨⟨⟨w1, w2, w3, w4, w5⟩, wb, wp, ws, wt⟩, c1, c2, c3, c4, ⟨c5, c6, c7, c8⟩, c9, c10, c11⟩ := hC
  by_cases hx : 0 ≤ x ∧ x ≤ 3
  · obtain ⟨s, hs, rfl⟩ := rg 3 rfl (by omega) hx
    have hcs : (nI s).toNatClampNeg = s := z_cl (by omega)
    by_cases hy : 0 ≤ y ∧ y ≤ 3
    · obtain ⟨t, ht, rfl⟩ := rg 3 rfl (by omega) hy
      have hct : (nI t).toNatClampNeg = t := z_cl (by omega)
      by_cases h1 : w.1 11 s = 0
      · have hno : stCopy w (nI s) i (nI t) j m = (-11, wU w 0 3 1) := by unfold stCopy; rw [if_pos hx, if_pos hy, hcs, hct, if_pos h1]
        rw [hno] at hret
        refine z_ca (z_cv 1 (c6_isSheet _ _ _ (Nat.le_of_ble_eq_true rfl)) (zb_1 hx)) ?_
        refine z_bf (by decide) ?_
        refine z_ca (z_cv 1 (c6_isSheet _ _ _ (Nat.le_of_ble_eq_true rfl)) (zb_1 hy)) ?_
        refine z_bf (by decide) ?_
        refine z_go ?_
        refine And.intro (z_inN0 (by omega) (by omega)) ?_
        refine z_bt (by show M 71 (nI s).toNatClampNeg = 0; rw [hcs, c11.1]; exact h1) ?_
        refine z_go ?_
        refine z_ca (c6_meets n eb _ _) ?_
        exact z_rq hret rfl ⟨rC_find hC0 _, fun p hp => z_un (by omega)⟩
      · by_cases h2 : w.1 11 t = 0
        · have hno : stCopy w (nI s) i (nI t) j m = (-11, wU w 0 3 1) := by unfold stCopy; rw [if_pos hx, if_pos hy, hcs, hct, if_neg h1, if_pos h2]
          rw [hno] at hret
          refine z_ca (z_cv 1 (c6_isSheet _ _ _ (Nat.le_of_ble_eq_true rfl)) (zb_1 hx)) ?_
          refine z_bf (by decide) ?_
          refine z_ca (z_cv 1 (c6_isSheet _ _ _ (Nat.le_of_ble_eq_true rfl)) (zb_1 hy)) ?_
          refine z_bf (by decide) ?_
          refine z_go ?_
          refine And.intro (z_inN0 (by omega) (by omega)) ?_
          refine z_bf (by show ¬ M 71 (nI s).toNatClampNeg = 0; rw [hcs, c11.1]; exact h1) ?_
          refine And.intro (z_inN0 (by omega) (by omega)) ?_
          refine z_bt (by show M 71 (nI t).toNatClampNeg = 0; rw [hct, c11.1]; exact h2) ?_
          refine z_ca (c6_meets n eb _ _) ?_
          exact z_rq hret rfl ⟨rC_find hC0 _, fun p hp => z_un (by omega)⟩
        · have wf' : wf w := ⟨⟨w1, w2, w3, w4, w5⟩, wb, wp, ws, wt⟩
          obtain ⟨z, q4, q5⟩ : ∃ z, z ≤ 60 ∧ w.1 13 s = nI z := by
            rcases wSh wf' (show s < 4 by omega) with q | q
            · exact absurd q h1
            · exact q.2.2
          obtain ⟨v, r4, r5⟩ : ∃ z, z ≤ 60 ∧ w.1 13 t = nI z := by
            rcases wSh wf' (show t < 4 by omega) with q | q
            · exact absurd q h2
            · exact q.2.2
          have e73s : M 73 (nI s).toNatClampNeg = nI z := by rw [hcs, c11.2.2.1, q5]
          have e73t : M 73 (nI t).toNatClampNeg = nI v := by rw [hct, c11.2.2.1, r5]
          by_cases h3 : w.1 12 s = w.1 12 t
          · by_cases h4 : okC w s t i j m
            · have h40 := h4
              obtain ⟨h5, h6⟩ := h4
              rw [q5] at h5
              rw [r5] at h6
              obtain ⟨u1, u2, u3⟩ := (has_iff q4).mp h5
              obtain ⟨v1, v2, v3⟩ := (has_iff r4).mp h6
              obtain ⟨a, ea, rfl⟩ := toN u1
              obtain ⟨b, eb', rfl⟩ := toN v1
              obtain ⟨c, ec, rfl⟩ := toN u2
              have hno : stCopy w (nI s) (nI a) (nI t) (nI b) (nI c) = (1, wC w 14 (va_cpy (w.1 14) (w.1 14) (60 * s + a) (60 * t + b) c)) := by unfold stCopy; rw [if_pos hx, if_pos hy, hcs, hct, if_neg h1, if_neg h2, if_neg (fun q => q h3), if_pos h40, z_cl (by omega), z_cl (by omega), z_cl (by omega)]
              rw [hno] at hret
              have hix : ∀ k, 60 * nI s + nI a + nI k = nI (60 * s + a + k) := fun k => by rw [show (60 : Int32) = nI 60 from rfl, pk_mul, nI_add, nI_add]
              have hiy : ∀ k, 60 * nI t + nI b + nI k = nI (60 * t + b + k) := fun k => by rw [show (60 : Int32) = nI 60 from rfl, pk_mul, nI_add, nI_add]
              have g1 : ¬ nI a < 0 := nI_pos (by omega)
              have g2 : ¬ nI b < 0 := nI_pos (by omega)
              have g3 : ¬ nI c < 0 := nI_pos (by omega)
              have g4 : ¬ (z : Int) < (nI a).toInt + (nI c).toInt := by omega
              have g5 : (nI b).toInt + (nI c).toInt ≤ (v : Int) := v3
              obtain ⟨M1, hM1⟩ : ∃ M1, M1 = va_up M 75 (fb_put (M 75) (fun k => M 74 (60 * s + a + k)) 0 c) := ⟨_, rfl⟩
              refine z_ca (z_cv 1 (c6_isSheet _ _ _ (Nat.le_of_ble_eq_true rfl)) (zb_1 hx)) ?_
              refine z_bf (by decide) ?_
              refine z_ca (z_cv 1 (c6_isSheet _ _ _ (Nat.le_of_ble_eq_true rfl)) (zb_1 hy)) ?_
              refine z_bf (by decide) ?_
              refine z_go ?_
              refine And.intro (z_inN0 (by omega) (by omega)) ?_
              refine z_bf (by show ¬ M 71 (nI s).toNatClampNeg = 0; rw [hcs, c11.1]; exact h1) ?_
              refine And.intro (z_inN0 (by omega) (by omega)) ?_
              refine z_bf (by show ¬ M 71 (nI t).toNatClampNeg = 0; rw [hct, c11.1]; exact h2) ?_
              refine z_go ?_
              refine And.intro (z_inN0 (by omega) (by omega)) ?_
              refine And.intro (z_inN0 (by omega) (by omega)) ?_
              refine z_bt (by show M 72 (nI s).toNatClampNeg = M 72 (nI t).toNatClampNeg; rw [hcs, hct, c11.2.1]; exact h3) ?_
              refine z_go ?_
              refine z_bf g1 ?_
              refine z_bf g2 ?_
              refine z_bf g3 ?_
              refine And.intro (z_inN0 (by omega) (by omega)) ?_
              refine z_bf (by show ¬ 0 < lg_cmp ((nI a).toInt64 + (nI c).toInt64) (M 73 (nI s).toNatClampNeg).toInt64; rw [e73s, lg_cmp_gt, over_iff' q4]; exact g4) ?_
              refine And.intro (z_inN0 (by omega) (by omega)) ?_
              refine z_bt (by show lg_cmp ((nI b).toInt64 + (nI c).toInt64) (M 73 (nI t).toNatClampNeg).toInt64 ≤ 0; rw [e73t, lg_cmp_le, over_iff r4]; exact g5) ?_
              refine z_go ?_
              have loop2 := z_l1 (P := zp_X6_copy) (ret := ret) (pc := 157) (L := zLay n eb) (N := c) (lo := fun x => [some (.ref 45), none, none, some (.int (nI t)), some (.int (nI b)), some (.int (nI c)), some (.int x)]) (I := fun k x M' => M' = va_up M1 74 (fb_put (M1 74) (M1 75) (60 * t + b) k) ∧ x = nI k) (by
                  rintro k x M' hk ⟨rfl, rfl⟩ ih
                  refine z_go ?_
                  refine z_bf (nI_ge (a := k) (b := c) hk (by omega)) ?_
                  refine And.intro (z_inN0 (by omega) (by omega)) ?_
                  refine And.intro (by show vp_in (60 * nI t + nI b + nI k) 240; rw [hiy k]; exact z_inN0 (by omega) (by omega)) ?_
                  refine ih _ _ ⟨?_, nI_1 k⟩
                  show va_up (va_up M1 74 (fb_put (M1 74) (M1 75) (60 * t + b) k)) 74 (upd (fb_put (M1 74) (M1 75) (60 * t + b) k) (60 * nI t + nI b + nI k).toNatClampNeg (M1 75 (nI k).toNatClampNeg)) = _
                  rw [z_uu, hiy k, z_cl (by omega), z_cl (by omega), fb_put_succ (M1 74) (M1 75) (60 * t + b) k]) (by
                  rintro x M' ⟨rfl, rfl⟩
                  refine z_go ?_
                  refine z_bt (nI_le (a := c) (b := c) (Nat.le_refl _) (by omega)) ?_
                  refine z_go ?_
                  refine z_rq hret rfl ⟨⟨⟨⟨w1, w2, w3, w4, w5⟩, wb, wp, ws, wt⟩, ?_⟩, fun p hp => ?_⟩
                  · have e75 : ∀ k, k < c → M1 75 k = w.1 14 (60 * s + a + k) := fun k hk => by
                      rw [hM1, z_us, fb_put_in (by omega) (by omega), Nat.sub_zero, c11.2.2.2]
                    have e74 : fb_put (M1 74) (M1 75) (60 * t + b) c = va_cpy (w.1 14) (w.1 14) (60 * s + a) (60 * t + b) c := by
                      rw [fb_put_cong (f2 := w.1 14) (g2 := fun k => w.1 14 (60 * s + a + k)) (fun k _ => by rw [hM1, z_un (by omega), c11.2.2.2]) e75]
                      rfl
                    have ep : ∀ p, p ≠ 74 → p ≠ 75 → va_up M1 74 (fb_put (M1 74) (M1 75) (60 * t + b) c) p = M p := fun p h1 h2 => by rw [z_un h1, hM1, z_un h2]
                    rw [ep 46 (by omega) (by omega), ep 47 (by omega) (by omega), ep 54 (by omega) (by omega), ep 45 (by omega) (by omega), ep 55 (by omega) (by omega), ep 56 (by omega) (by omega), ep 57 (by omega) (by omega), ep 58 (by omega) (by omega), ep 59 (by omega) (by omega), ep 67 (by omega) (by omega), ep 68 (by omega) (by omega), ep 69 (by omega) (by omega), ep 71 (by omega) (by omega), ep 72 (by omega) (by omega), ep 73 (by omega) (by omega), z_us]
                    exact ⟨c1, c2, c3, c4, ⟨c5, c6, c7, c8⟩, c9, c10, c11.1, c11.2.1, c11.2.2.1, e74⟩
                  · rw [z_un (by omega), hM1, z_un (by omega)])
              have loop := z_l1 (P := zp_X6_copy) (ret := ret) (pc := 120) (L := zLay n eb) (N := c) (lo := fun x => [some (.ref 45), some (.int (nI s)), some (.int (nI a)), some (.int (nI t)), some (.int (nI b)), some (.int (nI c)), some (.int x)]) (I := fun k x M' => M' = va_up M 75 (fb_put (M 75) (fun k => M 74 (60 * s + a + k)) 0 k) ∧ x = nI k) (by
                  rintro k x M' hk ⟨rfl, rfl⟩ ih
                  refine z_go ?_
                  refine z_bf (nI_ge (a := k) (b := c) hk (by omega)) ?_
                  refine And.intro (by show vp_in (60 * nI s + nI a + nI k) 240; rw [hix k]; exact z_inN0 (by omega) (by omega)) ?_
                  refine And.intro (z_inN0 (by omega) (by omega)) ?_
                  refine ih _ _ ⟨?_, nI_1 k⟩
                  show va_up (va_up M 75 (fb_put (M 75) (fun k => M 74 (60 * s + a + k)) 0 k)) 75 (upd (fb_put (M 75) (fun k => M 74 (60 * s + a + k)) 0 k) (nI k).toNatClampNeg (M 74 (60 * nI s + nI a + nI k).toNatClampNeg)) = _
                  rw [z_uu, hix k, z_cl (by omega), z_cl (by omega)]
                  have q := fb_put_succ (M 75) (fun k => M 74 (60 * s + a + k)) 0 k
                  rw [Nat.zero_add] at q
                  rw [q]) (by
                  rintro x M' ⟨rfl, rfl⟩
                  refine z_go ?_
                  refine z_bt (nI_le (a := c) (b := c) (Nat.le_refl _) (by omega)) ?_
                  refine z_go ?_
                  refine loop2 0 _ _ (Nat.zero_le _) ⟨?_, rfl⟩
                  rw [fb_put_0, ← hM1]
                  exact (z_uid (M := M1) (p := 74)).symm)
              refine loop 0 _ _ (Nat.zero_le _) ⟨?_, rfl⟩
              rw [fb_put_0]
              exact (z_uid (M := M) (p := 75)).symm
            · have hno : stCopy w (nI s) i (nI t) j m = (-12, wU w 0 3 2) := by unfold stCopy; rw [if_pos hx, if_pos hy, hcs, hct, if_neg h1, if_neg h2, if_neg (fun q => q h3), if_neg h4]
              rw [hno] at hret
              unfold okC at h4
              rw [q5, r5] at h4
              by_cases g1 : i < 0
              · refine z_ca (z_cv 1 (c6_isSheet _ _ _ (Nat.le_of_ble_eq_true rfl)) (zb_1 hx)) ?_
                refine z_bf (by decide) ?_
                refine z_ca (z_cv 1 (c6_isSheet _ _ _ (Nat.le_of_ble_eq_true rfl)) (zb_1 hy)) ?_
                refine z_bf (by decide) ?_
                refine z_go ?_
                refine And.intro (z_inN0 (by omega) (by omega)) ?_
                refine z_bf (by show ¬ M 71 (nI s).toNatClampNeg = 0; rw [hcs, c11.1]; exact h1) ?_
                refine And.intro (z_inN0 (by omega) (by omega)) ?_
                refine z_bf (by show ¬ M 71 (nI t).toNatClampNeg = 0; rw [hct, c11.1]; exact h2) ?_
                refine z_go ?_
                refine And.intro (z_inN0 (by omega) (by omega)) ?_
                refine And.intro (z_inN0 (by omega) (by omega)) ?_
                refine z_bt (by show M 72 (nI s).toNatClampNeg = M 72 (nI t).toNatClampNeg; rw [hcs, hct, c11.2.1]; exact h3) ?_
                refine z_go ?_
                refine z_bt g1 ?_
                refine z_go ?_
                refine z_ca (c6_meets n eb _ _) ?_
                exact z_rq hret rfl ⟨rC_find hC0 _, fun p hp => z_un (by omega)⟩
              · by_cases g2 : j < 0
                · refine z_ca (z_cv 1 (c6_isSheet _ _ _ (Nat.le_of_ble_eq_true rfl)) (zb_1 hx)) ?_
                  refine z_bf (by decide) ?_
                  refine z_ca (z_cv 1 (c6_isSheet _ _ _ (Nat.le_of_ble_eq_true rfl)) (zb_1 hy)) ?_
                  refine z_bf (by decide) ?_
                  refine z_go ?_
                  refine And.intro (z_inN0 (by omega) (by omega)) ?_
                  refine z_bf (by show ¬ M 71 (nI s).toNatClampNeg = 0; rw [hcs, c11.1]; exact h1) ?_
                  refine And.intro (z_inN0 (by omega) (by omega)) ?_
                  refine z_bf (by show ¬ M 71 (nI t).toNatClampNeg = 0; rw [hct, c11.1]; exact h2) ?_
                  refine z_go ?_
                  refine And.intro (z_inN0 (by omega) (by omega)) ?_
                  refine And.intro (z_inN0 (by omega) (by omega)) ?_
                  refine z_bt (by show M 72 (nI s).toNatClampNeg = M 72 (nI t).toNatClampNeg; rw [hcs, hct, c11.2.1]; exact h3) ?_
                  refine z_go ?_
                  refine z_bf g1 ?_
                  refine z_bt g2 ?_
                  refine z_go ?_
                  refine z_ca (c6_meets n eb _ _) ?_
                  exact z_rq hret rfl ⟨rC_find hC0 _, fun p hp => z_un (by omega)⟩
                · by_cases g3 : m < 0
                  · refine z_ca (z_cv 1 (c6_isSheet _ _ _ (Nat.le_of_ble_eq_true rfl)) (zb_1 hx)) ?_
                    refine z_bf (by decide) ?_
                    refine z_ca (z_cv 1 (c6_isSheet _ _ _ (Nat.le_of_ble_eq_true rfl)) (zb_1 hy)) ?_
                    refine z_bf (by decide) ?_
                    refine z_go ?_
                    refine And.intro (z_inN0 (by omega) (by omega)) ?_
                    refine z_bf (by show ¬ M 71 (nI s).toNatClampNeg = 0; rw [hcs, c11.1]; exact h1) ?_
                    refine And.intro (z_inN0 (by omega) (by omega)) ?_
                    refine z_bf (by show ¬ M 71 (nI t).toNatClampNeg = 0; rw [hct, c11.1]; exact h2) ?_
                    refine z_go ?_
                    refine And.intro (z_inN0 (by omega) (by omega)) ?_
                    refine And.intro (z_inN0 (by omega) (by omega)) ?_
                    refine z_bt (by show M 72 (nI s).toNatClampNeg = M 72 (nI t).toNatClampNeg; rw [hcs, hct, c11.2.1]; exact h3) ?_
                    refine z_go ?_
                    refine z_bf g1 ?_
                    refine z_bf g2 ?_
                    refine z_bt g3 ?_
                    refine z_go ?_
                    refine z_ca (c6_meets n eb _ _) ?_
                    exact z_rq hret rfl ⟨rC_find hC0 _, fun p hp => z_un (by omega)⟩
                  · by_cases g4 : (z : Int) < i.toInt + m.toInt
                    · refine z_ca (z_cv 1 (c6_isSheet _ _ _ (Nat.le_of_ble_eq_true rfl)) (zb_1 hx)) ?_
                      refine z_bf (by decide) ?_
                      refine z_ca (z_cv 1 (c6_isSheet _ _ _ (Nat.le_of_ble_eq_true rfl)) (zb_1 hy)) ?_
                      refine z_bf (by decide) ?_
                      refine z_go ?_
                      refine And.intro (z_inN0 (by omega) (by omega)) ?_
                      refine z_bf (by show ¬ M 71 (nI s).toNatClampNeg = 0; rw [hcs, c11.1]; exact h1) ?_
                      refine And.intro (z_inN0 (by omega) (by omega)) ?_
                      refine z_bf (by show ¬ M 71 (nI t).toNatClampNeg = 0; rw [hct, c11.1]; exact h2) ?_
                      refine z_go ?_
                      refine And.intro (z_inN0 (by omega) (by omega)) ?_
                      refine And.intro (z_inN0 (by omega) (by omega)) ?_
                      refine z_bt (by show M 72 (nI s).toNatClampNeg = M 72 (nI t).toNatClampNeg; rw [hcs, hct, c11.2.1]; exact h3) ?_
                      refine z_go ?_
                      refine z_bf g1 ?_
                      refine z_bf g2 ?_
                      refine z_bf g3 ?_
                      refine And.intro (z_inN0 (by omega) (by omega)) ?_
                      refine z_bt (by show 0 < lg_cmp (i.toInt64 + m.toInt64) (M 73 (nI s).toNatClampNeg).toInt64; rw [e73s, lg_cmp_gt, over_iff' q4]; exact g4) ?_
                      refine z_go ?_
                      refine z_ca (c6_meets n eb _ _) ?_
                      exact z_rq hret rfl ⟨rC_find hC0 _, fun p hp => z_un (by omega)⟩
                    · by_cases g5 : j.toInt + m.toInt ≤ (v : Int)
                      · exfalso
                        have z0 : (0 : Int32).toInt = 0 := by decide
                        rw [fa_lt, z0] at g1 g2 g3
                        exact h4 ⟨(has_iff q4).mpr ⟨by omega, by omega, by omega⟩, (has_iff r4).mpr ⟨by omega, by omega, g5⟩⟩
                      · refine z_ca (z_cv 1 (c6_isSheet _ _ _ (Nat.le_of_ble_eq_true rfl)) (zb_1 hx)) ?_
                        refine z_bf (by decide) ?_
                        refine z_ca (z_cv 1 (c6_isSheet _ _ _ (Nat.le_of_ble_eq_true rfl)) (zb_1 hy)) ?_
                        refine z_bf (by decide) ?_
                        refine z_go ?_
                        refine And.intro (z_inN0 (by omega) (by omega)) ?_
                        refine z_bf (by show ¬ M 71 (nI s).toNatClampNeg = 0; rw [hcs, c11.1]; exact h1) ?_
                        refine And.intro (z_inN0 (by omega) (by omega)) ?_
                        refine z_bf (by show ¬ M 71 (nI t).toNatClampNeg = 0; rw [hct, c11.1]; exact h2) ?_
                        refine z_go ?_
                        refine And.intro (z_inN0 (by omega) (by omega)) ?_
                        refine And.intro (z_inN0 (by omega) (by omega)) ?_
                        refine z_bt (by show M 72 (nI s).toNatClampNeg = M 72 (nI t).toNatClampNeg; rw [hcs, hct, c11.2.1]; exact h3) ?_
                        refine z_go ?_
                        refine z_bf g1 ?_
                        refine z_bf g2 ?_
                        refine z_bf g3 ?_
                        refine And.intro (z_inN0 (by omega) (by omega)) ?_
                        refine z_bf (by show ¬ 0 < lg_cmp (i.toInt64 + m.toInt64) (M 73 (nI s).toNatClampNeg).toInt64; rw [e73s, lg_cmp_gt, over_iff' q4]; exact g4) ?_
                        refine And.intro (z_inN0 (by omega) (by omega)) ?_
                        refine z_bf (by show ¬ lg_cmp (j.toInt64 + m.toInt64) (M 73 (nI t).toNatClampNeg).toInt64 ≤ 0; rw [e73t, lg_cmp_le, over_iff r4]; exact g5) ?_
                        refine z_ca (c6_meets n eb _ _) ?_
                        exact z_rq hret rfl ⟨rC_find hC0 _, fun p hp => z_un (by omega)⟩
          · have hno : stCopy w (nI s) i (nI t) j m = (-14, wU w 0 3 4) := by unfold stCopy; rw [if_pos hx, if_pos hy, hcs, hct, if_neg h1, if_neg h2, if_pos h3]
            rw [hno] at hret
            refine z_ca (z_cv 1 (c6_isSheet _ _ _ (Nat.le_of_ble_eq_true rfl)) (zb_1 hx)) ?_
            refine z_bf (by decide) ?_
            refine z_ca (z_cv 1 (c6_isSheet _ _ _ (Nat.le_of_ble_eq_true rfl)) (zb_1 hy)) ?_
            refine z_bf (by decide) ?_
            refine z_go ?_
            refine And.intro (z_inN0 (by omega) (by omega)) ?_
            refine z_bf (by show ¬ M 71 (nI s).toNatClampNeg = 0; rw [hcs, c11.1]; exact h1) ?_
            refine And.intro (z_inN0 (by omega) (by omega)) ?_
            refine z_bf (by show ¬ M 71 (nI t).toNatClampNeg = 0; rw [hct, c11.1]; exact h2) ?_
            refine z_go ?_
            refine And.intro (z_inN0 (by omega) (by omega)) ?_
            refine And.intro (z_inN0 (by omega) (by omega)) ?_
            refine z_bf (by show ¬ M 72 (nI s).toNatClampNeg = M 72 (nI t).toNatClampNeg; rw [hcs, hct, c11.2.1]; exact h3) ?_
            refine z_ca (c6_meets n eb _ _) ?_
            exact z_rq hret rfl ⟨rC_find hC0 _, fun p hp => z_un (by omega)⟩
    · have hno : stCopy w (nI s) i y j m = (-2, w) := by unfold stCopy; rw [if_pos hx, if_neg hy]
      rw [hno] at hret
      refine z_ca (z_cv 1 (c6_isSheet _ _ _ (Nat.le_of_ble_eq_true rfl)) (zb_1 hx)) ?_
      refine z_bf (by decide) ?_
      refine z_ca (z_cv 0 (c6_isSheet _ _ _ (Nat.le_of_ble_eq_true rfl)) (zb_0 hy)) ?_
      refine z_bt (by decide) ?_
      exact z_rq hret rfl ⟨hC0, fun _ _ => rfl⟩
  · have hno : stCopy w x i y j m = (-2, w) := by unfold stCopy; rw [if_neg hx]
    rw [hno] at hret
    refine z_ca (z_cv 0 (c6_isSheet _ _ _ (Nat.le_of_ble_eq_true rfl)) (zb_0 hx)) ?_
    refine z_bt (by decide) ?_
    refine z_go ?_
    exact z_rq hret rfl ⟨hC0, fun _ _ => rfl⟩
