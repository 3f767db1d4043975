/-! lose, put, get, in both -/
theorem wSh {w : Rw} (h : wf w) {s : Nat} (hs : s < 4) : w.1 11 s = 0 ∨ (w.1 11 s = 1 ∧ (w.1 12 s = 0 ∨ w.1 12 s = 1 ∨ w.1 12 s = 2) ∧ ∃ z, z ≤ 60 ∧ w.1 13 s = nI z) := by
  obtain ⟨h1, h2⟩ := h.2.2.2.2 s hs
  rcases h1 with e | e
  · exact Or.inl e
  · exact Or.inr ⟨e, (h2 e).1, (h2 e).2⟩
theorem cSh0 {w : Rw} {M : zM} (h : cC w M) {s : Nat} (hs : s < 4) (e : w.1 11 s = 0) : M 42 s = -1 := by
  obtain ⟨-, -, -, -, -, -, -, -, -, c9, -⟩ := h
  have := (c9 s hs).1
  rw [if_pos e] at this
  exact this
theorem cSh1 {w : Rw} {M : zM} (h : cC w M) {s : Nat} (hs : s < 4) (e : ¬ w.1 11 s = 0) : M 42 s = w.1 12 s ∧ ¬ M 42 s = -1 ∧ (w.1 12 s = 0 ∨ w.1 12 s = 1 ∨ w.1 12 s = 2) ∧ ∃ z, z ≤ 60 ∧ w.1 13 s = nI z ∧ M 43 s = nI z := by
  have hw := h.1
  obtain ⟨-, -, -, -, -, -, -, -, -, c9, -⟩ := h
  have h1 := (c9 s hs).1
  rw [if_neg e] at h1
  rcases wSh hw hs with q | ⟨q1, q2, z, hz, q3⟩
  · exact absurd q e
  · refine ⟨h1, ?_, q2, z, hz, q3, ?_⟩
    · rw [h1]
      rcases q2 with r | r | r <;> rw [r] <;> decide
    · rw [(c9 s hs).2 q1, q3]
theorem lack_0 {w : Rw} {s : Nat} {f i : Int32} (h : lack w s f i = 0) : ¬ w.1 11 s = 0 ∧ w.1 12 s = f ∧ 0 ≤ i ∧ i ≤ w.1 13 s - 1 := by
  unfold lack at h
  by_cases h1 : w.1 11 s = 0
  · rw [if_pos h1] at h; exact absurd h (by decide)
  · rw [if_neg h1] at h
    by_cases h2 : w.1 12 s = f
    · rw [if_neg (fun q => q h2)] at h
      by_cases h3 : 0 ≤ i ∧ i ≤ w.1 13 s - 1
      · exact ⟨h1, h2, h3.1, h3.2⟩
      · rw [if_neg h3] at h; exact absurd h (by decide)
    · rw [if_pos h2] at h; exact absurd h (by decide)
theorem lack_in (w : Rw) (s : Nat) (f i : Int32) : lack w s f i = 0 ∨ lack w s f i = 1 ∨ lack w s f i = 2 ∨ lack w s f i = 3 := by
  unfold lack
  split
  · simp
  · split
    · simp
    · split <;> simp
theorem lack_ne {w : Rw} {s : Nat} {f i : Int32} (h : ¬ lack w s f i = 0) : ¬ -10 - lack w s f i = 0 := by
  rcases lack_in w s f i with e | e | e | e
  · exact absurd e h
  · rw [e]; decide
  · rw [e]; decide
  · rw [e]; decide
theorem lack_gt {w : Rw} {s : Nat} {f i : Int32} : lack w s f i ≤ 0 ↔ lack w s f i = 0 := by
  rcases lack_in w s f i with e | e | e | e <;> rw [e] <;> decide
set_option maxRecDepth 10000 in
set_option maxHeartbeats 1000000 in
theorem e5_lose (n : Nat) (M : zM) (w : Rw) (hI : cI w M) (x : Int32) : zMet zi_X5_lose [.ref 2, .int x] (zLay n 15) M (zLay n 15) (zr (some (.int (stLose w x).1)) (cTo (stLose w x).2 M)) := by
  refine z_mr (zk_X5_lose _ _) rfl (Nat.le_of_ble_eq_true rfl) rfl (fun ret hret => ?_)
  obtain ⟨⟨⟨w1, w2, w3, w4, w5⟩, wb, wp, ws, wt⟩, c1, c2, c3, c4, c5, c6, c7, c8, c9, c10, c11, c12⟩ := hI.1
  by_cases hx : 0 ≤ x ∧ x ≤ 3
  · obtain ⟨s, hs, rfl⟩ := rg 3 rfl (by omega) hx
    have hcs : (nI s).toNatClampNeg = s := z_cl (by omega)
    by_cases h0 : w.1 11 s = 0
    · have hno : stLose w (nI s) = (-11, wU w 0 3 1) := by unfold stLose; rw [if_pos hx, hcs, if_pos h0]
      rw [hno] at hret
      refine z_ca (z_cv 1 (c5_isSheet _ _ _ (Nat.le_of_ble_eq_true rfl)) (zb_1 hx)) ?_
      refine z_bf (by decide) ?_
      refine z_go ?_
      refine z_ca (z_cv 1 (c1_isLost n 15 M s (by omega)) (zb_1 (cSh0 hI.1 (by omega) h0))) ?_
      refine z_bf (by decide) ?_
      refine z_ca (c5_found n 15 _ _) ?_
      exact z_rq hret rfl ⟨cI_find hI _, fun p hp => z_un (by omega)⟩
    · have hno : stLose w (nI s) = (w.1 13 s, wU w 11 s 0) := by unfold stLose; rw [if_pos hx, hcs, if_neg h0]
      rw [hno] at hret
      have hwt : ∀ t, t < 4 → (upd (w.1 11) s 0 t = 0 ∨ upd (w.1 11) s 0 t = 1) ∧ (upd (w.1 11) s 0 t = 1 → (w.1 12 t = 0 ∨ w.1 12 t = 1 ∨ w.1 12 t = 2) ∧ ∃ z, z ≤ 60 ∧ w.1 13 t = nI z) := fun t ht => by
        rw [sh_up]
        by_cases e : t = s
        · rw [if_pos e]
          exact ⟨Or.inl rfl, fun q => absurd q (by decide)⟩
        · rw [if_neg e]
          exact wt t ht
      have hC1 : cI (wU w 11 s 0) (va_up (va_up M 42 (upd (M 42) s (-1))) 43 (upd (M 43) s 0)) := by
        refine ⟨⟨⟨⟨w1, w2, w3, w4, w5⟩, wb, wp, ws, hwt⟩, c1, c2, c3, c4, c5, c6, c7, c8, fun t ht => ?_, c10, c11, c12⟩, hI.2.1, hI.2.2⟩
        show upd (M 42) s (-1) t = (if upd (w.1 11) s 0 t = 0 then -1 else w.1 12 t) ∧ (upd (w.1 11) s 0 t = 1 → upd (M 43) s 0 t = w.1 13 t)
        rw [sh_up, sh_up, sh_up]
        by_cases e : t = s
        · rw [if_pos e, if_pos e, if_pos e, if_pos rfl]
          exact ⟨rfl, fun q => absurd q (by decide)⟩
        · rw [if_neg e, if_neg e, if_neg e]
          exact c9 t ht
      obtain ⟨q1, q2, q3, z, q4, q5, q6⟩ := cSh1 hI.1 (show s < 4 by omega) h0
      refine z_ca (z_cv 1 (c5_isSheet _ _ _ (Nat.le_of_ble_eq_true rfl)) (zb_1 hx)) ?_
      refine z_bf (by decide) ?_
      refine z_go ?_
      refine z_ca (z_cv 0 (c1_isLost n 15 M s (by omega)) (zb_0 q2)) ?_
      refine z_bt (by decide) ?_
      refine z_go ?_
      refine And.intro (z_inN0 (by omega) (by omega)) ?_
      refine z_ca (c1_drop n 15 M s (by omega)) ?_
      refine z_rq hret (z_vi ?_) ⟨hC1, fun p hp => ?_⟩
      · show M 43 (nI s).toNatClampNeg = w.1 13 s
        rw [hcs, q5, q6]
      · rw [z_un (by omega), z_un (by omega)]
  · have hno : stLose w x = (-2, w) := by unfold stLose; rw [if_neg hx]
    rw [hno] at hret
    refine z_ca (z_cv 0 (c5_isSheet _ _ _ (Nat.le_of_ble_eq_true rfl)) (zb_0 hx)) ?_
    refine z_bt (by decide) ?_
    exact z_rq hret rfl ⟨hI, fun _ _ => rfl⟩
set_option maxRecDepth 10000 in
set_option maxHeartbeats 1000000 in
theorem e6_lose (n eb : Nat) (M : zM) (w : Rw) (hC : rC w M) (x : Int32) : zMet zi_X6_lose [.ref 45, .int x] (zLay n eb) M (zLay n eb) (zr (some (.int (stLose w x).1)) (rTo (stLose w x).2 M)) := by
  refine z_mr (zk_X6_lose _ _) rfl (Nat.le_of_ble_eq_true rfl) rfl (fun ret hret => ?_)
  have hC0 := hC
  obtain ⟨⟨⟨w1, w2, w3, w4, w5⟩, wb, wp, ws, wt⟩, c1, c2, c3, c4, ⟨c5, c6, c7, c8⟩, c9, c10, c11⟩ := hC
  by_cases hx : 0 ≤ x ∧ x ≤ 3
  · obtain ⟨s, hs, rfl⟩ := rg 3 rfl (by omega) hx
    have hcs : (nI s).toNatClampNeg = s := z_cl (by omega)
    by_cases h0 : w.1 11 s = 0
    · have hno : stLose w (nI s) = (-11, wU w 0 3 1) := by unfold stLose; rw [if_pos hx, hcs, if_pos h0]
      rw [hno] at hret
      refine z_ca (z_cv 1 (c6_isSheet _ _ _ (Nat.le_of_ble_eq_true rfl)) (zb_1 hx)) ?_
      refine z_bf (by decide) ?_
      refine z_go ?_
      refine And.intro (z_inN0 (by omega) (by omega)) ?_
      refine z_bt (by show M 71 (nI s).toNatClampNeg = 0; rw [hcs, c11.1]; exact h0) ?_
      refine z_ca (c6_meets n eb _ _) ?_
      exact z_rq hret rfl ⟨rC_find hC0 _, fun p hp => z_un (by omega)⟩
    · have hno : stLose w (nI s) = (w.1 13 s, wU w 11 s 0) := by unfold stLose; rw [if_pos hx, hcs, if_neg h0]
      rw [hno] at hret
      have hwt : ∀ t, t < 4 → (upd (w.1 11) s 0 t = 0 ∨ upd (w.1 11) s 0 t = 1) ∧ (upd (w.1 11) s 0 t = 1 → (w.1 12 t = 0 ∨ w.1 12 t = 1 ∨ w.1 12 t = 2) ∧ ∃ z, z ≤ 60 ∧ w.1 13 t = nI z) := fun t ht => by
        rw [sh_up]
        by_cases e : t = s
        · rw [if_pos e]
          exact ⟨Or.inl rfl, fun q => absurd q (by decide)⟩
        · rw [if_neg e]
          exact wt t ht
      refine z_ca (z_cv 1 (c6_isSheet _ _ _ (Nat.le_of_ble_eq_true rfl)) (zb_1 hx)) ?_
      refine z_bf (by decide) ?_
      refine z_go ?_
      refine And.intro (z_inN0 (by omega) (by omega)) ?_
      refine z_bf (by show ¬ M 71 (nI s).toNatClampNeg = 0; rw [hcs, c11.1]; exact h0) ?_
      refine z_go ?_
      refine And.intro (z_inN0 (by omega) (by omega)) ?_
      refine And.intro (z_inN0 (by omega) (by omega)) ?_
      refine z_rq hret (z_vi ?_) ⟨⟨⟨⟨w1, w2, w3, w4, w5⟩, wb, wp, ws, hwt⟩, c1, c2, c3, c4, ⟨c5, c6, c7, c8⟩, c9, c10, ?_, c11.2⟩, fun p hp => z_un (by omega)⟩
      · show M 73 (nI s).toNatClampNeg = w.1 13 s
        rw [hcs, c11.2.2.1]
      · show upd (M 71) (nI s).toNatClampNeg (vp_nar .boolean 0) = upd (w.1 11) s 0
        rw [hcs, c11.1]
        rfl
  · have hno : stLose w x = (-2, w) := by unfold stLose; rw [if_neg hx]
    rw [hno] at hret
    refine z_ca (z_cv 0 (c6_isSheet _ _ _ (Nat.le_of_ble_eq_true rfl)) (zb_0 hx)) ?_
    refine z_bt (by decide) ?_
    exact z_rq hret rfl ⟨hC0, fun _ _ => rfl⟩
set_option maxRecDepth 10000 in
set_option maxHeartbeats 1000000 in
theorem d5_refX (n : Nat) (M : zM) (w : Rw) (hC : cC w M) (x f i : Int32) (hx : ¬ (0 ≤ x ∧ x ≤ 3)) : zMet zi_X5_refusalOfItem [.ref 2, .int x, .int f, .int i] (zLay n 15) M (zLay n 15) (zx (some (.int (-2))) M) := by
  refine z_me (zk_X5_refusalOfItem _ _) rfl (Nat.le_of_ble_eq_true rfl) rfl (fun ret hret => ?_)
  refine z_ca (z_cv 0 (c5_isSheet _ _ _ (Nat.le_of_ble_eq_true rfl)) (zb_0 hx)) ?_
  refine z_bt (by decide) ?_
  refine z_go ?_
  exact hret
set_option maxRecDepth 10000 in
set_option maxHeartbeats 1000000 in
theorem d5_refF (n : Nat) (M : zM) (w : Rw) (hC : cC w M) (x f i : Int32) (hx : 0 ≤ x ∧ x ≤ 3) (hf : ¬ (0 ≤ f ∧ f ≤ 2)) : zMet zi_X5_refusalOfItem [.ref 2, .int x, .int f, .int i] (zLay n 15) M (zLay n 15) (zx (some (.int (-2))) M) := by
  refine z_me (zk_X5_refusalOfItem _ _) rfl (Nat.le_of_ble_eq_true rfl) rfl (fun ret hret => ?_)
  refine z_ca (z_cv 1 (c5_isSheet _ _ _ (Nat.le_of_ble_eq_true rfl)) (zb_1 hx)) ?_
  refine z_bf (by decide) ?_
  refine z_ca (z_cv 0 (c5_isForm _ _ _ (Nat.le_of_ble_eq_true rfl)) (zb_0 hf)) ?_
  refine z_bt (by decide) ?_
  exact hret
set_option maxRecDepth 10000 in
set_option maxHeartbeats 1000000 in
theorem d5_ref0 (n : Nat) (M : zM) (w : Rw) (hC : cC w M) (s : Nat) (f i : Int32) (hs : s < 4) (hf : 0 ≤ f ∧ f ≤ 2) (hl : lack w s f i = 0) : zMet zi_X5_refusalOfItem [.ref 2, .int (nI s), .int f, .int i] (zLay n 15) M (zLay n 15) (zx (some (.int 0)) M) := by
  refine z_me (zk_X5_refusalOfItem _ _) rfl (Nat.le_of_ble_eq_true rfl) rfl (fun ret hret => ?_)
  have hx : 0 ≤ nI s ∧ nI s ≤ 3 := ⟨nI_pos' (by omega), nI_le (a := s) (b := 3) (by omega) (by omega)⟩
  have hcs : (nI s).toNatClampNeg = s := z_cl (by omega)
  obtain ⟨h1, h2, h3, h4⟩ := lack_0 hl
  obtain ⟨q1, q2, q3, z, q4, q5, q6⟩ := cSh1 hC hs h1
  rw [q5] at h4
  refine z_ca (z_cv 1 (c5_isSheet _ _ _ (Nat.le_of_ble_eq_true rfl)) (zb_1 hx)) ?_
  refine z_bf (by decide) ?_
  refine z_ca (z_cv 1 (c5_isForm _ _ _ (Nat.le_of_ble_eq_true rfl)) (zb_1 hf)) ?_
  refine z_bf (by decide) ?_
  refine z_go ?_
  refine z_ca (z_cv 0 (c1_isLost n 15 M s (by omega)) (zb_0 q2)) ?_
  refine z_bt (by decide) ?_
  refine z_go ?_
  refine And.intro (z_inN0 (by omega) (by omega)) ?_
  refine z_bt (by show M 42 (nI s).toNatClampNeg = f; rw [hcs, q1]; exact h2) ?_
  refine z_go ?_
  refine z_ca (z_cv 1 (c1_has n 15 M s z hs q6 i 1) (zb_1 ((has1_iff q4).mpr ⟨h3, h4⟩))) ?_
  refine z_bf (by decide) ?_
  refine z_go ?_
  exact hret
set_option maxRecDepth 10000 in
set_option maxHeartbeats 1000000 in
theorem d5_refL (n : Nat) (M : zM) (w : Rw) (hC : cC w M) (s : Nat) (f i : Int32) (hs : s < 4) (hf : 0 ≤ f ∧ f ≤ 2) (hl : ¬ lack w s f i = 0) : zMet zi_X5_refusalOfItem [.ref 2, .int (nI s), .int f, .int i] (zLay n 15) M (zLay n 15) (zx (some (.int (-10 - lack w s f i))) (va_up M 2 (upd (M 2) 15 (lack w s f i)))) := by
  refine z_me (zk_X5_refusalOfItem _ _) rfl (Nat.le_of_ble_eq_true rfl) rfl (fun ret hret => ?_)
  have hx : 0 ≤ nI s ∧ nI s ≤ 3 := ⟨nI_pos' (by omega), nI_le (a := s) (b := 3) (by omega) (by omega)⟩
  have hcs : (nI s).toNatClampNeg = s := z_cl (by omega)
  by_cases h1 : w.1 11 s = 0
  · have e : lack w s f i = 1 := by unfold lack; rw [if_pos h1]
    rw [e] at hret
    refine z_ca (z_cv 1 (c5_isSheet _ _ _ (Nat.le_of_ble_eq_true rfl)) (zb_1 hx)) ?_
    refine z_bf (by decide) ?_
    refine z_ca (z_cv 1 (c5_isForm _ _ _ (Nat.le_of_ble_eq_true rfl)) (zb_1 hf)) ?_
    refine z_bf (by decide) ?_
    refine z_go ?_
    refine z_ca (z_cv 1 (c1_isLost n 15 M s (by omega)) (zb_1 (cSh0 hC hs h1))) ?_
    refine z_bf (by decide) ?_
    refine z_ca (c5_found n 15 _ _) ?_
    exact hret
  · obtain ⟨q1, q2, q3, z, q4, q5, q6⟩ := cSh1 hC hs h1
    by_cases h2 : w.1 12 s = f
    · by_cases h3 : 0 ≤ i ∧ i ≤ w.1 13 s - 1
      · exact absurd (show lack w s f i = 0 by unfold lack; rw [if_neg h1, if_neg (fun q => q h2), if_pos h3]) hl
      · have e : lack w s f i = 2 := by unfold lack; rw [if_neg h1, if_neg (fun q => q h2), if_neg h3]
        rw [e] at hret
        rw [q5] at h3
        refine z_ca (z_cv 1 (c5_isSheet _ _ _ (Nat.le_of_ble_eq_true rfl)) (zb_1 hx)) ?_
        refine z_bf (by decide) ?_
        refine z_ca (z_cv 1 (c5_isForm _ _ _ (Nat.le_of_ble_eq_true rfl)) (zb_1 hf)) ?_
        refine z_bf (by decide) ?_
        refine z_go ?_
        refine z_ca (z_cv 0 (c1_isLost n 15 M s (by omega)) (zb_0 q2)) ?_
        refine z_bt (by decide) ?_
        refine z_go ?_
        refine And.intro (z_inN0 (by omega) (by omega)) ?_
        refine z_bt (by show M 42 (nI s).toNatClampNeg = f; rw [hcs, q1]; exact h2) ?_
        refine z_go ?_
        refine z_ca (z_cv 0 (c1_has n 15 M s z hs q6 i 1) (zb_0 (fun q => h3 ((has1_iff q4).mp q)))) ?_
        refine z_bt (by decide) ?_
        refine z_go ?_
        refine z_ca (c5_found n 15 _ _) ?_
        exact hret
    · have e : lack w s f i = 3 := by unfold lack; rw [if_neg h1, if_pos h2]
      rw [e] at hret
      refine z_ca (z_cv 1 (c5_isSheet _ _ _ (Nat.le_of_ble_eq_true rfl)) (zb_1 hx)) ?_
      refine z_bf (by decide) ?_
      refine z_ca (z_cv 1 (c5_isForm _ _ _ (Nat.le_of_ble_eq_true rfl)) (zb_1 hf)) ?_
      refine z_bf (by decide) ?_
      refine z_go ?_
      refine z_ca (z_cv 0 (c1_isLost n 15 M s (by omega)) (zb_0 q2)) ?_
      refine z_bt (by decide) ?_
      refine z_go ?_
      refine And.intro (z_inN0 (by omega) (by omega)) ?_
      refine z_bf (by show ¬ M 42 (nI s).toNatClampNeg = f; rw [hcs, q1]; exact h2) ?_
      refine z_ca (c5_found n 15 _ _) ?_
      exact hret
set_option maxRecDepth 10000 in
set_option maxHeartbeats 1000000 in
theorem d6_lacks (n eb : Nat) (M : zM) (w : Rw) (hC : rC w M) (s : Nat) (f i : Int32) (hs : s < 4) : zMet zi_X6_lacks [.ref 45, .int (nI s), .int f, .int i] (zLay n eb) M (zLay n eb) (zx (some (.int (lack w s f i))) M) := by
  refine z_me (zk_X6_lacks _ _) rfl (Nat.le_of_ble_eq_true rfl) rfl (fun ret hret => ?_)
  obtain ⟨hw, c1, c2, c3, c4, c5, c9, c10, c11⟩ := hC
  have hcs : (nI s).toNatClampNeg = s := z_cl (by omega)
  have e71 : M 71 (nI s).toNatClampNeg = w.1 11 s := by rw [hcs, c11.1]
  have e72 : M 72 (nI s).toNatClampNeg = w.1 12 s := by rw [hcs, c11.2.1]
  have e73 : M 73 (nI s).toNatClampNeg = w.1 13 s := by rw [hcs, c11.2.2.1]
  by_cases h1 : w.1 11 s = 0
  · refine And.intro (z_inN0 (by omega) (by omega)) ?_
    refine z_bt (by rw [e71]; exact h1) ?_
    refine z_go ?_
    exact z_re hret (z_vi (by unfold lack; rw [if_pos h1])) rfl
  · by_cases h2 : w.1 12 s = f
    · by_cases h3 : 0 ≤ i ∧ i ≤ w.1 13 s - 1
      · refine And.intro (z_inN0 (by omega) (by omega)) ?_
        refine z_bf (by rw [e71]; exact h1) ?_
        refine z_go ?_
        refine And.intro (z_inN0 (by omega) (by omega)) ?_
        refine z_bt (by rw [e72]; exact h2) ?_
        refine z_go ?_
        refine And.intro (z_inN0 (by omega) (by omega)) ?_
        refine z_ca (z_cv 1 (c6_in _ _ _ _ _ (Nat.le_of_ble_eq_true rfl)) (by rw [e73]; exact zb_1 h3)) ?_
        refine z_bf (by decide) ?_
        refine z_go ?_
        exact z_re hret (z_vi (by unfold lack; rw [if_neg h1, if_neg (fun q => q h2), if_pos h3])) rfl
      · refine And.intro (z_inN0 (by omega) (by omega)) ?_
        refine z_bf (by rw [e71]; exact h1) ?_
        refine z_go ?_
        refine And.intro (z_inN0 (by omega) (by omega)) ?_
        refine z_bt (by rw [e72]; exact h2) ?_
        refine z_go ?_
        refine And.intro (z_inN0 (by omega) (by omega)) ?_
        refine z_ca (z_cv 0 (c6_in _ _ _ _ _ (Nat.le_of_ble_eq_true rfl)) (by rw [e73]; exact zb_0 h3)) ?_
        refine z_bt (by decide) ?_
        refine z_go ?_
        exact z_re hret (z_vi (by unfold lack; rw [if_neg h1, if_neg (fun q => q h2), if_neg h3])) rfl
    · refine And.intro (z_inN0 (by omega) (by omega)) ?_
      refine z_bf (by rw [e71]; exact h1) ?_
      refine z_go ?_
      refine And.intro (z_inN0 (by omega) (by omega)) ?_
      refine z_bf (by rw [e72]; exact h2) ?_
      refine z_go ?_
      exact z_re hret (z_vi (by unfold lack; rw [if_neg h1, if_pos h2])) rfl
set_option maxRecDepth 10000 in
set_option maxHeartbeats 1000000 in
theorem e5_put (n : Nat) (M : zM) (w : Rw) (hI : cI w M) (x f i v : Int32) : zMet zi_X5_put [.ref 2, .int x, .int f, .int i, .int v] (zLay n 15) M (zLay n 15) (zr (some (.int (stPut w x f i v).1)) (cTo (stPut w x f i v).2 M)) := by
  refine z_mr (zk_X5_put _ _) rfl (Nat.le_of_ble_eq_true rfl) rfl (fun ret hret => ?_)
  obtain ⟨⟨⟨w1, w2, w3, w4, w5⟩, wb, wp, ws, wt⟩, c1, c2, c3, c4, c5, c6, c7, c8, c9, c10, c11, c12⟩ := hI.1
  by_cases hx : 0 ≤ x ∧ x ≤ 3
  · obtain ⟨s, hs, rfl⟩ := rg 3 rfl (by omega) hx
    have hcs : (nI s).toNatClampNeg = s := z_cl (by omega)
    by_cases hf : 0 ≤ f ∧ f ≤ 2
    · by_cases hl : lack w s f i = 0
      · obtain ⟨h1, h2, h3, h4⟩ := lack_0 hl
        obtain ⟨q3, z, q4, q5⟩ : (w.1 12 s = 0 ∨ w.1 12 s = 1 ∨ w.1 12 s = 2) ∧ ∃ z, z ≤ 60 ∧ w.1 13 s = nI z := by
          rcases wSh ⟨⟨w1, w2, w3, w4, w5⟩, wb, wp, ws, wt⟩ (show s < 4 by omega) with q | q
          · exact absurd q h1
          · exact q.2
        rw [q5] at h4
        obtain ⟨a, ha, rfl⟩ := rgZ q4 ⟨h3, h4⟩
        have hno : stPut w (nI s) f (nI a) v = (1, wU w 14 (60 * s + a) (nar f v)) := by unfold stPut; rw [if_pos hx, if_pos hf, hcs, if_pos hl, z_cl (by omega)]
        rw [hno] at hret
        obtain ⟨r1, r2, r3, y, r4, r5, r6⟩ := cSh1 hI.1 (show s < 4 by omega) h1
        have hzy : z = y := (nI_eq (by omega) (by omega)).mp (q5.symm.trans r5)
        subst hzy
        have hC1 : cI (wU w 14 (60 * s + a) (nar f v)) (va_up M 44 (upd (M 44) (60 * s + a) (nar (M 42 s) v))) := by
          refine ⟨⟨⟨⟨w1, w2, w3, w4, w5⟩, wb, wp, ws, wt⟩, c1, c2, c3, c4, c5, c6, c7, c8, c9, ?_, c11, c12⟩, hI.2.1, hI.2.2⟩
          show upd (M 44) (60 * s + a) (nar (M 42 s) v) = upd (w.1 14) (60 * s + a) (nar f v)
          rw [c10, r1, h2]
        refine z_ca (d5_ref0 n M w hI.1 s f (nI a) (by omega) hf hl) ?_
        refine z_bt rfl ?_
        refine z_go ?_
        refine z_ca (c1_store n 15 M s z a (by omega) r6 r4 ha v) ?_
        exact z_rq hret rfl ⟨hC1, fun p hp => z_un (by omega)⟩
      · have hno : stPut w (nI s) f i v = (-10 - lack w s f i, wU w 0 3 (lack w s f i)) := by unfold stPut; rw [if_pos hx, if_pos hf, hcs, if_neg hl]
        rw [hno] at hret
        refine z_ca (d5_refL n M w hI.1 s f i (by omega) hf hl) ?_
        refine z_bf (lack_ne hl) ?_
        exact z_rq hret rfl ⟨cI_find hI _, fun p hp => z_un (by omega)⟩
    · have hno : stPut w  (nI s) f i v = (-2, w) := by unfold stPut; rw [if_pos hx, if_neg hf]
      rw [hno] at hret
      refine z_ca (d5_refF n M w hI.1 _ _ _ hx hf) ?_
      refine z_bf (by decide) ?_
      exact z_rq hret rfl ⟨hI, fun _ _ => rfl⟩
  · have hno : stPut w x f i v = (-2, w) := by unfold stPut; rw [if_neg hx]
    rw [hno] at hret
    refine z_ca (d5_refX n M w hI.1 _ _ _ hx) ?_
    refine z_bf (by decide) ?_
    exact z_rq hret rfl ⟨hI, fun _ _ => rfl⟩
set_option maxRecDepth 10000 in
set_option maxHeartbeats 1000000 in
theorem e6_put (n eb : Nat) (M : zM) (w : Rw) (hC : rC w M) (x f i v : Int32) : zMet zi_X6_put [.ref 45, .int x, .int f, .int i, .int v] (zLay n eb) M (zLay n eb) (zr (some (.int (stPut w x f i v).1)) (rTo (stPut w x f i v).2 M)) := by
  refine z_mr (zk_X6_put _ _) rfl (Nat.le_of_ble_eq_true rfl) rfl (fun ret hret => ?_)
  have hC0 := hC
  obtain ⟨⟨⟨w1, w2, w3, w4, w5⟩, wb, wp, ws, wt⟩, c1, c2, c3, c4, ⟨c5, c6, c7, c8⟩, c9, c10, c11⟩ := hC
  by_cases hx : 0 ≤ x ∧ x ≤ 3
  · obtain ⟨s, hs, rfl⟩ := rg 3 rfl (by omega) hx
    have hcs : (nI s).toNatClampNeg = s := z_cl (by omega)
    by_cases hf : 0 ≤ f ∧ f ≤ 2
    · by_cases hl : lack w s f i = 0
      · obtain ⟨h1, h2, h3, h4⟩ := lack_0 hl
        obtain ⟨q3, z, q4, q5⟩ : (w.1 12 s = 0 ∨ w.1 12 s = 1 ∨ w.1 12 s = 2) ∧ ∃ z, z ≤ 60 ∧ w.1 13 s = nI z := by
          rcases wSh ⟨⟨w1, w2, w3, w4, w5⟩, wb, wp, ws, wt⟩ (show s < 4 by omega) with q | q
          · exact absurd q h1
          · exact q.2
        rw [q5] at h4
        obtain ⟨a, ha, rfl⟩ := rgZ q4 ⟨h3, h4⟩
        have hno : stPut w (nI s) f (nI a) v = (1, wU w 14 (60 * s + a) (nar f v)) := by unfold stPut; rw [if_pos hx, if_pos hf, hcs, if_pos hl, z_cl (by omega)]
        rw [hno] at hret
        refine z_ca (z_cv 1 (c6_isSheet _ _ _ (Nat.le_of_ble_eq_true rfl)) (zb_1 hx)) ?_
        refine z_bf (by decide) ?_
        refine z_ca (z_cv 1 (c6_in _ _ _ _ _ (Nat.le_of_ble_eq_true rfl)) (zb_1 hf)) ?_
        refine z_bf (by decide) ?_
        refine z_go ?_
        refine z_ca (d6_lacks n eb M w hC0 s _ _ (by omega)) ?_
        refine z_bt (lack_gt.mpr hl) ?_
        refine z_go ?_
        refine z_ca (c6_keep n eb M s a (by omega) (by omega) v) ?_
        refine z_rq hret rfl ⟨⟨⟨⟨w1, w2, w3, w4, w5⟩, wb, wp, ws, wt⟩, c1, c2, c3, c4, ⟨c5, c6, c7, c8⟩, c9, c10, c11.1, c11.2.1, c11.2.2.1, ?_⟩, fun p hp => z_un (by omega)⟩
        show upd (M 74) (60 * s + a) (nar (M 72 s) v) = upd (w.1 14) (60 * s + a) (nar f v)
        rw [c11.2.2.2, c11.2.1, h2]
      · have hno : stPut w (nI s) f i v = (-10 - lack w s f i, wU w 0 3 (lack w s f i)) := by unfold stPut; rw [if_pos hx, if_pos hf, hcs, if_neg hl]
        rw [hno] at hret
        refine z_ca (z_cv 1 (c6_isSheet _ _ _ (Nat.le_of_ble_eq_true rfl)) (zb_1 hx)) ?_
        refine z_bf (by decide) ?_
        refine z_ca (z_cv 1 (c6_in _ _ _ _ _ (Nat.le_of_ble_eq_true rfl)) (zb_1 hf)) ?_
        refine z_bf (by decide) ?_
        refine z_go ?_
        refine z_ca (d6_lacks n eb M w hC0 s _ _ (by omega)) ?_
        refine z_bf (fun q => hl (lack_gt.mp q)) ?_
        refine z_ca (c6_meets n eb _ _) ?_
        exact z_rq hret rfl ⟨rC_find hC0 _, fun p hp => z_un (by omega)⟩
    · have hno : stPut w  (nI s) f i v = (-2, w) := by unfold stPut; rw [if_pos hx, if_neg hf]
      rw [hno] at hret
      refine z_ca (z_cv 1 (c6_isSheet _ _ _ (Nat.le_of_ble_eq_true rfl)) (zb_1 hx)) ?_
      refine z_bf (by decide) ?_
      refine z_ca (z_cv 0 (c6_in _ _ _ _ _ (Nat.le_of_ble_eq_true rfl)) (zb_0 hf)) ?_
      refine z_bt (by decide) ?_
      exact z_rq hret rfl ⟨hC0, fun _ _ => rfl⟩
  · have hno : stPut w x f i v = (-2, w) := by unfold stPut; rw [if_neg hx]
    rw [hno] at hret
    refine z_ca (z_cv 0 (c6_isSheet _ _ _ (Nat.le_of_ble_eq_true rfl)) (zb_0 hx)) ?_
    refine z_bt (by decide) ?_
    refine z_go ?_
    exact z_rq hret rfl ⟨hC0, fun _ _ => rfl⟩
set_option maxRecDepth 10000 in
set_option maxHeartbeats 1000000 in
theorem e5_get (n : Nat) (M : zM) (w : Rw) (hI : cI w M) (x f i : Int32) : zMet zi_X5_get [.ref 2, .int x, .int f, .int i] (zLay n 15) M (zLay n 15) (zr (some (.int (stGet w x f i).1)) (cTo (stGet w x f i).2 M)) := by
  refine z_mr (zk_X5_get _ _) rfl (Nat.le_of_ble_eq_true rfl) rfl (fun ret hret => ?_)
  obtain ⟨⟨⟨w1, w2, w3, w4, w5⟩, wb, wp, ws, wt⟩, c1, c2, c3, c4, c5, c6, c7, c8, c9, c10, c11, c12⟩ := hI.1
  by_cases hx : 0 ≤ x ∧ x ≤ 3
  · obtain ⟨s, hs, rfl⟩ := rg 3 rfl (by omega) hx
    have hcs : (nI s).toNatClampNeg = s := z_cl (by omega)
    by_cases hf : 0 ≤ f ∧ f ≤ 2
    · by_cases hl : lack w s f i = 0
      · obtain ⟨h1, h2, h3, h4⟩ := lack_0 hl
        obtain ⟨q3, z, q4, q5⟩ : (w.1 12 s = 0 ∨ w.1 12 s = 1 ∨ w.1 12 s = 2) ∧ ∃ z, z ≤ 60 ∧ w.1 13 s = nI z := by
          rcases wSh ⟨⟨w1, w2, w3, w4, w5⟩, wb, wp, ws, wt⟩ (show s < 4 by omega) with q | q
          · exact absurd q h1
          · exact q.2
        rw [q5] at h4
        obtain ⟨a, ha, rfl⟩ := rgZ q4 ⟨h3, h4⟩
        have hno : stGet w (nI s) f (nI a) = (w.1 14 (60 * s + a), w) := by unfold stGet; rw [if_pos hx, if_pos hf, hcs, if_pos hl, z_cl (by omega)]
        rw [hno] at hret
        obtain ⟨r1, r2, r3, y, r4, r5, r6⟩ := cSh1 hI.1 (show s < 4 by omega) h1
        have hzy : z = y := (nI_eq (by omega) (by omega)).mp (q5.symm.trans r5)
        subst hzy
        refine z_ca (d5_ref0 n M w hI.1 s f (nI a) (by omega) hf hl) ?_
        refine z_bt rfl ?_
        refine z_ca (c1_item n 15 M s z a (by omega) r6 r4 ha) ?_
        refine z_go ?_
        exact z_rq hret (z_vi (by rw [c10])) ⟨hI, fun _ _ => rfl⟩
      · have hno : stGet w (nI s) f i = (-2147483648, wU w 0 3 (lack w s f i)) := by unfold stGet; rw [if_pos hx, if_pos hf, hcs, if_neg hl]
        rw [hno] at hret
        refine z_ca (d5_refL n M w hI.1 s f i (by omega) hf hl) ?_
        refine z_bf (lack_ne hl) ?_
        refine z_go ?_
        exact z_rq hret rfl ⟨cI_find hI _, fun p hp => z_un (by omega)⟩
    · have hno : stGet w  (nI s) f i = (-2147483648, w) := by unfold stGet; rw [if_pos hx, if_neg hf]
      rw [hno] at hret
      refine z_ca (d5_refF n M w hI.1 _ _ _ hx hf) ?_
      refine z_bf (by decide) ?_
      refine z_go ?_
      exact z_rq hret rfl ⟨hI, fun _ _ => rfl⟩
  · have hno : stGet w x f i = (-2147483648, w) := by unfold stGet; rw [if_neg hx]
    rw [hno] at hret
    refine z_ca (d5_refX n M w hI.1 _ _ _ hx) ?_
    refine z_bf (by decide) ?_
    refine z_go ?_
    exact z_rq hret rfl ⟨hI, fun _ _ => rfl⟩
set_option maxRecDepth 10000 in
set_option maxHeartbeats 1000000 in
theorem e6_get (n eb : Nat) (M : zM) (w : Rw) (hC : rC w M) (x f i : Int32) : zMet zi_X6_get [.ref 45, .int x, .int f, .int i] (zLay n eb) M (zLay n eb) (zr (some (.int (stGet w x f i).1)) (rTo (stGet w x f i).2 M)) := by
  refine z_mr (zk_X6_get _ _) rfl (Nat.le_of_ble_eq_true rfl) rfl (fun ret hret => ?_)
  have hC0 := hC
  obtain ⟨⟨⟨w1, w2, w3, w4, w5⟩, wb, wp, ws, wt⟩, c1, c2, c3, c4, ⟨c5, c6, c7, c8⟩, c9, c10, c11⟩ := hC
  by_cases hx : 0 ≤ x ∧ x ≤ 3
  · obtain ⟨s, hs, rfl⟩ := rg 3 rfl (by omega) hx
    have hcs : (nI s).toNatClampNeg = s := z_cl (by omega)
    by_cases hf : 0 ≤ f ∧ f ≤ 2
    · by_cases hl : lack w s f i = 0
      · obtain ⟨h1, h2, h3, h4⟩ := lack_0 hl
        obtain ⟨q3, z, q4, q5⟩ : (w.1 12 s = 0 ∨ w.1 12 s = 1 ∨ w.1 12 s = 2) ∧ ∃ z, z ≤ 60 ∧ w.1 13 s = nI z := by
          rcases wSh ⟨⟨w1, w2, w3, w4, w5⟩, wb, wp, ws, wt⟩ (show s < 4 by omega) with q | q
          · exact absurd q h1
          · exact q.2
        rw [q5] at h4
        obtain ⟨a, ha, rfl⟩ := rgZ q4 ⟨h3, h4⟩
        have hno : stGet w (nI s) f (nI a) = (w.1 14 (60 * s + a), w) := by unfold stGet; rw [if_pos hx, if_pos hf, hcs, if_pos hl, z_cl (by omega)]
        rw [hno] at hret
        have hix : 60 * nI s + nI a = nI (60 * s + a) := by rw [show (60 : Int32) = nI 60 from rfl, pk_mul, nI_add]
        refine z_ca (z_cv 1 (c6_isSheet _ _ _ (Nat.le_of_ble_eq_true rfl)) (zb_1 hx)) ?_
        refine z_bf (by decide) ?_
        refine z_ca (z_cv 1 (c6_in _ _ _ _ _ (Nat.le_of_ble_eq_true rfl)) (zb_1 hf)) ?_
        refine z_bf (by decide) ?_
        refine z_go ?_
        refine z_ca (d6_lacks n eb M w hC0 s _ _ (by omega)) ?_
        refine z_bt (lack_gt.mpr hl) ?_
        refine z_go ?_
        refine And.intro (by show vp_in (60 * nI s + nI a) 240; rw [hix]; exact z_inN0 (by omega) (by omega)) ?_
        refine z_rq hret (z_vi ?_) ⟨hC0, fun _ _ => rfl⟩
        show M 74 (60 * nI s + nI a).toNatClampNeg = _
        rw [hix, z_cl (by omega), c11.2.2.2]
      · have hno : stGet w (nI s) f i = (-2147483648, wU w 0 3 (lack w s f i)) := by unfold stGet; rw [if_pos hx, if_pos hf, hcs, if_neg hl]
        rw [hno] at hret
        refine z_ca (z_cv 1 (c6_isSheet _ _ _ (Nat.le_of_ble_eq_true rfl)) (zb_1 hx)) ?_
        refine z_bf (by decide) ?_
        refine z_ca (z_cv 1 (c6_in _ _ _ _ _ (Nat.le_of_ble_eq_true rfl)) (zb_1 hf)) ?_
        refine z_bf (by decide) ?_
        refine z_go ?_
        refine z_ca (d6_lacks n eb M w hC0 s _ _ (by omega)) ?_
        refine z_bf (fun q => hl (lack_gt.mp q)) ?_
        exact z_rq hret rfl ⟨rC_find hC0 _, fun p hp => z_un (by omega)⟩
    · have hno : stGet w  (nI s) f i = (-2147483648, w) := by unfold stGet; rw [if_pos hx, if_neg hf]
      rw [hno] at hret
      refine z_ca (z_cv 1 (c6_isSheet _ _ _ (Nat.le_of_ble_eq_true rfl)) (zb_1 hx)) ?_
      refine z_bf (by decide) ?_
      refine z_ca (z_cv 0 (c6_in _ _ _ _ _ (Nat.le_of_ble_eq_true rfl)) (zb_0 hf)) ?_
      refine z_bt (by decide) ?_
      exact z_rq hret rfl ⟨hC0, fun _ _ => rfl⟩
  · have hno : stGet w x f i = (-2147483648, w) := by unfold stGet; rw [if_neg hx]
    rw [hno] at hret
    refine z_ca (z_cv 0 (c6_isSheet _ _ _ (Nat.le_of_ble_eq_true rfl)) (zb_0 hx)) ?_
    refine z_bt (by decide) ?_
    refine z_go ?_
    exact z_rq hret rfl ⟨hC0, fun _ _ => rfl⟩
