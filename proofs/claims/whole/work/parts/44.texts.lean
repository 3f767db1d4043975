/-! type, wipe, undo, in both -/
/-- all that is told, as the class holds it; what it reads off it left aside -/
def cRaw (w : Rw) (M : zM) : Prop :=
  wf w ∧ (M 3 1 = 55 ∧ M 3 2 = nI (w.2 0) ∧ M 4 = w.1 1) ∧ (M 5 1 = 40 ∧ M 5 2 = nI (w.2 1) ∧ M 6 = w.1 2) ∧ (M 7 3 = w.1 0 0 ∧ M 7 4 = w.1 0 1 ∧ M 7 5 = w.1 0 2 ∧ M 7 9 = nI (w.2 2) ∧ M 7 10 = -1 ∧ M 7 13 = nI (w.2 3) ∧ M 7 14 = -1 ∧ M 7 15 = -1) ∧
  (M 16 = w.1 3 ∧ M 17 = w.1 4 ∧ M 18 = w.1 5 ∧ M 19 = w.1 6 ∧ M 20 = w.1 7) ∧ (M 38 = w.1 8 ∧ M 39 = w.1 9 ∧ M 40 = w.1 10) ∧ (∀ s, s < 4 → M 42 s = (if w.1 11 s = 0 then -1 else w.1 12 s) ∧ (w.1 11 s = 1 → M 43 s = w.1 13 s)) ∧ M 44 = w.1 14 ∧ M 2 13 = nI (w.2 4) ∧ M 2 15 = w.1 0 3
set_option maxRecDepth 10000 in
set_option maxHeartbeats 1000000 in
theorem c5_changed (n eb : Nat) (M : zM) : zMet zi_X5_changed [.ref 2] (zLay n eb) M (zLay n eb) (zx none (va_up (va_up M 2 (upd (M 2) 5 0)) 2 (upd (upd (M 2) 5 0) 7 0))) := by
  refine z_me (zk_X5_changed _ _) rfl (Nat.le_of_ble_eq_true rfl) rfl (fun ret hret => ?_)
  refine And.intro ⟨rfl, rfl⟩ ?_
  refine And.intro ⟨rfl, rfl⟩ ?_
  exact hret
set_option maxRecDepth 10000 in
set_option maxHeartbeats 1000000 in
theorem d5_readTexts (n : Nat) (M : zM) (w : Rw) (hR : cRaw w M) : zMet zi_X5_readTexts [.ref 2] (zLay n 15) M (zLay n 15) (zr none (fun M' => cI w M' ∧ ∀ p, 45 ≤ p → M' p = M p)) := by
  refine z_mr (zk_X5_readTexts _ _) rfl (Nat.le_of_ble_eq_true rfl) rfl (fun ret hret => ?_)
  obtain ⟨⟨⟨w1, w2, w3, w4, w5⟩, wb, wp, ws, wt⟩, ⟨a1, a2, a3⟩, ⟨b1, b2, b3⟩, ⟨t1, t2, t3, t4, t5, t6, t7, t8⟩, c7, c8, c9, c10, c11, c12⟩ := hR
  refine z_cx (c2_readFrom n 15 M (w.2 0) w1 a2) (fun M1 h1 => ?_)
  obtain ⟨q1, q2, q3⟩ := h1
  rw [a3] at q1 q3
  refine z_cx (c4_readElbows n _ (w.2 1) w2 (by show M1 5 2 = _; rw [q2 5 (by omega) (by omega)]; exact b2)) (fun M2 h2 => ?_)
  obtain ⟨r1, r2, r3⟩ := h2
  have e6 : (va_up M1 3 (upd (M1 3) 3 (pRes (M 4) (w.2 0)).1)) 6 = w.1 2 := by show M1 6 = _; rw [q2 6 (by omega) (by omega)]; exact b3
  rw [e6] at r1 r3
  refine z_ca (c5_changed n 15 _) ?_
  have k7 : M2 7 = upd (M 7) 2 (nI (eMn (w.1 2) (w.2 1))) := by
    rw [r1]
    show upd (M1 7) 2 _ = _
    rw [q2 7 (by omega) (by omega)]
  have k3 : M2 3 = upd (M 3) 3 (pRes (w.1 1) (w.2 0)).1 := by
    rw [r2 3 (by omega) (by omega)]
    show upd (M1 3) 3 _ = _
    rw [q2 3 (by omega) (by omega), a3]
  have kp : ∀ p, p ≠ 3 → p ≠ 7 → p ≠ 15 → M2 p = M1 p := fun p h1 h2 h3 => by rw [r2 p h2 h3, z_un h1]
  have k5 : M2 5 = M 5 := by rw [kp 5 (by omega) (by omega) (by omega)]; exact q2 5 (by omega) (by omega)
  have k2 : M2 2 = M 2 := by rw [kp 2 (by omega) (by omega) (by omega)]; exact q2 2 (by omega) (by omega)
  have kf : ∀ p, 16 ≤ p → M2 p = M p := fun p h1 => by rw [kp p (by omega) (by omega) (by omega)]; exact q2 p (by omega) (by omega)
  refine z_rq hret rfl ⟨⟨⟨⟨⟨w1, w2, w3, w4, w5⟩, wb, wp, ws, wt⟩, ⟨?_, ?_, ?_, ?_⟩, ⟨?_, ?_, ?_, ?_⟩, ⟨?_, ?_, ?_, ?_, ?_, ?_, ?_, ?_, ?_⟩, ?_, ?_, ?_, ⟨?_, ?_, ?_, ?_, ?_⟩, ⟨?_, ?_, ?_⟩, fun s hs => ?_, ?_, ?_, ?_⟩, Or.inl rfl, Or.inl rfl⟩, fun p hp => ?_⟩
  · show M2 3 1 = 55; rw [k3]; exact a1
  · show M2 3 2 = _; rw [k3]; exact a2
  · show M2 3 3 = _; rw [k3]; rfl
  · show M2 4 = _; rw [kp 4 (by omega) (by omega) (by omega), q2 4 (by omega) (by omega)]; exact a3
  · show M2 5 1 = 40; rw [k5]; exact b1
  · show M2 5 2 = _; rw [k5]; exact b2
  · show eFt (M1 6) (w.2 1) = _; rw [q2 6 (by omega) (by omega), b3]
  · show M2 6 = _; rw [kp 6 (by omega) (by omega) (by omega), q2 6 (by omega) (by omega)]; exact b3
  · show M2 7 2 = _; rw [k7]; rfl
  · show M2 7 3 = _; rw [k7]; exact t1
  · show M2 7 4 = _; rw [k7]; exact t2
  · show M2 7 5 = _; rw [k7]; exact t3
  · show M2 7 9 = _; rw [k7]; exact t4
  · show M2 7 10 = _; rw [k7]; exact t5
  · show M2 7 13 = _; rw [k7]; exact t6
  · show M2 7 14 = _; rw [k7]; exact t7
  · show M2 7 15 = _; rw [k7]; exact t8
  · show M2 8 6 = _; rw [kp 8 (by omega) (by omega) (by omega), q1]; rfl
  · intro k hk
    obtain ⟨x1, x2, x3, x4, x5, x6⟩ := q3 k hk
    refine ⟨?_, ?_, ?_, ?_, fun i hi => ?_, fun t ht => ?_⟩
    · show M2 9 k = _; rw [kp 9 (by omega) (by omega) (by omega)]; exact x1
    · show M2 10 k = _; rw [kp 10 (by omega) (by omega) (by omega)]; exact x2
    · show M2 11 k = _; rw [kp 11 (by omega) (by omega) (by omega)]; exact x3
    · show M2 12 k = _; rw [kp 12 (by omega) (by omega) (by omega)]; exact x4
    · show M2 13 _ = _; rw [kp 13 (by omega) (by omega) (by omega)]; exact x5 i hi
    · show M2 14 _ = _; rw [kp 14 (by omega) (by omega) (by omega)]; exact x6 t ht
  · exact r3
  · show M2 16 = _; rw [kf 16 (by omega)]; exact c7.1
  · show M2 17 = _; rw [kf 17 (by omega)]; exact c7.2.1
  · show M2 18 = _; rw [kf 18 (by omega)]; exact c7.2.2.1
  · show M2 19 = _; rw [kf 19 (by omega)]; exact c7.2.2.2.1
  · show M2 20 = _; rw [kf 20 (by omega)]; exact c7.2.2.2.2
  · show M2 38 = _; rw [kf 38 (by omega)]; exact c8.1
  · show M2 39 = _; rw [kf 39 (by omega)]; exact c8.2.1
  · show M2 40 = _; rw [kf 40 (by omega)]; exact c8.2.2
  · show M2 42 s = _ ∧ (_ → M2 43 s = _); rw [kf 42 (by omega), kf 43 (by omega)]; exact c9 s hs
  · show M2 44 = _; rw [kf 44 (by omega)]; exact c10
  · show M2 2 13 = _; rw [k2]; exact c11
  · show M2 2 15 = _; rw [k2]; exact c12
  · rw [z_un (by omega), z_un (by omega), z_un (by omega)]; exact kf p (by omega)
