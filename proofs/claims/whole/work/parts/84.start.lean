/-! what class and reference hold behind their constructors -/
def w0 : Rw := (fun c => if c = 0 then (fun k => if k = 0 then 30 else if k = 1 then 60 else if k = 2 then 4 else 0) else fun _ => 0, fun _ => 0)
def m5 (M : zM) : zM := (z_fi (z_nw (z_nw (z_nw (z_nw (z_nw (z_nw (z_nw (z_nw (z_nw (z_nw (z_nw (z_nw (z_nw (z_nw (z_nw (z_nw (z_nw (z_nw (z_nw (z_nw (z_nw (z_nw (z_nw (z_nw (z_fi (z_st (z_st (z_nw (z_nw (z_st (z_nw (z_nw (z_nw (z_st (z_st (z_st (z_nw (z_nw (z_nw (z_nw (z_nw (z_nw (z_nw (z_nw (z_nw (z_st (z_st (z_nw (z_nw (z_st (z_st (z_nw (z_nw (z_nw M 2) 3) 4) 3 3 (-1)) 3 1 (if (55 : Int32) < 55 then 55 else 55)) 5) 6) 5 3 (-1)) 5 1 (if (55 : Int32) < 40 then 55 else 40)) 7) 8) 9) 10) 11) 12) 13) 14) 15) 7 3 30) 7 4 60) 7 5 4) 16) 17) 18) 7 10 (-1)) 19) 20) 7 14 (-1)) 7 15 (-1)) 15 3 40) 21) 22) 23) 24) 25) 26) 27) 28) 29) 30) 31) 32) 33) 34) 35) 36) 37) 38) 39) 40) 41) 42) 43) 44) 42 (-1) 4)
def m6 (M : zM) : zM := (z_st (z_st (z_st (z_nw (z_nw (z_nw (z_nw (z_nw (z_nw (z_nw (z_nw (z_nw (z_nw (z_nw (z_nw (z_nw (z_nw (z_nw (z_nw (z_nw (z_nw (z_nw (z_nw (z_nw (z_nw (z_nw (z_nw (z_nw (z_nw (z_nw (z_nw (z_nw (z_nw (z_nw M 45) 46) 47) 48) 49) 50) 51) 52) 53) 54) 55) 56) 57) 58) 59) 60) 61) 62) 63) 64) 65) 66) 67) 68) 69) 70) 71) 72) 73) 74) 75) 54 0 30) 54 1 60) 54 2 4)
theorem tN_0 : tN w0 = 0 := by
  unfold tN pRes
  rw [if_pos (show w0.2 0 = 0 from rfl)]
theorem wf_0 : wf w0 := ⟨⟨Nat.zero_le _, Nat.zero_le _, Nat.zero_le _, Nat.zero_le _, Nat.zero_le _⟩, fun i hi => absurd hi (Nat.not_lt_zero i), fun i hi => absurd hi (Nat.not_lt_zero i), fun i hi => absurd hi (Nat.not_lt_zero i), fun s _ => ⟨Or.inl rfl, fun h => absurd (show (0 : Int32) = 1 from h) (by decide)⟩⟩
theorem wb_0 : wb2 w0 := ⟨⟨30, by omega, rfl⟩, ⟨60, by omega, rfl⟩, ⟨4, by omega, rfl⟩, fun i hi => absurd hi (Nat.not_lt_zero i)⟩
theorem pR_0 (f : Nat → Int32) : (pRes f 0).1 = -1 := by
  unfold pRes
  rw [if_pos rfl]
theorem eE_0 (f : Nat → Int32) (h : Nat) : eEl f 0 h = 3 := by
  have e : eMn f 0 = 0 := rfl
  unfold eEl
  rw [e, if_neg (Nat.not_lt_zero h)]
set_option maxRecDepth 20000 in
set_option maxHeartbeats 2000000 in
theorem cI_0 (M : zM) : cI w0 (m6 (m5 M)) := by
  refine ⟨⟨wf_0, ⟨rfl, rfl, ?_, rfl⟩, ⟨rfl, rfl, rfl, rfl⟩, ⟨rfl, rfl, rfl, rfl, rfl, rfl, rfl, rfl, rfl⟩, ?_, ?_, ?_, ⟨rfl, rfl, rfl, rfl, rfl⟩, ⟨rfl, rfl, rfl⟩, ?_, rfl, rfl, rfl⟩, Or.inl rfl, Or.inl rfl⟩
  · exact (pR_0 _).symm
  · rw [tN_0]; rfl
  · intro k hk
    rw [tN_0] at hk
    exact absurd hk (Nat.not_lt_zero k)
  · intro h hh
    rw [show eEl (w0.1 2) (w0.2 1) h = 3 from eE_0 _ h]
    exact fa_fill_in (f := fun _ => (3 : Int32)) hh
  · intro s hs
    refine ⟨?_, fun h => absurd (show (0 : Int32) = 1 from h) (by decide)⟩
    rw [if_pos (show w0.1 11 s = 0 from rfl)]
    exact fa_fill_in (f := fun _ => (-1 : Int32)) hs
set_option maxRecDepth 20000 in
set_option maxHeartbeats 2000000 in
theorem rC_0 (M : zM) : rC w0 (m6 (m5 M)) := ⟨wf_0, ⟨rfl, rfl⟩, fun _ _ => rfl, fun _ _ => rfl, ⟨rfl, rfl, rfl⟩, ⟨rfl, rfl, rfl, rfl⟩, ⟨rfl, rfl, rfl, rfl, rfl⟩, ⟨rfl, rfl, rfl⟩, ⟨rfl, rfl, rfl, rfl⟩⟩
set_option maxRecDepth 20000 in
theorem m_01 (M : zM) : m6 (m5 M) 0 = M 0 ∧ m6 (m5 M) 1 = M 1 := ⟨rfl, rfl⟩
