theorem c_within (v lo hi : Int32) (L : zL) (M : zM) (h2 : 2 ≤ L.length) : zMet zi_X5_within [.int v, .int lo, .int hi] L M (some (.int (if lo ≤ v ∧ v ≤ hi then 1 else 0))) L M := by
  refine z_meth (zk_X5_within _ _) rfl (Nat.le_refl _) (Nat.le_refl _) h2 rfl ?_
  refine z_go ?_
  refine z_br (fun h => z_go ?_) (fun h => z_br (fun h' => z_go ?_) (fun h' => z_go ?_))
  · sorry
  · sorry
  · sorry
theorem c_isHouse (n eb : Nat) (M : zM) (k : Int32) : zMet zi_X5_isHouse [.ref 2, .int k] (zLay n eb) M (some (.int (if 0 ≤ k ∧ k ≤ M 8 6 - 1 then 1 else 0))) (zLay n eb) M := by
  refine z_meth (zk_X5_isHouse _ _) rfl (Nat.le_refl _) (Nat.le_refl _) (Nat.le_of_ble_eq_true rfl) rfl ?_
  refine z_go ?_
  refine z_ca (c_within _ _ _ _ _ (Nat.le_of_ble_eq_true rfl)) ?_
  sorry
theorem c_leaking0 (n eb : Nat) (M : zM) (k : Int32) : zMet zi_X4_leaking [.ref 7, .int k] (zLay n eb) M (some (.int 0)) (zLay n eb) M := by
  refine z_meth (zk_X4_leaking _ _) rfl (Nat.le_refl _) (Nat.le_refl _) (Nat.le_of_ble_eq_true rfl) rfl ?_
  refine z_go ?_
  have hl : z_E zp_X4_leaking (fun v' L'' M'' => v' = some (.int 0) ∧ L'' = zLay n eb ∧ M'' = M) 4 [some (.ref 7), some (.int k), some (.int 0), some (.int 0), none] [] (zLay n eb) M := by
    refine z_go ?_
    refine z_br (fun h => z_go ?_) (fun h => ?_)
    · sorry
    · sorry
  exact hl
