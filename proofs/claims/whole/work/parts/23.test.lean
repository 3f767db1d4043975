theorem c5_within (v lo hi : Int32) (L : zL) (M : zM) (hL : 2 ≤ L.length) : zMet zi_X5_within [.int v, .int lo, .int hi] L M (some (.int (zb (lo ≤ v ∧ v ≤ hi)))) L M := by
  refine z_meth (zk_X5_within _ _) rfl (Nat.le_refl _) (Nat.le_refl _) hL rfl (z_go ?_)
  refine z_br (fun h1 => ?_) (fun h1 => ?_)
  · refine z_go ?_
    exact And.intro rfl (z_rt (z_vi (by simp [zb, h1])) rfl)
  · refine z_br (fun h2 => ?_) (fun h2 => ?_)
    · refine z_go ?_
      exact And.intro rfl (z_rt (z_vi (by simp [zb, h1, h2])) rfl)
    · refine z_go ?_
      exact And.intro rfl (z_rt (z_vi (by simp [zb, h1, h2])) rfl)
theorem c6_in (v lo hi : Int32) (L : zL) (M : zM) (hL : 2 ≤ L.length) : zMet zi_X6_in [.int v, .int lo, .int hi] L M (some (.int (zb (lo ≤ v ∧ v ≤ hi)))) L M := by
  refine z_meth (zk_X6_in _ _) rfl (Nat.le_refl _) (Nat.le_refl _) hL rfl (z_go ?_)
  refine z_br (fun h1 => ?_) (fun h1 => ?_)
  · refine z_go ?_
    exact And.intro rfl (z_rt (z_vi (by simp [zb, h1])) rfl)
  · refine z_br (fun h2 => ?_) (fun h2 => ?_)
    · refine z_go ?_
      exact And.intro rfl (z_rt (z_vi (by simp [zb, h1, h2])) rfl)
    · refine z_go ?_
      exact And.intro rfl (z_rt (z_vi (by simp [zb, h1, h2])) rfl)
theorem c5_needOf (x : Int32) (L : zL) (M : zM) (hL : 2 ≤ L.length) : zMet zi_X5_needOf [.int x] L M (some (.int (if x = 0 then 1 else if x = 1 then 2 else 4))) L M := by
  refine z_meth (zk_X5_needOf _ _) rfl (Nat.le_refl _) (Nat.le_refl _) hL rfl (z_go ?_)
  refine z_br (fun h1 => ?_) (fun h1 => ?_)
  · refine z_go ?_
    exact z_rt (z_vi (by simp [h1])) rfl
  · refine z_go ?_
    refine z_br (fun h2 => ?_) (fun h2 => ?_)
    · refine z_go ?_
      exact z_rt (z_vi (by simp [h1, h2])) rfl
    · refine z_go ?_
      exact z_rt (z_vi (by simp [h1, h2])) rfl
theorem c5_partOf (x y : Int32) (L : zL) (M : zM) (hL : 2 ≤ L.length) : zMet zi_X5_partOf [.int x, .int y] L M (some (.int (if x = 2147483647 then -1 else if y = 0 then x - x / 64 * 64 else x / 64))) L M := by
  refine z_meth (zk_X5_partOf _ _) rfl (Nat.le_refl _) (Nat.le_refl _) hL rfl (z_go ?_)
  refine z_br (fun h1 => ?_) (fun h1 => ?_)
  · exact z_rt (z_vi (by simp [h1])) rfl
  · refine z_go ?_
    refine z_br (fun h2 => ?_) (fun h2 => ?_)
    · refine And.intro (by decide) ?_
      refine z_go ?_
      exact z_rt (z_vi (by simp [h1, h2])) rfl
    · refine z_go ?_
      refine And.intro (by decide) ?_
      exact z_rt (z_vi (by simp [h1, h2])) rfl
theorem c6_isIn (x k : Int32) (L : zL) (M : zM) (hL : 2 ≤ L.length) : zMet zi_X6_isIn [.int x, .int k] L M (some (.int (zb ((x >>> (k &&& 31)) &&& 1 = 1)))) L M := by
  refine z_meth (zk_X6_isIn _ _) rfl (Nat.le_refl _) (Nat.le_refl _) hL rfl (z_go ?_)
  refine z_br (fun h1 => ?_) (fun h1 => ?_)
  · refine z_go ?_
    exact And.intro rfl (z_rt (z_vi (by simp [zb, h1])) rfl)
  · refine z_go ?_
    exact And.intro rfl (z_rt (z_vi (by simp [zb, h1])) rfl)
theorem c5_isHouse (n eb : Nat) (M : zM) (k : Int32) : zMet zi_X5_isHouse [.ref 2, .int k] (zLay n eb) M (some (.int (zb (0 ≤ k ∧ k ≤ M 8 6 - 1)))) (zLay n eb) M := by
  refine z_meth (zk_X5_isHouse _ _) rfl (Nat.le_refl _) (Nat.le_refl _) (Nat.le_of_ble_eq_true rfl) rfl (z_go ?_)
  refine z_ca (c5_within _ _ _ _ _ (Nat.le_of_ble_eq_true rfl)) ?_
  exact And.intro (zb_nar _) (z_rt rfl rfl)
