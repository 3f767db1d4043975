theorem zfe_X5 (ad : Nat → Nat) : z_f ad (fun _ => 0) zfs_X5 = zfv_X5 := by
  simp [z_f, zfs_X5, zfv_X5, z_v, List.mapIdx_cons]
theorem zfe_X6 (ad : Nat → Nat) : z_f ad (fun _ => 0) zfs_X6 = zfv_X6 := by
  simp [z_f, zfs_X6, zfv_X6, z_v, List.mapIdx_cons]
