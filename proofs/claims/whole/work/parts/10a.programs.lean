def zp_X0_init (kc ks : Nat) : List (Bool × Nat × zOp) := [
  (true, 0, o_al 0),
  (true, 1, o_oi 20),
  (true, 4, o_al 0),
  (true, 5, o_ic 40),
  (true, 7, o_na kc ks 0),
  (true, 9, o_pr 0 0),
  (true, 12, o_al 0),
  (true, 13, o_ic 40),
  (true, 15, o_na kc ks 0),
  (true, 17, o_pr 0 1),
  (true, 20, o_al 0),
  (true, 21, o_ic 40),
  (true, 23, o_na kc ks 0),
  (true, 25, o_pr 0 2),
  (true, 28, o_al 0),
  (true, 29, o_ic 40),
  (true, 31, o_na kc ks 0),
  (true, 33, o_pr 0 3),
  (true, 36, o_al 0),
  (true, 37, o_ic 320),
  (true, 40, o_na kc ks 0),
  (true, 42, o_pr 0 4),
  (true, 45, o_al 0),
  (true, 46, o_ic 8),
  (true, 48, o_na kc ks 0),
  (true, 50, o_pr 0 5),
  (true, 53, o_vr)]
set_option maxRecDepth 100000 in
set_option maxHeartbeats 4000000 in
theorem zk_X0_init (kc ks : Nat) : z_OK (zS RX0 cX0_init 1 "<init>" none 1 20 kc ks) (zp_X0_init kc ks) := by
  unfold zp_X0_init
  refine And.intro (s_aload_n dX0_init_0 rfl) ?_
  refine And.intro (s_oinit zl_257 zl_111 zl_112 (by decide) dX0_init_1) ?_
  refine And.intro (s_aload_n dX0_init_4 rfl) ?_
  refine And.intro (s_bipush dX0_init_5 (by decide)) ?_
  refine And.intro (s_newa (at0 := .int) (by decide) rfl zl_141 dX0_init_7) ?_
  refine And.intro (s_putRF (ty := tyX0 0) (C := RX0) (T := TX0) (N := 6) rfl zin_X0 (by decide) tyX0 tyX0_ok nmX0 zl_258 rfl rfl rfl (tyX0_ok 0 (by decide)) (fun _ => ⟨rfl, rfl⟩) dX0_init_9) ?_
  refine And.intro (s_aload_n dX0_init_12 rfl) ?_
  refine And.intro (s_bipush dX0_init_13 (by decide)) ?_
  refine And.intro (s_newa (at0 := .int) (by decide) rfl zl_141 dX0_init_15) ?_
  refine And.intro (s_putRF (ty := tyX0 1) (C := RX0) (T := TX0) (N := 6) rfl zin_X0 (by decide) tyX0 tyX0_ok nmX0 zl_260 rfl rfl rfl (tyX0_ok 1 (by decide)) (fun _ => ⟨rfl, rfl⟩) dX0_init_17) ?_
  refine And.intro (s_aload_n dX0_init_20 rfl) ?_
  refine And.intro (s_bipush dX0_init_21 (by decide)) ?_
  refine And.intro (s_newa (at0 := .int) (by decide) rfl zl_141 dX0_init_23) ?_
  refine And.intro (s_putRF (ty := tyX0 2) (C := RX0) (T := TX0) (N := 6) rfl zin_X0 (by decide) tyX0 tyX0_ok nmX0 zl_262 rfl rfl rfl (tyX0_ok 2 (by decide)) (fun _ => ⟨rfl, rfl⟩) dX0_init_25) ?_
  refine And.intro (s_aload_n dX0_init_28 rfl) ?_
  refine And.intro (s_bipush dX0_init_29 (by decide)) ?_
  refine And.intro (s_newa (at0 := .int) (by decide) rfl zl_141 dX0_init_31) ?_
  refine And.intro (s_putRF (ty := tyX0 3) (C := RX0) (T := TX0) (N := 6) rfl zin_X0 (by decide) tyX0 tyX0_ok nmX0 zl_264 rfl rfl rfl (tyX0_ok 3 (by decide)) (fun _ => ⟨rfl, rfl⟩) dX0_init_33) ?_
  refine And.intro (s_aload_n dX0_init_36 rfl) ?_
  refine And.intro (s_sipush dX0_init_37 (by decide)) ?_
  refine And.intro (s_newa (at0 := .int) (by decide) rfl zl_141 dX0_init_40) ?_
  refine And.intro (s_putRF (ty := tyX0 4) (C := RX0) (T := TX0) (N := 6) rfl zin_X0 (by decide) tyX0 tyX0_ok nmX0 zl_266 rfl rfl rfl (tyX0_ok 4 (by decide)) (fun _ => ⟨rfl, rfl⟩) dX0_init_42) ?_
  refine And.intro (s_aload_n dX0_init_45 rfl) ?_
  refine And.intro (s_bipush dX0_init_46 (by decide)) ?_
  refine And.intro (s_newa (at0 := .int) (by decide) rfl zl_141 dX0_init_48) ?_
  refine And.intro (s_putRF (ty := tyX0 5) (C := RX0) (T := TX0) (N := 6) rfl zin_X0 (by decide) tyX0 tyX0_ok nmX0 zl_267 rfl rfl rfl (tyX0_ok 5 (by decide)) (fun _ => ⟨rfl, rfl⟩) dX0_init_50) ?_
  refine And.intro (s_vreturn rfl dX0_init_53) ?_
  exact trivial
def zp_X1_init (kc ks : Nat) : List (Bool × Nat × zOp) := [
  (true, 0, o_al 0),
  (true, 1, o_oi 20),
  (true, 4, o_al 0),
  (true, 5, o_ic 4),
  (true, 6, o_na kc ks 0),
  (true, 8, o_pr 1 0),
  (true, 11, o_al 0),
  (true, 12, o_ic 4),
  (true, 13, o_na kc ks 0),
  (true, 15, o_pr 1 1),
  (true, 18, o_al 0),
  (true, 19, o_ic 240),
  (true, 22, o_na kc ks 0),
  (true, 24, o_pr 1 2),
  (true, 27, o_ic 0),
  (true, 28, o_is 1),
  (false, 29, o_mark 29 []),
  (true, 29, o_il 1),
  (true, 30, o_ic 4),
  (true, 31, o_cmp (fun x y => y ≤ x) 47),
  (true, 34, o_al 0),
  (true, 35, o_gf 1 0),
  (true, 38, o_il 1),
  (true, 39, o_ic (-1)),
  (true, 40, o_iw),
  (true, 41, o_inc 1 1),
  (true, 44, o_gb 29 []),
  (true, 47, o_vr)]
set_option maxRecDepth 100000 in
set_option maxHeartbeats 4000000 in
theorem zk_X1_init (kc ks : Nat) : z_OK (zS RX1 cX1_init 2 "<init>" none 1 20 kc ks) (zp_X1_init kc ks) := by
  unfold zp_X1_init
  refine And.intro (s_aload_n dX1_init_0 rfl) ?_
  refine And.intro (s_oinit zl_286 zl_111 zl_112 (by decide) dX1_init_1) ?_
  refine And.intro (s_aload_n dX1_init_4 rfl) ?_
  refine And.intro (s_iconst dX1_init_5 (by decide)) ?_
  refine And.intro (s_newa (at0 := .int) (by decide) rfl zl_141 dX1_init_6) ?_
  refine And.intro (s_putRF (ty := tyX1 0) (C := RX1) (T := TX1) (N := 3) rfl zin_X1 (by decide) tyX1 tyX1_ok nmX1 zl_287 rfl rfl rfl (tyX1_ok 0 (by decide)) (fun _ => ⟨rfl, rfl⟩) dX1_init_8) ?_
  refine And.intro (s_aload_n dX1_init_11 rfl) ?_
  refine And.intro (s_iconst dX1_init_12 (by decide)) ?_
  refine And.intro (s_newa (at0 := .int) (by decide) rfl zl_141 dX1_init_13) ?_
  refine And.intro (s_putRF (ty := tyX1 1) (C := RX1) (T := TX1) (N := 3) rfl zin_X1 (by decide) tyX1 tyX1_ok nmX1 zl_289 rfl rfl rfl (tyX1_ok 1 (by decide)) (fun _ => ⟨rfl, rfl⟩) dX1_init_15) ?_
  refine And.intro (s_aload_n dX1_init_18 rfl) ?_
  refine And.intro (s_sipush dX1_init_19 (by decide)) ?_
  refine And.intro (s_newa (at0 := .int) (by decide) rfl zl_141 dX1_init_22) ?_
  refine And.intro (s_putRF (ty := tyX1 2) (C := RX1) (T := TX1) (N := 3) rfl zin_X1 (by decide) tyX1 tyX1_ok nmX1 zl_291 rfl rfl rfl (tyX1_ok 2 (by decide)) (fun _ => ⟨rfl, rfl⟩) dX1_init_24) ?_
  refine And.intro (s_iconst dX1_init_27 (by decide)) ?_
  refine And.intro (s_istore_n dX1_init_28 rfl) ?_
  refine And.intro (s_mark) ?_
  refine And.intro (s_iload_n dX1_init_29 rfl) ?_
  refine And.intro (s_iconst dX1_init_30 (by decide)) ?_
  refine And.intro (s_icmp_ge dX1_init_31 (by decide)) ?_
  refine And.intro (s_aload_n dX1_init_34 rfl) ?_
  refine And.intro (s_getf (C := RX1) (T := TX1) (N := 3) rfl zin_X1 (by decide) zl_287 dX1_init_35) ?_
  refine And.intro (s_iload_n dX1_init_38 rfl) ?_
  refine And.intro (s_iconst dX1_init_39 (by decide)) ?_
  refine And.intro (s_iastore dX1_init_40) ?_
  refine And.intro (s_iinc dX1_init_41 (by decide)) ?_
  refine And.intro (s_gotob dX1_init_44 (by decide)) ?_
  refine And.intro (s_vreturn rfl dX1_init_47) ?_
  exact trivial
def zp_X3_init (kc ks : Nat) : List (Bool × Nat × zOp) := [
  (true, 0, o_al 0),
  (true, 1, o_oi 21),
  (true, 4, o_al 0),
  (true, 5, o_ic 55),
  (true, 7, o_na kc ks 0),
  (true, 9, o_pr 3 0),
  (true, 12, o_al 0),
  (true, 13, o_ic (-1)),
  (true, 14, o_pi 3 3),
  (true, 17, o_al 0),
  (true, 18, o_il 1),
  (true, 19, o_ic 55),
  (true, 21, o_mi 21 (fun x y => if y < x then y else x)),
  (true, 24, o_pi 3 1),
  (true, 27, o_vr)]
set_option maxRecDepth 100000 in
set_option maxHeartbeats 4000000 in
theorem zk_X3_init (kc ks : Nat) : z_OK (zS RX3 cX3_init 2 "<init>" none 1 21 kc ks) (zp_X3_init kc ks) := by
  unfold zp_X3_init
  refine And.intro (s_aload_n dX3_init_0 rfl) ?_
  refine And.intro (s_oinit zl_118 zl_111 zl_112 (by decide) dX3_init_1) ?_
  refine And.intro (s_aload_n dX3_init_4 rfl) ?_
  refine And.intro (s_bipush dX3_init_5 (by decide)) ?_
  refine And.intro (s_newa (at0 := .int) (by decide) rfl zl_141 dX3_init_7) ?_
  refine And.intro (s_putRF (ty := tyX3 0) (C := RX3) (T := TX3) (N := 4) rfl zin_X3 (by decide) tyX3 tyX3_ok nmX3 zl_122 rfl rfl rfl (tyX3_ok 0 (by decide)) (fun _ => ⟨rfl, rfl⟩) dX3_init_9) ?_
  refine And.intro (s_aload_n dX3_init_12 rfl) ?_
  refine And.intro (s_iconst dX3_init_13 (by decide)) ?_
  refine And.intro (s_putI (C := RX3) (T := TX3) (N := 4) rfl zin_X3 (by decide) tyX3 tyX3_ok nmX3 zl_130 rfl (by decide +kernel) dX3_init_14) ?_
  refine And.intro (s_aload_n dX3_init_17 rfl) ?_
  refine And.intro (s_iload_n dX3_init_18 rfl) ?_
  refine And.intro (s_bipush dX3_init_19 (by decide)) ?_
  refine And.intro (s_mmin zl_119 zl_120 zl_96 zl_121 (by decide) dX3_init_21) ?_
  refine And.intro (s_putIF (C := RX3) (T := TX3) (N := 4) rfl zin_X3 (by decide) tyX3 tyX3_ok nmX3 zl_125 rfl rfl rfl (by decide +kernel) dX3_init_24) ?_
  refine And.intro (s_vreturn rfl dX3_init_27) ?_
  exact trivial
def zp_X2_init (kc ks : Nat) : List (Bool × Nat × zOp) := [
  (true, 0, o_al 0),
  (true, 1, o_oi 20),
  (true, 4, o_al 0),
  (true, 5, o_ic 8),
  (true, 7, o_na kc ks 0),
  (true, 9, o_pr 2 0),
  (true, 12, o_al 0),
  (true, 13, o_ic 8),
  (true, 15, o_na kc ks 0),
  (true, 17, o_pr 2 1),
  (true, 20, o_al 0),
  (true, 21, o_ic 8),
  (true, 23, o_na kc ks 0),
  (true, 25, o_pr 2 2),
  (true, 28, o_al 0),
  (true, 29, o_ic 8),
  (true, 31, o_na kc ks 0),
  (true, 33, o_pr 2 3),
  (true, 36, o_al 0),
  (true, 37, o_ic 24),
  (true, 39, o_na kc ks 0),
  (true, 41, o_pr 2 4),
  (true, 44, o_al 0),
  (true, 45, o_ic 320),
  (true, 48, o_na kc ks 0),
  (true, 50, o_pr 2 5),
  (true, 53, o_vr)]
set_option maxRecDepth 100000 in
set_option maxHeartbeats 4000000 in
theorem zk_X2_init (kc ks : Nat) : z_OK (zS RX2 cX2_init 1 "<init>" none 1 20 kc ks) (zp_X2_init kc ks) := by
  unfold zp_X2_init
  refine And.intro (s_aload_n dX2_init_0 rfl) ?_
  refine And.intro (s_oinit zl_153 zl_111 zl_112 (by decide) dX2_init_1) ?_
  refine And.intro (s_aload_n dX2_init_4 rfl) ?_
  refine And.intro (s_bipush dX2_init_5 (by decide)) ?_
  refine And.intro (s_newa (at0 := .int) (by decide) rfl zl_141 dX2_init_7) ?_
  refine And.intro (s_putRF (ty := tyX2 0) (C := RX2) (T := TX2) (N := 7) rfl zin_X2 (by decide) tyX2 tyX2_ok nmX2 zl_154 rfl rfl rfl (tyX2_ok 0 (by decide)) (fun _ => ⟨rfl, rfl⟩) dX2_init_9) ?_
  refine And.intro (s_aload_n dX2_init_12 rfl) ?_
  refine And.intro (s_bipush dX2_init_13 (by decide)) ?_
  refine And.intro (s_newa (at0 := .int) (by decide) rfl zl_141 dX2_init_15) ?_
  refine And.intro (s_putRF (ty := tyX2 1) (C := RX2) (T := TX2) (N := 7) rfl zin_X2 (by decide) tyX2 tyX2_ok nmX2 zl_157 rfl rfl rfl (tyX2_ok 1 (by decide)) (fun _ => ⟨rfl, rfl⟩) dX2_init_17) ?_
  refine And.intro (s_aload_n dX2_init_20 rfl) ?_
  refine And.intro (s_bipush dX2_init_21 (by decide)) ?_
  refine And.intro (s_newa (at0 := .int) (by decide) rfl zl_141 dX2_init_23) ?_
  refine And.intro (s_putRF (ty := tyX2 2) (C := RX2) (T := TX2) (N := 7) rfl zin_X2 (by decide) tyX2 tyX2_ok nmX2 zl_160 rfl rfl rfl (tyX2_ok 2 (by decide)) (fun _ => ⟨rfl, rfl⟩) dX2_init_25) ?_
  refine And.intro (s_aload_n dX2_init_28 rfl) ?_
  refine And.intro (s_bipush dX2_init_29 (by decide)) ?_
  refine And.intro (s_newa (at0 := .int) (by decide) rfl zl_141 dX2_init_31) ?_
  refine And.intro (s_putRF (ty := tyX2 3) (C := RX2) (T := TX2) (N := 7) rfl zin_X2 (by decide) tyX2 tyX2_ok nmX2 zl_163 rfl rfl rfl (tyX2_ok 3 (by decide)) (fun _ => ⟨rfl, rfl⟩) dX2_init_33) ?_
  refine And.intro (s_aload_n dX2_init_36 rfl) ?_
  refine And.intro (s_bipush dX2_init_37 (by decide)) ?_
  refine And.intro (s_newa (at0 := .int) (by decide) rfl zl_141 dX2_init_39) ?_
  refine And.intro (s_putRF (ty := tyX2 4) (C := RX2) (T := TX2) (N := 7) rfl zin_X2 (by decide) tyX2 tyX2_ok nmX2 zl_165 rfl rfl rfl (tyX2_ok 4 (by decide)) (fun _ => ⟨rfl, rfl⟩) dX2_init_41) ?_
  refine And.intro (s_aload_n dX2_init_44 rfl) ?_
  refine And.intro (s_sipush dX2_init_45 (by decide)) ?_
  refine And.intro (s_newa (at0 := .int) (by decide) rfl zl_141 dX2_init_48) ?_
  refine And.intro (s_putRF (ty := tyX2 5) (C := RX2) (T := TX2) (N := 7) rfl zin_X2 (by decide) tyX2 tyX2_ok nmX2 zl_166 rfl rfl rfl (tyX2_ok 5 (by decide)) (fun _ => ⟨rfl, rfl⟩) dX2_init_50) ?_
  refine And.intro (s_vreturn rfl dX2_init_53) ?_
  exact trivial
def zp_X4_init (kc ks : Nat) : List (Bool × Nat × zOp) := [
  (true, 0, o_al 0),
  (true, 1, o_oi 40),
  (true, 4, o_al 0),
  (true, 5, o_new kc ks 2 zfs_X2),
  (true, 8, o_dup),
  (true, 9, o_ci kc ks zi_X2_init 0),
  (true, 12, o_pr 4 0),
  (true, 15, o_al 0),
  (true, 16, o_ic 40),
  (true, 18, o_na kc ks 0),
  (true, 20, o_pr 4 1),
  (true, 23, o_al 0),
  (true, 24, o_ic 30),
  (true, 26, o_pi 4 3),
  (true, 29, o_al 0),
  (true, 30, o_ic 60),
  (true, 32, o_pi 4 4),
  (true, 35, o_al 0),
  (true, 36, o_ic 4),
  (true, 37, o_pi 4 5),
  (true, 40, o_al 0),
  (true, 41, o_ic 6),
  (true, 43, o_na kc ks 0),
  (true, 45, o_pr 4 6),
  (true, 48, o_al 0),
  (true, 49, o_ic 6),
  (true, 51, o_na kc ks 0),
  (true, 53, o_pr 4 7),
  (true, 56, o_al 0),
  (true, 57, o_ic 6),
  (true, 59, o_na kc ks 0),
  (true, 61, o_pr 4 8),
  (true, 64, o_al 0),
  (true, 65, o_ic (-1)),
  (true, 66, o_pi 4 10),
  (true, 69, o_al 0),
  (true, 70, o_ic 6),
  (true, 72, o_na kc ks 0),
  (true, 74, o_pr 4 11),
  (true, 77, o_al 0),
  (true, 78, o_ic 6),
  (true, 80, o_na kc ks 0),
  (true, 82, o_pr 4 12),
  (true, 85, o_al 0),
  (true, 86, o_ic (-1)),
  (true, 87, o_pi 4 14),
  (true, 90, o_al 0),
  (true, 91, o_ic (-1)),
  (true, 92, o_pi 4 15),
  (true, 95, o_ic 0),
  (true, 96, o_is 1),
  (false, 97, o_mark 97 []),
  (true, 97, o_il 1),
  (true, 98, o_ic 40),
  (true, 100, o_cmp (fun x y => y ≤ x) 116),
  (true, 103, o_al 0),
  (true, 104, o_gf 4 1),
  (true, 107, o_il 1),
  (true, 108, o_ic 3),
  (true, 109, o_iw),
  (true, 110, o_inc 1 1),
  (true, 113, o_gb 97 []),
  (true, 116, o_vr)]
set_option maxRecDepth 100000 in
set_option maxHeartbeats 4000000 in
theorem zk_X4_init (kc ks : Nat) : z_OK (zS RX4 cX4_init 2 "<init>" none 2 40 kc ks) (zp_X4_init kc ks) := by
  unfold zp_X4_init
  refine And.intro (s_aload_n dX4_init_0 rfl) ?_
  refine And.intro (s_oinit zl_147 zl_111 zl_112 (by decide) dX4_init_1) ?_
  refine And.intro (s_aload_n dX4_init_4 rfl) ?_
  refine And.intro (s_new (C := RX2) (T := TX2) (N := 7) rfl zin_X2 tyX2 tyX2_ok zl_148 zl_149 zl_98 (fv := zfv_X2) (fun _ => rfl) (by decide +kernel) rfl dX4_init_5) ?_
  refine And.intro (s_dup dX4_init_8) ?_
  refine And.intro (s_callIN zf_X2_init zl_151 rfl rfl zl_150 ⟨rfl, rfl⟩ dX4_init_9) ?_
  refine And.intro (s_putRF (ty := tyX4 0) (C := RX4) (T := TX4) (N := 16) rfl zin_X4 (by decide) tyX4 tyX4_ok nmX4 zl_187 rfl rfl rfl (tyX4_ok 0 (by decide)) (fun _ => ⟨rfl, rfl⟩) dX4_init_12) ?_
  refine And.intro (s_aload_n dX4_init_15 rfl) ?_
  refine And.intro (s_bipush dX4_init_16 (by decide)) ?_
  refine And.intro (s_newa (at0 := .int) (by decide) rfl zl_141 dX4_init_18) ?_
  refine And.intro (s_putR (ty := tyX4 1) (C := RX4) (T := TX4) (N := 16) rfl zin_X4 (by decide) tyX4 tyX4_ok nmX4 zl_190 rfl (tyX4_ok 1 (by decide)) (fun _ => ⟨rfl, rfl⟩) dX4_init_20) ?_
  refine And.intro (s_aload_n dX4_init_23 rfl) ?_
  refine And.intro (s_bipush dX4_init_24 (by decide)) ?_
  refine And.intro (s_putI (C := RX4) (T := TX4) (N := 16) rfl zin_X4 (by decide) tyX4 tyX4_ok nmX4 zl_195 rfl (by decide +kernel) dX4_init_26) ?_
  refine And.intro (s_aload_n dX4_init_29 rfl) ?_
  refine And.intro (s_bipush dX4_init_30 (by decide)) ?_
  refine And.intro (s_putI (C := RX4) (T := TX4) (N := 16) rfl zin_X4 (by decide) tyX4 tyX4_ok nmX4 zl_198 rfl (by decide +kernel) dX4_init_32) ?_
  refine And.intro (s_aload_n dX4_init_35 rfl) ?_
  refine And.intro (s_iconst dX4_init_36 (by decide)) ?_
  refine And.intro (s_putI (C := RX4) (T := TX4) (N := 16) rfl zin_X4 (by decide) tyX4 tyX4_ok nmX4 zl_201 rfl (by decide +kernel) dX4_init_37) ?_
  refine And.intro (s_aload_n dX4_init_40 rfl) ?_
  refine And.intro (s_bipush dX4_init_41 (by decide)) ?_
  refine And.intro (s_newa (at0 := .int) (by decide) rfl zl_141 dX4_init_43) ?_
  refine And.intro (s_putRF (ty := tyX4 6) (C := RX4) (T := TX4) (N := 16) rfl zin_X4 (by decide) tyX4 tyX4_ok nmX4 zl_204 rfl rfl rfl (tyX4_ok 6 (by decide)) (fun _ => ⟨rfl, rfl⟩) dX4_init_45) ?_
  refine And.intro (s_aload_n dX4_init_48 rfl) ?_
  refine And.intro (s_bipush dX4_init_49 (by decide)) ?_
  refine And.intro (s_newa (at0 := .int) (by decide) rfl zl_141 dX4_init_51) ?_
  refine And.intro (s_putRF (ty := tyX4 7) (C := RX4) (T := TX4) (N := 16) rfl zin_X4 (by decide) tyX4 tyX4_ok nmX4 zl_205 rfl rfl rfl (tyX4_ok 7 (by decide)) (fun _ => ⟨rfl, rfl⟩) dX4_init_53) ?_
  refine And.intro (s_aload_n dX4_init_56 rfl) ?_
  refine And.intro (s_bipush dX4_init_57 (by decide)) ?_
  refine And.intro (s_newa (at0 := .int) (by decide) rfl zl_141 dX4_init_59) ?_
  refine And.intro (s_putRF (ty := tyX4 8) (C := RX4) (T := TX4) (N := 16) rfl zin_X4 (by decide) tyX4 tyX4_ok nmX4 zl_206 rfl rfl rfl (tyX4_ok 8 (by decide)) (fun _ => ⟨rfl, rfl⟩) dX4_init_61) ?_
  refine And.intro (s_aload_n dX4_init_64 rfl) ?_
  refine And.intro (s_iconst dX4_init_65 (by decide)) ?_
  refine And.intro (s_putI (C := RX4) (T := TX4) (N := 16) rfl zin_X4 (by decide) tyX4 tyX4_ok nmX4 zl_209 rfl (by decide +kernel) dX4_init_66) ?_
  refine And.intro (s_aload_n dX4_init_69 rfl) ?_
  refine And.intro (s_bipush dX4_init_70 (by decide)) ?_
  refine And.intro (s_newa (at0 := .int) (by decide) rfl zl_141 dX4_init_72) ?_
  refine And.intro (s_putRF (ty := tyX4 11) (C := RX4) (T := TX4) (N := 16) rfl zin_X4 (by decide) tyX4 tyX4_ok nmX4 zl_211 rfl rfl rfl (tyX4_ok 11 (by decide)) (fun _ => ⟨rfl, rfl⟩) dX4_init_74) ?_
  refine And.intro (s_aload_n dX4_init_77 rfl) ?_
  refine And.intro (s_bipush dX4_init_78 (by decide)) ?_
  refine And.intro (s_newa (at0 := .int) (by decide) rfl zl_141 dX4_init_80) ?_
  refine And.intro (s_putRF (ty := tyX4 12) (C := RX4) (T := TX4) (N := 16) rfl zin_X4 (by decide) tyX4 tyX4_ok nmX4 zl_212 rfl rfl rfl (tyX4_ok 12 (by decide)) (fun _ => ⟨rfl, rfl⟩) dX4_init_82) ?_
  refine And.intro (s_aload_n dX4_init_85 rfl) ?_
  refine And.intro (s_iconst dX4_init_86 (by decide)) ?_
  refine And.intro (s_putI (C := RX4) (T := TX4) (N := 16) rfl zin_X4 (by decide) tyX4 tyX4_ok nmX4 zl_215 rfl (by decide +kernel) dX4_init_87) ?_
  refine And.intro (s_aload_n dX4_init_90 rfl) ?_
  refine And.intro (s_iconst dX4_init_91 (by decide)) ?_
  refine And.intro (s_putI (C := RX4) (T := TX4) (N := 16) rfl zin_X4 (by decide) tyX4 tyX4_ok nmX4 zl_217 rfl (by decide +kernel) dX4_init_92) ?_
  refine And.intro (s_iconst dX4_init_95 (by decide)) ?_
  refine And.intro (s_istore_n dX4_init_96 rfl) ?_
  refine And.intro (s_mark) ?_
  refine And.intro (s_iload_n dX4_init_97 rfl) ?_
  refine And.intro (s_bipush dX4_init_98 (by decide)) ?_
  refine And.intro (s_icmp_ge dX4_init_100 (by decide)) ?_
  refine And.intro (s_aload_n dX4_init_103 rfl) ?_
  refine And.intro (s_getf (C := RX4) (T := TX4) (N := 16) rfl zin_X4 (by decide) zl_190 dX4_init_104) ?_
  refine And.intro (s_iload_n dX4_init_107 rfl) ?_
  refine And.intro (s_iconst dX4_init_108 (by decide)) ?_
  refine And.intro (s_iastore dX4_init_109) ?_
  refine And.intro (s_iinc dX4_init_110 (by decide)) ?_
  refine And.intro (s_gotob dX4_init_113 (by decide)) ?_
  refine And.intro (s_vreturn rfl dX4_init_116) ?_
  exact trivial
def zp_X0_gotBy : List (Bool × Nat × zOp) := [
  (true, 0, o_il 1),
  (true, 1, o_ic 0),
  (true, 2, o_ic 39),
  (true, 4, o_cs zi_X5_within 3),
  (true, 7, o_if (fun x => x = 0) 34),
  (true, 10, o_il 2),
  (true, 11, o_ic 0),
  (true, 12, o_ic 7),
  (true, 14, o_cs zi_X5_within 3),
  (true, 17, o_if (fun x => x = 0) 34),
  (true, 20, o_al 0),
  (true, 21, o_gf 0 4),
  (true, 24, o_il 1),
  (true, 25, o_ic 8),
  (true, 27, o_ii (fun x y => x * y)),
  (true, 28, o_il 2),
  (true, 29, o_ii (fun x y => x + y)),
  (true, 30, o_ia),
  (true, 31, o_go 35),
  (true, 34, o_ic (-1)),
  (true, 35, o_ir)]
set_option maxRecDepth 100000 in
set_option maxHeartbeats 4000000 in
theorem zk_X0_gotBy (kc ks : Nat) : z_OK (zS RX0 cX0_gotBy 3 "gotBy" (some .int) 1 22 kc ks) zp_X0_gotBy := by
  unfold zp_X0_gotBy
  refine And.intro (s_iload_n dX0_gotBy_0 rfl) ?_
  refine And.intro (s_iconst dX0_gotBy_1 (by decide)) ?_
  refine And.intro (s_bipush dX0_gotBy_2 (by decide)) ?_
  refine And.intro (s_callSN zf_X5_within zl_353 zl_520 ⟨rfl, rfl⟩ dX0_gotBy_4) ?_
  refine And.intro (s_if_eq dX0_gotBy_7 (by decide)) ?_
  refine And.intro (s_iload_n dX0_gotBy_10 rfl) ?_
  refine And.intro (s_iconst dX0_gotBy_11 (by decide)) ?_
  refine And.intro (s_bipush dX0_gotBy_12 (by decide)) ?_
  refine And.intro (s_callSN zf_X5_within zl_353 zl_520 ⟨rfl, rfl⟩ dX0_gotBy_14) ?_
  refine And.intro (s_if_eq dX0_gotBy_17 (by decide)) ?_
  refine And.intro (s_aload_n dX0_gotBy_20 rfl) ?_
  refine And.intro (s_getf (C := RX0) (T := TX0) (N := 6) rfl zin_X0 (by decide) zl_266 dX0_gotBy_21) ?_
  refine And.intro (s_iload_n dX0_gotBy_24 rfl) ?_
  refine And.intro (s_bipush dX0_gotBy_25 (by decide)) ?_
  refine And.intro (s_imul dX0_gotBy_27) ?_
  refine And.intro (s_iload_n dX0_gotBy_28 rfl) ?_
  refine And.intro (s_iadd dX0_gotBy_29) ?_
  refine And.intro (s_iaload dX0_gotBy_30) ?_
  refine And.intro (s_goto dX0_gotBy_31 (by decide)) ?_
  refine And.intro (s_iconst dX0_gotBy_34 (by decide)) ?_
  refine And.intro (s_ireturn rfl (fun _ => rfl) dX0_gotBy_35) ?_
  exact trivial
def zp_X0_draw : List (Bool × Nat × zOp) := [
  (true, 0, o_il 3),
  (true, 1, o_is 4),
  (true, 3, o_il 2),
  (true, 4, o_is 5),
  (true, 6, o_ic 0),
  (true, 7, o_is 6),
  (false, 9, o_mark 9 [3]),
  (true, 9, o_il 6),
  (true, 11, o_ic 8),
  (true, 13, o_cmp (fun x y => y ≤ x) 66),
  (true, 16, o_il 5),
  (true, 18, o_if (fun x => x < 0) 66),
  (true, 21, o_il 5),
  (true, 23, o_ic 8),
  (true, 25, o_cmp (fun x y => y ≤ x) 66),
  (true, 28, o_al 0),
  (true, 29, o_gf 0 5),
  (true, 32, o_il 5),
  (true, 34, o_ia),
  (true, 35, o_il 4),
  (true, 37, o_cmp (fun x y => y ≤ x) 50),
  (true, 40, o_al 0),
  (true, 41, o_gf 0 5),
  (true, 44, o_il 5),
  (true, 46, o_ia),
  (true, 47, o_go 52),
  (true, 50, o_il 4),
  (true, 52, o_is 4),
  (true, 54, o_al 1),
  (true, 55, o_il 5),
  (true, 57, o_ia),
  (true, 58, o_is 5),
  (true, 60, o_inc 6 1),
  (true, 63, o_gb 9 [3]),
  (true, 66, o_il 2),
  (true, 67, o_is 5),
  (true, 69, o_ic 0),
  (true, 70, o_is 6),
  (false, 72, o_mark 72 [2, 3]),
  (true, 72, o_il 6),
  (true, 74, o_ic 8),
  (true, 76, o_cmp (fun x y => y ≤ x) 115),
  (true, 79, o_il 5),
  (true, 81, o_if (fun x => x < 0) 115),
  (true, 84, o_il 5),
  (true, 86, o_ic 8),
  (true, 88, o_cmp (fun x y => y ≤ x) 115),
  (true, 91, o_al 0),
  (true, 92, o_gf 0 5),
  (true, 95, o_il 5),
  (true, 97, o_dup2),
  (true, 98, o_ia),
  (true, 99, o_il 4),
  (true, 101, o_ii (fun x y => x - y)),
  (true, 102, o_iw),
  (true, 103, o_al 1),
  (true, 104, o_il 5),
  (true, 106, o_ia),
  (true, 107, o_is 5),
  (true, 109, o_inc 6 1),
  (true, 112, o_gb 72 [2, 3]),
  (true, 115, o_il 4),
  (true, 117, o_ir)]
set_option maxRecDepth 100000 in
set_option maxHeartbeats 4000000 in
theorem zk_X0_draw (kc ks : Nat) : z_OK (zS RX0 cX0_draw 7 "draw" (some .int) 0 0 kc ks) zp_X0_draw := by
  unfold zp_X0_draw
  refine And.intro (s_iload_n dX0_draw_0 rfl) ?_
  refine And.intro (s_istore dX0_draw_1) ?_
  refine And.intro (s_iload_n dX0_draw_3 rfl) ?_
  refine And.intro (s_istore dX0_draw_4) ?_
  refine And.intro (s_iconst dX0_draw_6 (by decide)) ?_
  refine And.intro (s_istore dX0_draw_7) ?_
  refine And.intro (s_mark) ?_
  refine And.intro (s_iload dX0_draw_9) ?_
  refine And.intro (s_bipush dX0_draw_11 (by decide)) ?_
  refine And.intro (s_icmp_ge dX0_draw_13 (by decide)) ?_
  refine And.intro (s_iload dX0_draw_16) ?_
  refine And.intro (s_if_lt dX0_draw_18 (by decide)) ?_
  refine And.intro (s_iload dX0_draw_21) ?_
  refine And.intro (s_bipush dX0_draw_23 (by decide)) ?_
  refine And.intro (s_icmp_ge dX0_draw_25 (by decide)) ?_
  refine And.intro (s_aload_n dX0_draw_28 rfl) ?_
  refine And.intro (s_getf (C := RX0) (T := TX0) (N := 6) rfl zin_X0 (by decide) zl_267 dX0_draw_29) ?_
  refine And.intro (s_iload dX0_draw_32) ?_
  refine And.intro (s_iaload dX0_draw_34) ?_
  refine And.intro (s_iload dX0_draw_35) ?_
  refine And.intro (s_icmp_ge dX0_draw_37 (by decide)) ?_
  refine And.intro (s_aload_n dX0_draw_40 rfl) ?_
  refine And.intro (s_getf (C := RX0) (T := TX0) (N := 6) rfl zin_X0 (by decide) zl_267 dX0_draw_41) ?_
  refine And.intro (s_iload dX0_draw_44) ?_
  refine And.intro (s_iaload dX0_draw_46) ?_
  refine And.intro (s_goto dX0_draw_47 (by decide)) ?_
  refine And.intro (s_iload dX0_draw_50) ?_
  refine And.intro (s_istore dX0_draw_52) ?_
  refine And.intro (s_aload_n dX0_draw_54 rfl) ?_
  refine And.intro (s_iload dX0_draw_55) ?_
  refine And.intro (s_iaload dX0_draw_57) ?_
  refine And.intro (s_istore dX0_draw_58) ?_
  refine And.intro (s_iinc dX0_draw_60 (by decide)) ?_
  refine And.intro (s_gotob dX0_draw_63 (by decide)) ?_
  refine And.intro (s_iload_n dX0_draw_66 rfl) ?_
  refine And.intro (s_istore dX0_draw_67) ?_
  refine And.intro (s_iconst dX0_draw_69 (by decide)) ?_
  refine And.intro (s_istore dX0_draw_70) ?_
  refine And.intro (s_mark) ?_
  refine And.intro (s_iload dX0_draw_72) ?_
  refine And.intro (s_bipush dX0_draw_74 (by decide)) ?_
  refine And.intro (s_icmp_ge dX0_draw_76 (by decide)) ?_
  refine And.intro (s_iload dX0_draw_79) ?_
  refine And.intro (s_if_lt dX0_draw_81 (by decide)) ?_
  refine And.intro (s_iload dX0_draw_84) ?_
  refine And.intro (s_bipush dX0_draw_86 (by decide)) ?_
  refine And.intro (s_icmp_ge dX0_draw_88 (by decide)) ?_
  refine And.intro (s_aload_n dX0_draw_91 rfl) ?_
  refine And.intro (s_getf (C := RX0) (T := TX0) (N := 6) rfl zin_X0 (by decide) zl_267 dX0_draw_92) ?_
  refine And.intro (s_iload dX0_draw_95) ?_
  refine And.intro (s_dup2 dX0_draw_97) ?_
  refine And.intro (s_iaload dX0_draw_98) ?_
  refine And.intro (s_iload dX0_draw_99) ?_
  refine And.intro (s_isub dX0_draw_101) ?_
  refine And.intro (s_iastore dX0_draw_102) ?_
  refine And.intro (s_aload_n dX0_draw_103 rfl) ?_
  refine And.intro (s_iload dX0_draw_104) ?_
  refine And.intro (s_iaload dX0_draw_106) ?_
  refine And.intro (s_istore dX0_draw_107) ?_
  refine And.intro (s_iinc dX0_draw_109 (by decide)) ?_
  refine And.intro (s_gotob dX0_draw_112 (by decide)) ?_
  refine And.intro (s_iload dX0_draw_115) ?_
  refine And.intro (s_ireturn rfl (fun _ => rfl) dX0_draw_117) ?_
  exact trivial
def zp_X4_leaking : List (Bool × Nat × zOp) := [
  (true, 0, o_ic 0),
  (true, 1, o_is 2),
  (true, 2, o_ic 0),
  (true, 3, o_is 3),
  (false, 4, o_mark 4 [4]),
  (true, 4, o_il 3),
  (true, 5, o_al 0),
  (true, 6, o_gf 4 9),
  (true, 9, o_cmp (fun x y => y ≤ x) 86),
  (true, 12, o_il 1),
  (true, 13, o_al 0),
  (true, 14, o_gf 4 6),
  (true, 17, o_il 3),
  (true, 18, o_ia),
  (true, 19, o_cmp (fun x y => x < y) 51),
  (true, 22, o_al 0),
  (true, 23, o_gf 4 8),
  (true, 26, o_il 3),
  (true, 27, o_ia),
  (true, 28, o_al 0),
  (true, 29, o_gf 4 6),
  (true, 32, o_il 3),
  (true, 33, o_ia),
  (true, 34, o_cmp (fun x y => x ≤ y) 47),
  (true, 37, o_il 1),
  (true, 38, o_al 0),
  (true, 39, o_gf 4 8),
  (true, 42, o_il 3),
  (true, 43, o_ia),
  (true, 44, o_cmp (fun x y => y ≤ x) 51),
  (true, 47, o_ic 1),
  (true, 48, o_go 52),
  (true, 51, o_ic 0),
  (true, 52, o_is 4),
  (true, 54, o_il 4),
  (true, 56, o_if (fun x => x = 0) 80),
  (true, 59, o_al 0),
  (true, 60, o_gf 4 10),
  (true, 63, o_il 3),
  (true, 64, o_ii (fun x y => x >>> (y &&& 31))),
  (true, 65, o_ic 1),
  (true, 66, o_ii (fun x y => x &&& y)),
  (true, 67, o_ic 1),
  (true, 68, o_cn (fun x y => x = y) 80),
  (true, 71, o_il 2),
  (true, 72, o_al 0),
  (true, 73, o_gf 4 7),
  (true, 76, o_il 3),
  (true, 77, o_ia),
  (true, 78, o_ii (fun x y => x + y)),
  (true, 79, o_is 2),
  (true, 80, o_inc 3 1),
  (true, 83, o_gb 4 [4]),
  (true, 86, o_il 2),
  (true, 87, o_ir)]
set_option maxRecDepth 100000 in
set_option maxHeartbeats 4000000 in
theorem zk_X4_leaking (kc ks : Nat) : z_OK (zS RX4 cX4_leaking 5 "leaking" (some .int) 0 0 kc ks) zp_X4_leaking := by
  unfold zp_X4_leaking
  refine And.intro (s_iconst dX4_leaking_0 (by decide)) ?_
  refine And.intro (s_istore_n dX4_leaking_1 rfl) ?_
  refine And.intro (s_iconst dX4_leaking_2 (by decide)) ?_
  refine And.intro (s_istore_n dX4_leaking_3 rfl) ?_
  refine And.intro (s_mark) ?_
  refine And.intro (s_iload_n dX4_leaking_4 rfl) ?_
  refine And.intro (s_aload_n dX4_leaking_5 rfl) ?_
  refine And.intro (s_getf (C := RX4) (T := TX4) (N := 16) rfl zin_X4 (by decide) zl_207 dX4_leaking_6) ?_
  refine And.intro (s_icmp_ge dX4_leaking_9 (by decide)) ?_
  refine And.intro (s_iload_n dX4_leaking_12 rfl) ?_
  refine And.intro (s_aload_n dX4_leaking_13 rfl) ?_
  refine And.intro (s_getf (C := RX4) (T := TX4) (N := 16) rfl zin_X4 (by decide) zl_204 dX4_leaking_14) ?_
  refine And.intro (s_iload_n dX4_leaking_17 rfl) ?_
  refine And.intro (s_iaload dX4_leaking_18) ?_
  refine And.intro (s_icmp_lt dX4_leaking_19 (by decide)) ?_
  refine And.intro (s_aload_n dX4_leaking_22 rfl) ?_
  refine And.intro (s_getf (C := RX4) (T := TX4) (N := 16) rfl zin_X4 (by decide) zl_206 dX4_leaking_23) ?_
  refine And.intro (s_iload_n dX4_leaking_26 rfl) ?_
  refine And.intro (s_iaload dX4_leaking_27) ?_
  refine And.intro (s_aload_n dX4_leaking_28 rfl) ?_
  refine And.intro (s_getf (C := RX4) (T := TX4) (N := 16) rfl zin_X4 (by decide) zl_204 dX4_leaking_29) ?_
  refine And.intro (s_iload_n dX4_leaking_32 rfl) ?_
  refine And.intro (s_iaload dX4_leaking_33) ?_
  refine And.intro (s_icmp_le dX4_leaking_34 (by decide)) ?_
  refine And.intro (s_iload_n dX4_leaking_37 rfl) ?_
  refine And.intro (s_aload_n dX4_leaking_38 rfl) ?_
  refine And.intro (s_getf (C := RX4) (T := TX4) (N := 16) rfl zin_X4 (by decide) zl_206 dX4_leaking_39) ?_
  refine And.intro (s_iload_n dX4_leaking_42 rfl) ?_
  refine And.intro (s_iaload dX4_leaking_43) ?_
  refine And.intro (s_icmp_ge dX4_leaking_44 (by decide)) ?_
  refine And.intro (s_iconst dX4_leaking_47 (by decide)) ?_
  refine And.intro (s_goto dX4_leaking_48 (by decide)) ?_
  refine And.intro (s_iconst dX4_leaking_51 (by decide)) ?_
  refine And.intro (s_istore dX4_leaking_52) ?_
  refine And.intro (s_iload dX4_leaking_54) ?_
  refine And.intro (s_if_eq dX4_leaking_56 (by decide)) ?_
  refine And.intro (s_aload_n dX4_leaking_59 rfl) ?_
  refine And.intro (s_getf (C := RX4) (T := TX4) (N := 16) rfl zin_X4 (by decide) zl_209 dX4_leaking_60) ?_
  refine And.intro (s_iload_n dX4_leaking_63 rfl) ?_
  refine And.intro (s_ishr dX4_leaking_64) ?_
  refine And.intro (s_iconst dX4_leaking_65 (by decide)) ?_
  refine And.intro (s_iand dX4_leaking_66) ?_
  refine And.intro (s_iconst dX4_leaking_67 (by decide)) ?_
  refine And.intro (s_icmp_ne dX4_leaking_68 (by decide)) ?_
  refine And.intro (s_iload_n dX4_leaking_71 rfl) ?_
  refine And.intro (s_aload_n dX4_leaking_72 rfl) ?_
  refine And.intro (s_getf (C := RX4) (T := TX4) (N := 16) rfl zin_X4 (by decide) zl_205 dX4_leaking_73) ?_
  refine And.intro (s_iload_n dX4_leaking_76 rfl) ?_
  refine And.intro (s_iaload dX4_leaking_77) ?_
  refine And.intro (s_iadd dX4_leaking_78) ?_
  refine And.intro (s_istore_n dX4_leaking_79 rfl) ?_
  refine And.intro (s_iinc dX4_leaking_80 (by decide)) ?_
  refine And.intro (s_gotob dX4_leaking_83 (by decide)) ?_
  refine And.intro (s_iload_n dX4_leaking_86 rfl) ?_
  refine And.intro (s_ireturn rfl (fun _ => rfl) dX4_leaking_87) ?_
  exact trivial
def zp_X4_openPipes : List (Bool × Nat × zOp) := [
  (true, 0, o_ic 0),
  (true, 1, o_is 3),
  (false, 2, o_mark 2 [4, 5]),
  (true, 2, o_il 3),
  (true, 3, o_ic 8),
  (true, 5, o_cmp (fun x y => y ≤ x) 44),
  (true, 8, o_il 3),
  (true, 9, o_al 2),
  (true, 10, o_len),
  (true, 11, o_cmp (fun x y => y ≤ x) 44),
  (true, 14, o_al 2),
  (true, 15, o_il 3),
  (true, 16, o_il 3),
  (true, 17, o_al 0),
  (true, 18, o_gf 4 15),
  (true, 21, o_cn (fun x y => x = y) 28),
  (true, 24, o_ic 0),
  (true, 25, o_go 37),
  (true, 28, o_al 0),
  (true, 29, o_gf 4 0),
  (true, 32, o_gf 2 2),
  (true, 35, o_il 3),
  (true, 36, o_ia),
  (true, 37, o_iw),
  (true, 38, o_inc 3 1),
  (true, 41, o_gb 2 [4, 5]),
  (true, 44, o_ic 0),
  (true, 45, o_is 3),
  (false, 46, o_mark 46 [4, 5]),
  (true, 46, o_il 3),
  (true, 47, o_al 0),
  (true, 48, o_gf 4 13),
  (true, 51, o_cmp (fun x y => y ≤ x) 119),
  (true, 54, o_al 0),
  (true, 55, o_gf 4 12),
  (true, 58, o_il 3),
  (true, 59, o_ia),
  (true, 60, o_is 4),
  (true, 62, o_al 0),
  (true, 63, o_gf 4 11),
  (true, 66, o_il 3),
  (true, 67, o_ia),
  (true, 68, o_il 1),
  (true, 69, o_cn (fun x y => x = y) 88),
  (true, 72, o_al 0),
  (true, 73, o_gf 4 14),
  (true, 76, o_il 3),
  (true, 77, o_ii (fun x y => x >>> (y &&& 31))),
  (true, 78, o_ic 1),
  (true, 79, o_ii (fun x y => x &&& y)),
  (true, 80, o_ic 1),
  (true, 81, o_cn (fun x y => x = y) 88),
  (true, 84, o_ic 1),
  (true, 85, o_go 89),
  (true, 88, o_ic 0),
  (true, 89, o_is 5),
  (true, 91, o_il 5),
  (true, 93, o_if (fun x => x = 0) 113),
  (true, 96, o_il 4),
  (true, 98, o_if (fun x => x < 0) 113),
  (true, 101, o_il 4),
  (true, 103, o_al 2),
  (true, 104, o_len),
  (true, 105, o_cmp (fun x y => y ≤ x) 113),
  (true, 108, o_al 2),
  (true, 109, o_il 4),
  (true, 111, o_ic 0),
  (true, 112, o_iw),
  (true, 113, o_inc 3 1),
  (true, 116, o_gb 46 [4, 5]),
  (true, 119, o_vr)]
set_option maxRecDepth 100000 in
set_option maxHeartbeats 4000000 in
theorem zk_X4_openPipes (kc ks : Nat) : z_OK (zS RX4 cX4_openPipes 6 "openPipes" none 0 0 kc ks) zp_X4_openPipes := by
  unfold zp_X4_openPipes
  refine And.intro (s_iconst dX4_openPipes_0 (by decide)) ?_
  refine And.intro (s_istore_n dX4_openPipes_1 rfl) ?_
  refine And.intro (s_mark) ?_
  refine And.intro (s_iload_n dX4_openPipes_2 rfl) ?_
  refine And.intro (s_bipush dX4_openPipes_3 (by decide)) ?_
  refine And.intro (s_icmp_ge dX4_openPipes_5 (by decide)) ?_
  refine And.intro (s_iload_n dX4_openPipes_8 rfl) ?_
  refine And.intro (s_aload_n dX4_openPipes_9 rfl) ?_
  refine And.intro (s_alen dX4_openPipes_10) ?_
  refine And.intro (s_icmp_ge dX4_openPipes_11 (by decide)) ?_
  refine And.intro (s_aload_n dX4_openPipes_14 rfl) ?_
  refine And.intro (s_iload_n dX4_openPipes_15 rfl) ?_
  refine And.intro (s_iload_n dX4_openPipes_16 rfl) ?_
  refine And.intro (s_aload_n dX4_openPipes_17 rfl) ?_
  refine And.intro (s_getf (C := RX4) (T := TX4) (N := 16) rfl zin_X4 (by decide) zl_217 dX4_openPipes_18) ?_
  refine And.intro (s_icmp_ne dX4_openPipes_21 (by decide)) ?_
  refine And.intro (s_iconst dX4_openPipes_24 (by decide)) ?_
  refine And.intro (s_goto dX4_openPipes_25 (by decide)) ?_
  refine And.intro (s_aload_n dX4_openPipes_28 rfl) ?_
  refine And.intro (s_getf (C := RX4) (T := TX4) (N := 16) rfl zin_X4 (by decide) zl_187 dX4_openPipes_29) ?_
  refine And.intro (s_getfN (C := RX2) (T := TX2) (N := 7) rfl zin_X2 (by decide) zl_161 dX4_openPipes_32) ?_
  refine And.intro (s_iload_n dX4_openPipes_35 rfl) ?_
  refine And.intro (s_iaload dX4_openPipes_36) ?_
  refine And.intro (s_iastore dX4_openPipes_37) ?_
  refine And.intro (s_iinc dX4_openPipes_38 (by decide)) ?_
  refine And.intro (s_gotob dX4_openPipes_41 (by decide)) ?_
  refine And.intro (s_iconst dX4_openPipes_44 (by decide)) ?_
  refine And.intro (s_istore_n dX4_openPipes_45 rfl) ?_
  refine And.intro (s_mark) ?_
  refine And.intro (s_iload_n dX4_openPipes_46 rfl) ?_
  refine And.intro (s_aload_n dX4_openPipes_47 rfl) ?_
  refine And.intro (s_getf (C := RX4) (T := TX4) (N := 16) rfl zin_X4 (by decide) zl_213 dX4_openPipes_48) ?_
  refine And.intro (s_icmp_ge dX4_openPipes_51 (by decide)) ?_
  refine And.intro (s_aload_n dX4_openPipes_54 rfl) ?_
  refine And.intro (s_getf (C := RX4) (T := TX4) (N := 16) rfl zin_X4 (by decide) zl_212 dX4_openPipes_55) ?_
  refine And.intro (s_iload_n dX4_openPipes_58 rfl) ?_
  refine And.intro (s_iaload dX4_openPipes_59) ?_
  refine And.intro (s_istore dX4_openPipes_60) ?_
  refine And.intro (s_aload_n dX4_openPipes_62 rfl) ?_
  refine And.intro (s_getf (C := RX4) (T := TX4) (N := 16) rfl zin_X4 (by decide) zl_211 dX4_openPipes_63) ?_
  refine And.intro (s_iload_n dX4_openPipes_66 rfl) ?_
  refine And.intro (s_iaload dX4_openPipes_67) ?_
  refine And.intro (s_iload_n dX4_openPipes_68 rfl) ?_
  refine And.intro (s_icmp_ne dX4_openPipes_69 (by decide)) ?_
  refine And.intro (s_aload_n dX4_openPipes_72 rfl) ?_
  refine And.intro (s_getf (C := RX4) (T := TX4) (N := 16) rfl zin_X4 (by decide) zl_215 dX4_openPipes_73) ?_
  refine And.intro (s_iload_n dX4_openPipes_76 rfl) ?_
  refine And.intro (s_ishr dX4_openPipes_77) ?_
  refine And.intro (s_iconst dX4_openPipes_78 (by decide)) ?_
  refine And.intro (s_iand dX4_openPipes_79) ?_
  refine And.intro (s_iconst dX4_openPipes_80 (by decide)) ?_
  refine And.intro (s_icmp_ne dX4_openPipes_81 (by decide)) ?_
  refine And.intro (s_iconst dX4_openPipes_84 (by decide)) ?_
  refine And.intro (s_goto dX4_openPipes_85 (by decide)) ?_
  refine And.intro (s_iconst dX4_openPipes_88 (by decide)) ?_
  refine And.intro (s_istore dX4_openPipes_89) ?_
  refine And.intro (s_iload dX4_openPipes_91) ?_
  refine And.intro (s_if_eq dX4_openPipes_93 (by decide)) ?_
  refine And.intro (s_iload dX4_openPipes_96) ?_
  refine And.intro (s_if_lt dX4_openPipes_98 (by decide)) ?_
  refine And.intro (s_iload dX4_openPipes_101) ?_
  refine And.intro (s_aload_n dX4_openPipes_103 rfl) ?_
  refine And.intro (s_alen dX4_openPipes_104) ?_
  refine And.intro (s_icmp_ge dX4_openPipes_105 (by decide)) ?_
  refine And.intro (s_aload_n dX4_openPipes_108 rfl) ?_
  refine And.intro (s_iload dX4_openPipes_109) ?_
  refine And.intro (s_iconst dX4_openPipes_111 (by decide)) ?_
  refine And.intro (s_iastore dX4_openPipes_112) ?_
  refine And.intro (s_iinc dX4_openPipes_113 (by decide)) ?_
  refine And.intro (s_gotob dX4_openPipes_116 (by decide)) ?_
  refine And.intro (s_vreturn rfl dX4_openPipes_119) ?_
  exact trivial
def zp_X0_follow : List (Bool × Nat × zOp) := [
  (true, 0, o_al 1),
  (true, 1, o_gf 4 0),
  (true, 4, o_as 2),
  (true, 5, o_al 1),
  (true, 6, o_gf 4 3),
  (true, 9, o_is 3),
  (true, 10, o_ic 0),
  (true, 11, o_is 4),
  (false, 13, o_mark 13 [5, 6, 7, 8, 9]),
  (true, 13, o_il 4),
  (true, 15, o_ic 40),
  (true, 17, o_cmp (fun x y => y ≤ x) 237),
  (true, 20, o_al 1),
  (true, 21, o_gf 4 4),
  (true, 24, o_il 3),
  (true, 25, o_al 1),
  (true, 26, o_gf 4 5),
  (true, 29, o_al 1),
  (true, 30, o_gf 4 1),
  (true, 33, o_il 4),
  (true, 35, o_ia),
  (true, 36, o_ii (fun x y => x * y)),
  (true, 37, o_ii (fun x y => x + y)),
  (true, 38, o_mi 26 (fun x y => if y < x then y else x)),
  (true, 41, o_is 5),
  (true, 43, o_al 0),
  (true, 44, o_gf 0 1),
  (true, 47, o_il 4),
  (true, 49, o_il 5),
  (true, 51, o_al 1),
  (true, 52, o_il 4),
  (true, 54, o_cv zi_X4_leaking 1 4),
  (true, 57, o_mi 26 (fun x y => if y < x then y else x)),
  (true, 60, o_iw),
  (true, 61, o_il 5),
  (true, 63, o_al 0),
  (true, 64, o_gf 0 1),
  (true, 67, o_il 4),
  (true, 69, o_ia),
  (true, 70, o_ii (fun x y => x - y)),
  (true, 71, o_is 3),
  (true, 72, o_al 0),
  (true, 73, o_gf 0 2),
  (true, 76, o_il 4),
  (true, 78, o_ic 0),
  (true, 79, o_iw),
  (true, 80, o_al 0),
  (true, 81, o_gf 0 3),
  (true, 84, o_il 4),
  (true, 86, o_ic 0),
  (true, 87, o_iw),
  (true, 88, o_al 1),
  (true, 89, o_il 4),
  (true, 91, o_al 0),
  (true, 92, o_gf 0 5),
  (true, 95, o_cv zi_X4_openPipes 2 4),
  (true, 98, o_ic 0),
  (true, 99, o_is 6),
  (false, 101, o_mark 101 [5, 7, 8, 9]),
  (true, 101, o_il 6),
  (true, 103, o_al 2),
  (true, 104, o_gf 2 6),
  (true, 107, o_cmp (fun x y => y ≤ x) 223),
  (true, 110, o_il 4),
  (true, 112, o_ic 8),
  (true, 114, o_ii (fun x y => x * y)),
  (true, 115, o_il 6),
  (true, 117, o_ii (fun x y => x + y)),
  (true, 118, o_is 7),
  (true, 120, o_al 2),
  (true, 121, o_gf 2 5),
  (true, 124, o_il 7),
  (true, 126, o_ia),
  (true, 127, o_cs zi_X5_needOf 1),
  (true, 130, o_is 8),
  (true, 132, o_al 0),
  (true, 133, o_al 2),
  (true, 134, o_gf 2 0),
  (true, 137, o_il 6),
  (true, 139, o_il 8),
  (true, 141, o_il 3),
  (true, 142, o_mi 26 (fun x y => if y < x then y else x)),
  (true, 145, o_cv zi_X0_draw 3 0),
  (true, 148, o_is 9),
  (true, 150, o_al 0),
  (true, 151, o_gf 0 4),
  (true, 154, o_il 7),
  (true, 156, o_il 9),
  (true, 158, o_iw),
  (true, 159, o_il 3),
  (true, 160, o_il 9),
  (true, 162, o_ii (fun x y => x - y)),
  (true, 163, o_is 3),
  (true, 164, o_al 0),
  (true, 165, o_gf 0 2),
  (true, 168, o_il 4),
  (true, 170, o_dup2),
  (true, 171, o_ia),
  (true, 172, o_il 9),
  (true, 174, o_if (fun x => x ≤ 0) 189),
  (true, 177, o_ic 1),
  (true, 178, o_al 2),
  (true, 179, o_gf 2 1),
  (true, 182, o_il 6),
  (true, 184, o_ia),
  (true, 185, o_ii (fun x y => x <<< (y &&& 31))),
  (true, 186, o_go 190),
  (true, 189, o_ic 0),
  (true, 190, o_ii (fun x y => x ||| y)),
  (true, 191, o_iw),
  (true, 192, o_al 0),
  (true, 193, o_gf 0 3),
  (true, 196, o_il 4),
  (true, 198, o_dup2),
  (true, 199, o_ia),
  (true, 200, o_il 9),
  (true, 202, o_il 8),
  (true, 204, o_cmp (fun x y => y ≤ x) 214),
  (true, 207, o_ic 1),
  (true, 208, o_il 6),
  (true, 210, o_ii (fun x y => x <<< (y &&& 31))),
  (true, 211, o_go 215),
  (true, 214, o_ic 0),
  (true, 215, o_ii (fun x y => x ||| y)),
  (true, 216, o_iw),
  (true, 217, o_inc 6 1),
  (true, 220, o_gb 101 [5, 7, 8, 9]),
  (true, 223, o_al 0),
  (true, 224, o_gf 0 0),
  (true, 227, o_il 4),
  (true, 229, o_il 3),
  (true, 230, o_iw),
  (true, 231, o_inc 4 1),
  (true, 234, o_gb 13 [5, 6, 7, 8, 9]),
  (true, 237, o_vr)]
set_option maxRecDepth 100000 in
set_option maxHeartbeats 4000000 in
theorem zk_X0_follow (kc ks : Nat) : z_OK (zS RX0 cX0_follow 10 "follow" none 1 26 kc ks) zp_X0_follow := by
  unfold zp_X0_follow
  refine And.intro (s_aload_n dX0_follow_0 rfl) ?_
  refine And.intro (s_getfN (C := RX4) (T := TX4) (N := 16) rfl zin_X4 (by decide) zl_188 dX0_follow_1) ?_
  refine And.intro (s_astore_n dX0_follow_4 rfl) ?_
  refine And.intro (s_aload_n dX0_follow_5 rfl) ?_
  refine And.intro (s_getfN (C := RX4) (T := TX4) (N := 16) rfl zin_X4 (by decide) zl_196 dX0_follow_6) ?_
  refine And.intro (s_istore_n dX0_follow_9 rfl) ?_
  refine And.intro (s_iconst dX0_follow_10 (by decide)) ?_
  refine And.intro (s_istore dX0_follow_11) ?_
  refine And.intro (s_mark) ?_
  refine And.intro (s_iload dX0_follow_13) ?_
  refine And.intro (s_bipush dX0_follow_15 (by decide)) ?_
  refine And.intro (s_icmp_ge dX0_follow_17 (by decide)) ?_
  refine And.intro (s_aload_n dX0_follow_20 rfl) ?_
  refine And.intro (s_getfN (C := RX4) (T := TX4) (N := 16) rfl zin_X4 (by decide) zl_199 dX0_follow_21) ?_
  refine And.intro (s_iload_n dX0_follow_24 rfl) ?_
  refine And.intro (s_aload_n dX0_follow_25 rfl) ?_
  refine And.intro (s_getfN (C := RX4) (T := TX4) (N := 16) rfl zin_X4 (by decide) zl_202 dX0_follow_26) ?_
  refine And.intro (s_aload_n dX0_follow_29 rfl) ?_
  refine And.intro (s_getfN (C := RX4) (T := TX4) (N := 16) rfl zin_X4 (by decide) zl_191 dX0_follow_30) ?_
  refine And.intro (s_iload dX0_follow_33) ?_
  refine And.intro (s_iaload dX0_follow_35) ?_
  refine And.intro (s_imul dX0_follow_36) ?_
  refine And.intro (s_iadd dX0_follow_37) ?_
  refine And.intro (s_mmin zl_496 zl_120 zl_96 zl_121 (by decide) dX0_follow_38) ?_
  refine And.intro (s_istore dX0_follow_41) ?_
  refine And.intro (s_aload_n dX0_follow_43 rfl) ?_
  refine And.intro (s_getf (C := RX0) (T := TX0) (N := 6) rfl zin_X0 (by decide) zl_260 dX0_follow_44) ?_
  refine And.intro (s_iload dX0_follow_47) ?_
  refine And.intro (s_iload dX0_follow_49) ?_
  refine And.intro (s_aload_n dX0_follow_51 rfl) ?_
  refine And.intro (s_iload dX0_follow_52) ?_
  refine And.intro (s_callVN (C := RX4) (T := TX4) (N := 16) rfl zf_X4_leaking zg_X4_leaking zl_497 ⟨rfl, rfl⟩ dX0_follow_54) ?_
  refine And.intro (s_mmin zl_496 zl_120 zl_96 zl_121 (by decide) dX0_follow_57) ?_
  refine And.intro (s_iastore dX0_follow_60) ?_
  refine And.intro (s_iload dX0_follow_61) ?_
  refine And.intro (s_aload_n dX0_follow_63 rfl) ?_
  refine And.intro (s_getf (C := RX0) (T := TX0) (N := 6) rfl zin_X0 (by decide) zl_260 dX0_follow_64) ?_
  refine And.intro (s_iload dX0_follow_67) ?_
  refine And.intro (s_iaload dX0_follow_69) ?_
  refine And.intro (s_isub dX0_follow_70) ?_
  refine And.intro (s_istore_n dX0_follow_71 rfl) ?_
  refine And.intro (s_aload_n dX0_follow_72 rfl) ?_
  refine And.intro (s_getf (C := RX0) (T := TX0) (N := 6) rfl zin_X0 (by decide) zl_262 dX0_follow_73) ?_
  refine And.intro (s_iload dX0_follow_76) ?_
  refine And.intro (s_iconst dX0_follow_78 (by decide)) ?_
  refine And.intro (s_iastore dX0_follow_79) ?_
  refine And.intro (s_aload_n dX0_follow_80 rfl) ?_
  refine And.intro (s_getf (C := RX0) (T := TX0) (N := 6) rfl zin_X0 (by decide) zl_264 dX0_follow_81) ?_
  refine And.intro (s_iload dX0_follow_84) ?_
  refine And.intro (s_iconst dX0_follow_86 (by decide)) ?_
  refine And.intro (s_iastore dX0_follow_87) ?_
  refine And.intro (s_aload_n dX0_follow_88 rfl) ?_
  refine And.intro (s_iload dX0_follow_89) ?_
  refine And.intro (s_aload_n dX0_follow_91 rfl) ?_
  refine And.intro (s_getf (C := RX0) (T := TX0) (N := 6) rfl zin_X0 (by decide) zl_267 dX0_follow_92) ?_
  refine And.intro (s_callVN (C := RX4) (T := TX4) (N := 16) rfl zf_X4_openPipes zg_X4_openPipes zl_501 ⟨rfl, rfl⟩ dX0_follow_95) ?_
  refine And.intro (s_iconst dX0_follow_98 (by decide)) ?_
  refine And.intro (s_istore dX0_follow_99) ?_
  refine And.intro (s_mark) ?_
  refine And.intro (s_iload dX0_follow_101) ?_
  refine And.intro (s_aload_n dX0_follow_103 rfl) ?_
  refine And.intro (s_getfN (C := RX2) (T := TX2) (N := 7) rfl zin_X2 (by decide) zl_170 dX0_follow_104) ?_
  refine And.intro (s_icmp_ge dX0_follow_107 (by decide)) ?_
  refine And.intro (s_iload dX0_follow_110) ?_
  refine And.intro (s_bipush dX0_follow_112 (by decide)) ?_
  refine And.intro (s_imul dX0_follow_114) ?_
  refine And.intro (s_iload dX0_follow_115) ?_
  refine And.intro (s_iadd dX0_follow_117) ?_
  refine And.intro (s_istore dX0_follow_118) ?_
  refine And.intro (s_aload_n dX0_follow_120 rfl) ?_
  refine And.intro (s_getfN (C := RX2) (T := TX2) (N := 7) rfl zin_X2 (by decide) zl_167 dX0_follow_121) ?_
  refine And.intro (s_iload dX0_follow_124) ?_
  refine And.intro (s_iaload dX0_follow_126) ?_
  refine And.intro (s_callSN zf_X5_needOf zl_506 zl_505 ⟨rfl, rfl⟩ dX0_follow_127) ?_
  refine And.intro (s_istore dX0_follow_130) ?_
  refine And.intro (s_aload_n dX0_follow_132 rfl) ?_
  refine And.intro (s_aload_n dX0_follow_133 rfl) ?_
  refine And.intro (s_getfN (C := RX2) (T := TX2) (N := 7) rfl zin_X2 (by decide) zl_155 dX0_follow_134) ?_
  refine And.intro (s_iload dX0_follow_137) ?_
  refine And.intro (s_iload dX0_follow_139) ?_
  refine And.intro (s_iload_n dX0_follow_141 rfl) ?_
  refine And.intro (s_mmin zl_496 zl_120 zl_96 zl_121 (by decide) dX0_follow_142) ?_
  refine And.intro (s_callV (C := RX0) (T := TX0) (N := 6) rfl zf_X0_draw zg_X0_draw zl_508 ⟨rfl, rfl⟩ dX0_follow_145) ?_
  refine And.intro (s_istore dX0_follow_148) ?_
  refine And.intro (s_aload_n dX0_follow_150 rfl) ?_
  refine And.intro (s_getf (C := RX0) (T := TX0) (N := 6) rfl zin_X0 (by decide) zl_266 dX0_follow_151) ?_
  refine And.intro (s_iload dX0_follow_154) ?_
  refine And.intro (s_iload dX0_follow_156) ?_
  refine And.intro (s_iastore dX0_follow_158) ?_
  refine And.intro (s_iload_n dX0_follow_159 rfl) ?_
  refine And.intro (s_iload dX0_follow_160) ?_
  refine And.intro (s_isub dX0_follow_162) ?_
  refine And.intro (s_istore_n dX0_follow_163 rfl) ?_
  refine And.intro (s_aload_n dX0_follow_164 rfl) ?_
  refine And.intro (s_getf (C := RX0) (T := TX0) (N := 6) rfl zin_X0 (by decide) zl_262 dX0_follow_165) ?_
  refine And.intro (s_iload dX0_follow_168) ?_
  refine And.intro (s_dup2 dX0_follow_170) ?_
  refine And.intro (s_iaload dX0_follow_171) ?_
  refine And.intro (s_iload dX0_follow_172) ?_
  refine And.intro (s_if_le dX0_follow_174 (by decide)) ?_
  refine And.intro (s_iconst dX0_follow_177 (by decide)) ?_
  refine And.intro (s_aload_n dX0_follow_178 rfl) ?_
  refine And.intro (s_getfN (C := RX2) (T := TX2) (N := 7) rfl zin_X2 (by decide) zl_158 dX0_follow_179) ?_
  refine And.intro (s_iload dX0_follow_182) ?_
  refine And.intro (s_iaload dX0_follow_184) ?_
  refine And.intro (s_ishl dX0_follow_185) ?_
  refine And.intro (s_goto dX0_follow_186 (by decide)) ?_
  refine And.intro (s_iconst dX0_follow_189 (by decide)) ?_
  refine And.intro (s_ior dX0_follow_190) ?_
  refine And.intro (s_iastore dX0_follow_191) ?_
  refine And.intro (s_aload_n dX0_follow_192 rfl) ?_
  refine And.intro (s_getf (C := RX0) (T := TX0) (N := 6) rfl zin_X0 (by decide) zl_264 dX0_follow_193) ?_
  refine And.intro (s_iload dX0_follow_196) ?_
  refine And.intro (s_dup2 dX0_follow_198) ?_
  refine And.intro (s_iaload dX0_follow_199) ?_
  refine And.intro (s_iload dX0_follow_200) ?_
  refine And.intro (s_iload dX0_follow_202) ?_
  refine And.intro (s_icmp_ge dX0_follow_204 (by decide)) ?_
  refine And.intro (s_iconst dX0_follow_207 (by decide)) ?_
  refine And.intro (s_iload dX0_follow_208) ?_
  refine And.intro (s_ishl dX0_follow_210) ?_
  refine And.intro (s_goto dX0_follow_211 (by decide)) ?_
  refine And.intro (s_iconst dX0_follow_214 (by decide)) ?_
  refine And.intro (s_ior dX0_follow_215) ?_
  refine And.intro (s_iastore dX0_follow_216) ?_
  refine And.intro (s_iinc dX0_follow_217 (by decide)) ?_
  refine And.intro (s_gotob dX0_follow_220 (by decide)) ?_
  refine And.intro (s_aload_n dX0_follow_223 rfl) ?_
  refine And.intro (s_getf (C := RX0) (T := TX0) (N := 6) rfl zin_X0 (by decide) zl_258 dX0_follow_224) ?_
  refine And.intro (s_iload dX0_follow_227) ?_
  refine And.intro (s_iload_n dX0_follow_229 rfl) ?_
  refine And.intro (s_iastore dX0_follow_230) ?_
  refine And.intro (s_iinc dX0_follow_231 (by decide)) ?_
  refine And.intro (s_gotob dX0_follow_234 (by decide)) ?_
  refine And.intro (s_vreturn rfl dX0_follow_237) ?_
  exact trivial
def zp_X1_has : List (Bool × Nat × zOp) := [
  (true, 0, o_il 2),
  (true, 1, o_if (fun x => x < 0) 24),
  (true, 4, o_il 3),
  (true, 5, o_if (fun x => x < 0) 24),
  (true, 8, o_il 2),
  (true, 9, o_al 0),
  (true, 10, o_gf 1 1),
  (true, 13, o_il 1),
  (true, 14, o_ia),
  (true, 15, o_il 3),
  (true, 16, o_ii (fun x y => x - y)),
  (true, 17, o_cmp (fun x y => y < x) 24),
  (true, 20, o_ic 1),
  (true, 21, o_go 25),
  (true, 24, o_ic 0),
  (true, 25, o_zr)]
set_option maxRecDepth 100000 in
set_option maxHeartbeats 4000000 in
theorem zk_X1_has (kc ks : Nat) : z_OK (zS RX1 cX1_has 4 "has" (some .boolean) 0 0 kc ks) zp_X1_has := by
  unfold zp_X1_has
  refine And.intro (s_iload_n dX1_has_0 rfl) ?_
  refine And.intro (s_if_lt dX1_has_1 (by decide)) ?_
  refine And.intro (s_iload_n dX1_has_4 rfl) ?_
  refine And.intro (s_if_lt dX1_has_5 (by decide)) ?_
  refine And.intro (s_iload_n dX1_has_8 rfl) ?_
  refine And.intro (s_aload_n dX1_has_9 rfl) ?_
  refine And.intro (s_getf (C := RX1) (T := TX1) (N := 3) rfl zin_X1 (by decide) zl_289 dX1_has_10) ?_
  refine And.intro (s_iload_n dX1_has_13 rfl) ?_
  refine And.intro (s_iaload dX1_has_14) ?_
  refine And.intro (s_iload_n dX1_has_15 rfl) ?_
  refine And.intro (s_isub dX1_has_16) ?_
  refine And.intro (s_icmp_gt dX1_has_17 (by decide)) ?_
  refine And.intro (s_iconst dX1_has_20 (by decide)) ?_
  refine And.intro (s_goto dX1_has_21 (by decide)) ?_
  refine And.intro (s_iconst dX1_has_24 (by decide)) ?_
  refine And.intro (s_zreturn rfl dX1_has_25) ?_
  exact trivial
def zp_X1_isLost : List (Bool × Nat × zOp) := [
  (true, 0, o_al 0),
  (true, 1, o_gf 1 0),
  (true, 4, o_il 1),
  (true, 5, o_ia),
  (true, 6, o_ic (-1)),
  (true, 7, o_cn (fun x y => x = y) 14),
  (true, 10, o_ic 1),
  (true, 11, o_go 15),
  (true, 14, o_ic 0),
  (true, 15, o_zr)]
set_option maxRecDepth 100000 in
set_option maxHeartbeats 4000000 in
theorem zk_X1_isLost (kc ks : Nat) : z_OK (zS RX1 cX1_isLost 2 "isLost" (some .boolean) 0 0 kc ks) zp_X1_isLost := by
  unfold zp_X1_isLost
  refine And.intro (s_aload_n dX1_isLost_0 rfl) ?_
  refine And.intro (s_getf (C := RX1) (T := TX1) (N := 3) rfl zin_X1 (by decide) zl_287 dX1_isLost_1) ?_
  refine And.intro (s_iload_n dX1_isLost_4 rfl) ?_
  refine And.intro (s_iaload dX1_isLost_5) ?_
  refine And.intro (s_iconst dX1_isLost_6 (by decide)) ?_
  refine And.intro (s_icmp_ne dX1_isLost_7 (by decide)) ?_
  refine And.intro (s_iconst dX1_isLost_10 (by decide)) ?_
  refine And.intro (s_goto dX1_isLost_11 (by decide)) ?_
  refine And.intro (s_iconst dX1_isLost_14 (by decide)) ?_
  refine And.intro (s_zreturn rfl dX1_isLost_15) ?_
  exact trivial
def zp_X1_move : List (Bool × Nat × zOp) := [
  (true, 0, o_al 0),
  (true, 1, o_gf 1 2),
  (true, 4, o_il 1),
  (true, 5, o_ic 60),
  (true, 7, o_ii (fun x y => x * y)),
  (true, 8, o_il 2),
  (true, 9, o_ii (fun x y => x + y)),
  (true, 10, o_al 0),
  (true, 11, o_gf 1 2),
  (true, 14, o_il 3),
  (true, 15, o_ic 60),
  (true, 17, o_ii (fun x y => x * y)),
  (true, 18, o_il 4),
  (true, 20, o_ii (fun x y => x + y)),
  (true, 21, o_il 5),
  (true, 23, o_cp 40),
  (true, 26, o_vr)]
set_option maxRecDepth 100000 in
set_option maxHeartbeats 4000000 in
theorem zk_X1_move (kc ks : Nat) : z_OK (zS RX1 cX1_move 6 "move" none 1 40 kc ks) zp_X1_move := by
  unfold zp_X1_move
  refine And.intro (s_aload_n dX1_move_0 rfl) ?_
  refine And.intro (s_getf (C := RX1) (T := TX1) (N := 3) rfl zin_X1 (by decide) zl_291 dX1_move_1) ?_
  refine And.intro (s_iload_n dX1_move_4 rfl) ?_
  refine And.intro (s_bipush dX1_move_5 (by decide)) ?_
  refine And.intro (s_imul dX1_move_7) ?_
  refine And.intro (s_iload_n dX1_move_8 rfl) ?_
  refine And.intro (s_iadd dX1_move_9) ?_
  refine And.intro (s_aload_n dX1_move_10 rfl) ?_
  refine And.intro (s_getf (C := RX1) (T := TX1) (N := 3) rfl zin_X1 (by decide) zl_291 dX1_move_11) ?_
  refine And.intro (s_iload_n dX1_move_14 rfl) ?_
  refine And.intro (s_bipush dX1_move_15 (by decide)) ?_
  refine And.intro (s_imul dX1_move_17) ?_
  refine And.intro (s_iload dX1_move_18) ?_
  refine And.intro (s_iadd dX1_move_20) ?_
  refine And.intro (s_iload dX1_move_21) ?_
  refine And.intro (s_acopy zl_735 zl_737 zl_736 zl_104 (by decide) dX1_move_23) ?_
  refine And.intro (s_vreturn rfl dX1_move_26) ?_
  exact trivial
def zp_J6_bitCount_0f7a4 : List (Bool × Nat × zOp) := [
  (true, 0, o_il 0),
  (true, 1, o_il 0),
  (true, 2, o_ic 1),
  (true, 3, o_ii (fun x y => (x.toUInt32 >>> (y.toUInt32 &&& Int32.toUInt32 31)).toInt32)),
  (true, 4, o_ic 1431655765),
  (true, 7, o_ii (fun x y => x &&& y)),
  (true, 8, o_ii (fun x y => x - y)),
  (true, 9, o_is 0),
  (true, 10, o_il 0),
  (true, 11, o_ic 858993459),
  (true, 14, o_ii (fun x y => x &&& y)),
  (true, 15, o_il 0),
  (true, 16, o_ic 2),
  (true, 17, o_ii (fun x y => (x.toUInt32 >>> (y.toUInt32 &&& Int32.toUInt32 31)).toInt32)),
  (true, 18, o_ic 858993459),
  (true, 21, o_ii (fun x y => x &&& y)),
  (true, 22, o_ii (fun x y => x + y)),
  (true, 23, o_is 0),
  (true, 24, o_il 0),
  (true, 25, o_il 0),
  (true, 26, o_ic 4),
  (true, 27, o_ii (fun x y => (x.toUInt32 >>> (y.toUInt32 &&& Int32.toUInt32 31)).toInt32)),
  (true, 28, o_ii (fun x y => x + y)),
  (true, 29, o_ic 252645135),
  (true, 32, o_ii (fun x y => x &&& y)),
  (true, 33, o_is 0),
  (true, 34, o_il 0),
  (true, 35, o_il 0),
  (true, 36, o_ic 8),
  (true, 38, o_ii (fun x y => (x.toUInt32 >>> (y.toUInt32 &&& Int32.toUInt32 31)).toInt32)),
  (true, 39, o_ii (fun x y => x + y)),
  (true, 40, o_is 0),
  (true, 41, o_il 0),
  (true, 42, o_il 0),
  (true, 43, o_ic 16),
  (true, 45, o_ii (fun x y => (x.toUInt32 >>> (y.toUInt32 &&& Int32.toUInt32 31)).toInt32)),
  (true, 46, o_ii (fun x y => x + y)),
  (true, 47, o_is 0),
  (true, 48, o_il 0),
  (true, 49, o_ic 63),
  (true, 51, o_ii (fun x y => x &&& y)),
  (true, 52, o_ir)]
set_option maxRecDepth 100000 in
set_option maxHeartbeats 4000000 in
theorem zk_J6_bitCount_0f7a4 (kc ks : Nat) : z_OK (zS RJ6 cJ6_bitCount_0f7a4 1 "bitCount" (some .int) 0 0 kc ks) zp_J6_bitCount_0f7a4 := by
  unfold zp_J6_bitCount_0f7a4
  refine And.intro (s_iload_n dJ6_bitCount_0f7a4_0 rfl) ?_
  refine And.intro (s_iload_n dJ6_bitCount_0f7a4_1 rfl) ?_
  refine And.intro (s_iconst dJ6_bitCount_0f7a4_2 (by decide)) ?_
  refine And.intro (s_iushr dJ6_bitCount_0f7a4_3) ?_
  refine And.intro (s_ldcw zl_562 dJ6_bitCount_0f7a4_4) ?_
  refine And.intro (s_iand dJ6_bitCount_0f7a4_7) ?_
  refine And.intro (s_isub dJ6_bitCount_0f7a4_8) ?_
  refine And.intro (s_istore_n dJ6_bitCount_0f7a4_9 rfl) ?_
  refine And.intro (s_iload_n dJ6_bitCount_0f7a4_10 rfl) ?_
  refine And.intro (s_ldcw zl_563 dJ6_bitCount_0f7a4_11) ?_
  refine And.intro (s_iand dJ6_bitCount_0f7a4_14) ?_
  refine And.intro (s_iload_n dJ6_bitCount_0f7a4_15 rfl) ?_
  refine And.intro (s_iconst dJ6_bitCount_0f7a4_16 (by decide)) ?_
  refine And.intro (s_iushr dJ6_bitCount_0f7a4_17) ?_
  refine And.intro (s_ldcw zl_563 dJ6_bitCount_0f7a4_18) ?_
  refine And.intro (s_iand dJ6_bitCount_0f7a4_21) ?_
  refine And.intro (s_iadd dJ6_bitCount_0f7a4_22) ?_
  refine And.intro (s_istore_n dJ6_bitCount_0f7a4_23 rfl) ?_
  refine And.intro (s_iload_n dJ6_bitCount_0f7a4_24 rfl) ?_
  refine And.intro (s_iload_n dJ6_bitCount_0f7a4_25 rfl) ?_
  refine And.intro (s_iconst dJ6_bitCount_0f7a4_26 (by decide)) ?_
  refine And.intro (s_iushr dJ6_bitCount_0f7a4_27) ?_
  refine And.intro (s_iadd dJ6_bitCount_0f7a4_28) ?_
  refine And.intro (s_ldcw zl_564 dJ6_bitCount_0f7a4_29) ?_
  refine And.intro (s_iand dJ6_bitCount_0f7a4_32) ?_
  refine And.intro (s_istore_n dJ6_bitCount_0f7a4_33 rfl) ?_
  refine And.intro (s_iload_n dJ6_bitCount_0f7a4_34 rfl) ?_
  refine And.intro (s_iload_n dJ6_bitCount_0f7a4_35 rfl) ?_
  refine And.intro (s_bipush dJ6_bitCount_0f7a4_36 (by decide)) ?_
  refine And.intro (s_iushr dJ6_bitCount_0f7a4_38) ?_
  refine And.intro (s_iadd dJ6_bitCount_0f7a4_39) ?_
  refine And.intro (s_istore_n dJ6_bitCount_0f7a4_40 rfl) ?_
  refine And.intro (s_iload_n dJ6_bitCount_0f7a4_41 rfl) ?_
  refine And.intro (s_iload_n dJ6_bitCount_0f7a4_42 rfl) ?_
  refine And.intro (s_bipush dJ6_bitCount_0f7a4_43 (by decide)) ?_
  refine And.intro (s_iushr dJ6_bitCount_0f7a4_45) ?_
  refine And.intro (s_iadd dJ6_bitCount_0f7a4_46) ?_
  refine And.intro (s_istore_n dJ6_bitCount_0f7a4_47 rfl) ?_
  refine And.intro (s_iload_n dJ6_bitCount_0f7a4_48 rfl) ?_
  refine And.intro (s_bipush dJ6_bitCount_0f7a4_49 (by decide)) ?_
  refine And.intro (s_iand dJ6_bitCount_0f7a4_51) ?_
  refine And.intro (s_ireturn rfl (fun _ => rfl) dJ6_bitCount_0f7a4_52) ?_
  exact trivial
def zp_X0_shortsInAll : List (Bool × Nat × zOp) := [
  (true, 0, o_ic 0),
  (true, 1, o_is 1),
  (true, 2, o_ic 0),
  (true, 3, o_is 2),
  (false, 4, o_mark 4 []),
  (true, 4, o_il 2),
  (true, 5, o_ic 40),
  (true, 7, o_cmp (fun x y => y ≤ x) 28),
  (true, 10, o_il 1),
  (true, 11, o_al 0),
  (true, 12, o_gf 0 3),
  (true, 15, o_il 2),
  (true, 16, o_ia),
  (true, 17, o_cs zi_J6_bitCount_0f7a4 1),
  (true, 20, o_ii (fun x y => x + y)),
  (true, 21, o_is 1),
  (true, 22, o_inc 2 1),
  (true, 25, o_gb 4 []),
  (true, 28, o_il 1),
  (true, 29, o_ir)]
set_option maxRecDepth 100000 in
set_option maxHeartbeats 4000000 in
theorem zk_X0_shortsInAll (kc ks : Nat) : z_OK (zS RX0 cX0_shortsInAll 3 "shortsInAll" (some .int) 1 20 kc ks) zp_X0_shortsInAll := by
  unfold zp_X0_shortsInAll
  refine And.intro (s_iconst dX0_shortsInAll_0 (by decide)) ?_
  refine And.intro (s_istore_n dX0_shortsInAll_1 rfl) ?_
  refine And.intro (s_iconst dX0_shortsInAll_2 (by decide)) ?_
  refine And.intro (s_istore_n dX0_shortsInAll_3 rfl) ?_
  refine And.intro (s_mark) ?_
  refine And.intro (s_iload_n dX0_shortsInAll_4 rfl) ?_
  refine And.intro (s_bipush dX0_shortsInAll_5 (by decide)) ?_
  refine And.intro (s_icmp_ge dX0_shortsInAll_7 (by decide)) ?_
  refine And.intro (s_iload_n dX0_shortsInAll_10 rfl) ?_
  refine And.intro (s_aload_n dX0_shortsInAll_11 rfl) ?_
  refine And.intro (s_getf (C := RX0) (T := TX0) (N := 6) rfl zin_X0 (by decide) zl_264 dX0_shortsInAll_12) ?_
  refine And.intro (s_iload_n dX0_shortsInAll_15 rfl) ?_
  refine And.intro (s_iaload dX0_shortsInAll_16) ?_
  refine And.intro (s_callS zf_J6_bitCount_0f7a4 zl_560 zl_559 ⟨rfl, rfl⟩ dX0_shortsInAll_17) ?_
  refine And.intro (s_iadd dX0_shortsInAll_20) ?_
  refine And.intro (s_istore_n dX0_shortsInAll_21 rfl) ?_
  refine And.intro (s_iinc dX0_shortsInAll_22 (by decide)) ?_
  refine And.intro (s_gotob dX0_shortsInAll_25 (by decide)) ?_
  refine And.intro (s_iload_n dX0_shortsInAll_28 rfl) ?_
  refine And.intro (s_ireturn rfl (fun _ => rfl) dX0_shortsInAll_29) ?_
  exact trivial
def zp_X0_shortHours : List (Bool × Nat × zOp) := [
  (true, 0, o_ic 0),
  (true, 1, o_is 2),
  (true, 2, o_ic 0),
  (true, 3, o_is 3),
  (false, 4, o_mark 4 []),
  (true, 4, o_il 3),
  (true, 5, o_ic 40),
  (true, 7, o_cmp (fun x y => y ≤ x) 29),
  (true, 10, o_il 2),
  (true, 11, o_al 0),
  (true, 12, o_gf 0 3),
  (true, 15, o_il 3),
  (true, 16, o_ia),
  (true, 17, o_il 1),
  (true, 18, o_ii (fun x y => x >>> (y &&& 31))),
  (true, 19, o_ic 1),
  (true, 20, o_ii (fun x y => x &&& y)),
  (true, 21, o_ii (fun x y => x + y)),
  (true, 22, o_is 2),
  (true, 23, o_inc 3 1),
  (true, 26, o_gb 4 []),
  (true, 29, o_il 2),
  (true, 30, o_ir)]
set_option maxRecDepth 100000 in
set_option maxHeartbeats 4000000 in
theorem zk_X0_shortHours (kc ks : Nat) : z_OK (zS RX0 cX0_shortHours 4 "shortHours" (some .int) 0 0 kc ks) zp_X0_shortHours := by
  unfold zp_X0_shortHours
  refine And.intro (s_iconst dX0_shortHours_0 (by decide)) ?_
  refine And.intro (s_istore_n dX0_shortHours_1 rfl) ?_
  refine And.intro (s_iconst dX0_shortHours_2 (by decide)) ?_
  refine And.intro (s_istore_n dX0_shortHours_3 rfl) ?_
  refine And.intro (s_mark) ?_
  refine And.intro (s_iload_n dX0_shortHours_4 rfl) ?_
  refine And.intro (s_bipush dX0_shortHours_5 (by decide)) ?_
  refine And.intro (s_icmp_ge dX0_shortHours_7 (by decide)) ?_
  refine And.intro (s_iload_n dX0_shortHours_10 rfl) ?_
  refine And.intro (s_aload_n dX0_shortHours_11 rfl) ?_
  refine And.intro (s_getf (C := RX0) (T := TX0) (N := 6) rfl zin_X0 (by decide) zl_264 dX0_shortHours_12) ?_
  refine And.intro (s_iload_n dX0_shortHours_15 rfl) ?_
  refine And.intro (s_iaload dX0_shortHours_16) ?_
  refine And.intro (s_iload_n dX0_shortHours_17 rfl) ?_
  refine And.intro (s_ishr dX0_shortHours_18) ?_
  refine And.intro (s_iconst dX0_shortHours_19 (by decide)) ?_
  refine And.intro (s_iand dX0_shortHours_20) ?_
  refine And.intro (s_iadd dX0_shortHours_21) ?_
  refine And.intro (s_istore_n dX0_shortHours_22 rfl) ?_
  refine And.intro (s_iinc dX0_shortHours_23 (by decide)) ?_
  refine And.intro (s_gotob dX0_shortHours_26 (by decide)) ?_
  refine And.intro (s_iload_n dX0_shortHours_29 rfl) ?_
  refine And.intro (s_ireturn rfl (fun _ => rfl) dX0_shortHours_30) ?_
  exact trivial
def zp_X0_firstShort : List (Bool × Nat × zOp) := [
  (true, 0, o_ic 0),
  (true, 1, o_is 2),
  (false, 2, o_mark 2 []),
  (true, 2, o_il 2),
  (true, 3, o_ic 40),
  (true, 5, o_cmp (fun x y => y ≤ x) 27),
  (true, 8, o_al 0),
  (true, 9, o_gf 0 3),
  (true, 12, o_il 2),
  (true, 13, o_ia),
  (true, 14, o_il 1),
  (true, 15, o_ii (fun x y => x &&& y)),
  (true, 16, o_if (fun x => x = 0) 21),
  (true, 19, o_il 2),
  (true, 20, o_ir),
  (true, 21, o_inc 2 1),
  (true, 24, o_gb 2 []),
  (true, 27, o_ic (-1)),
  (true, 28, o_ir)]
set_option maxRecDepth 100000 in
set_option maxHeartbeats 4000000 in
theorem zk_X0_firstShort (kc ks : Nat) : z_OK (zS RX0 cX0_firstShort 3 "firstShort" (some .int) 0 0 kc ks) zp_X0_firstShort := by
  unfold zp_X0_firstShort
  refine And.intro (s_iconst dX0_firstShort_0 (by decide)) ?_
  refine And.intro (s_istore_n dX0_firstShort_1 rfl) ?_
  refine And.intro (s_mark) ?_
  refine And.intro (s_iload_n dX0_firstShort_2 rfl) ?_
  refine And.intro (s_bipush dX0_firstShort_3 (by decide)) ?_
  refine And.intro (s_icmp_ge dX0_firstShort_5 (by decide)) ?_
  refine And.intro (s_aload_n dX0_firstShort_8 rfl) ?_
  refine And.intro (s_getf (C := RX0) (T := TX0) (N := 6) rfl zin_X0 (by decide) zl_264 dX0_firstShort_9) ?_
  refine And.intro (s_iload_n dX0_firstShort_12 rfl) ?_
  refine And.intro (s_iaload dX0_firstShort_13) ?_
  refine And.intro (s_iload_n dX0_firstShort_14 rfl) ?_
  refine And.intro (s_iand dX0_firstShort_15) ?_
  refine And.intro (s_if_eq dX0_firstShort_16 (by decide)) ?_
  refine And.intro (s_iload_n dX0_firstShort_19 rfl) ?_
  refine And.intro (s_ireturn rfl (fun _ => rfl) dX0_firstShort_20) ?_
  refine And.intro (s_iinc dX0_firstShort_21 (by decide)) ?_
  refine And.intro (s_gotob dX0_firstShort_24 (by decide)) ?_
  refine And.intro (s_iconst dX0_firstShort_27 (by decide)) ?_
  refine And.intro (s_ireturn rfl (fun _ => rfl) dX0_firstShort_28) ?_
  exact trivial
def zp_X2_letter : List (Bool × Nat × zOp) := [
  (true, 0, o_il 2),
  (true, 1, o_ic 0),
  (true, 2, o_al 0),
  (true, 3, o_gf 2 3),
  (true, 6, o_il 1),
  (true, 7, o_ia),
  (true, 8, o_ic 1),
  (true, 9, o_ii (fun x y => x - y)),
  (true, 10, o_cs zi_X5_within 3),
  (true, 13, o_if (fun x => x = 0) 29),
  (true, 16, o_al 0),
  (true, 17, o_gf 2 4),
  (true, 20, o_il 1),
  (true, 21, o_ic 3),
  (true, 22, o_ii (fun x y => x * y)),
  (true, 23, o_il 2),
  (true, 24, o_ii (fun x y => x + y)),
  (true, 25, o_ia),
  (true, 26, o_go 30),
  (true, 29, o_ic (-1)),
  (true, 30, o_ir)]
set_option maxRecDepth 100000 in
set_option maxHeartbeats 4000000 in
theorem zk_X2_letter (kc ks : Nat) : z_OK (zS RX2 cX2_letter 3 "letter" (some .int) 1 22 kc ks) zp_X2_letter := by
  unfold zp_X2_letter
  refine And.intro (s_iload_n dX2_letter_0 rfl) ?_
  refine And.intro (s_iconst dX2_letter_1 (by decide)) ?_
  refine And.intro (s_aload_n dX2_letter_2 rfl) ?_
  refine And.intro (s_getf (C := RX2) (T := TX2) (N := 7) rfl zin_X2 (by decide) zl_163 dX2_letter_3) ?_
  refine And.intro (s_iload_n dX2_letter_6 rfl) ?_
  refine And.intro (s_iaload dX2_letter_7) ?_
  refine And.intro (s_iconst dX2_letter_8 (by decide)) ?_
  refine And.intro (s_isub dX2_letter_9) ?_
  refine And.intro (s_callSN zf_X5_within zl_353 zl_380 ⟨rfl, rfl⟩ dX2_letter_10) ?_
  refine And.intro (s_if_eq dX2_letter_13 (by decide)) ?_
  refine And.intro (s_aload_n dX2_letter_16 rfl) ?_
  refine And.intro (s_getf (C := RX2) (T := TX2) (N := 7) rfl zin_X2 (by decide) zl_165 dX2_letter_17) ?_
  refine And.intro (s_iload_n dX2_letter_20 rfl) ?_
  refine And.intro (s_iconst dX2_letter_21 (by decide)) ?_
  refine And.intro (s_imul dX2_letter_22) ?_
  refine And.intro (s_iload_n dX2_letter_23 rfl) ?_
  refine And.intro (s_iadd dX2_letter_24) ?_
  refine And.intro (s_iaload dX2_letter_25) ?_
  refine And.intro (s_goto dX2_letter_26 (by decide)) ?_
  refine And.intro (s_iconst dX2_letter_29 (by decide)) ?_
  refine And.intro (s_ireturn rfl (fun _ => rfl) dX2_letter_30) ?_
  exact trivial
def zp_X0_everShort : List (Bool × Nat × zOp) := [
  (true, 0, o_ic 0),
  (true, 1, o_is 1),
  (true, 2, o_ic 0),
  (true, 3, o_is 2),
  (false, 4, o_mark 4 []),
  (true, 4, o_il 2),
  (true, 5, o_ic 40),
  (true, 7, o_cmp (fun x y => y ≤ x) 25),
  (true, 10, o_il 1),
  (true, 11, o_al 0),
  (true, 12, o_gf 0 3),
  (true, 15, o_il 2),
  (true, 16, o_ia),
  (true, 17, o_ii (fun x y => x ||| y)),
  (true, 18, o_is 1),
  (true, 19, o_inc 2 1),
  (true, 22, o_gb 4 []),
  (true, 25, o_il 1),
  (true, 26, o_ir)]
set_option maxRecDepth 100000 in
set_option maxHeartbeats 4000000 in
theorem zk_X0_everShort (kc ks : Nat) : z_OK (zS RX0 cX0_everShort 3 "everShort" (some .int) 0 0 kc ks) zp_X0_everShort := by
  unfold zp_X0_everShort
  refine And.intro (s_iconst dX0_everShort_0 (by decide)) ?_
  refine And.intro (s_istore_n dX0_everShort_1 rfl) ?_
  refine And.intro (s_iconst dX0_everShort_2 (by decide)) ?_
  refine And.intro (s_istore_n dX0_everShort_3 rfl) ?_
  refine And.intro (s_mark) ?_
  refine And.intro (s_iload_n dX0_everShort_4 rfl) ?_
  refine And.intro (s_bipush dX0_everShort_5 (by decide)) ?_
  refine And.intro (s_icmp_ge dX0_everShort_7 (by decide)) ?_
  refine And.intro (s_iload_n dX0_everShort_10 rfl) ?_
  refine And.intro (s_aload_n dX0_everShort_11 rfl) ?_
  refine And.intro (s_getf (C := RX0) (T := TX0) (N := 6) rfl zin_X0 (by decide) zl_264 dX0_everShort_12) ?_
  refine And.intro (s_iload_n dX0_everShort_15 rfl) ?_
  refine And.intro (s_iaload dX0_everShort_16) ?_
  refine And.intro (s_ior dX0_everShort_17) ?_
  refine And.intro (s_istore_n dX0_everShort_18 rfl) ?_
  refine And.intro (s_iinc dX0_everShort_19 (by decide)) ?_
  refine And.intro (s_gotob dX0_everShort_22 (by decide)) ?_
  refine And.intro (s_iload_n dX0_everShort_25 rfl) ?_
  refine And.intro (s_ireturn rfl (fun _ => rfl) dX0_everShort_26) ?_
  exact trivial
def zp_J13_bitCount_95d88 : List (Bool × Nat × zOp) := [
  (true, 0, o_ll 0),
  (true, 1, o_ll 0),
  (true, 2, o_ic 1),
  (true, 3, o_js (fun x y => (x.toUInt64 >>> (y.toInt64.toUInt64 &&& Int64.toUInt64 63)).toInt64)),
  (true, 4, o_lc 6148914691236517205),
  (true, 7, o_jj (fun x y => x &&& y)),
  (true, 8, o_jj (fun x y => x - y)),
  (true, 9, o_ls 0),
  (true, 10, o_ll 0),
  (true, 11, o_lc 3689348814741910323),
  (true, 14, o_jj (fun x y => x &&& y)),
  (true, 15, o_ll 0),
  (true, 16, o_ic 2),
  (true, 17, o_js (fun x y => (x.toUInt64 >>> (y.toInt64.toUInt64 &&& Int64.toUInt64 63)).toInt64)),
  (true, 18, o_lc 3689348814741910323),
  (true, 21, o_jj (fun x y => x &&& y)),
  (true, 22, o_jj (fun x y => x + y)),
  (true, 23, o_ls 0),
  (true, 24, o_ll 0),
  (true, 25, o_ll 0),
  (true, 26, o_ic 4),
  (true, 27, o_js (fun x y => (x.toUInt64 >>> (y.toInt64.toUInt64 &&& Int64.toUInt64 63)).toInt64)),
  (true, 28, o_jj (fun x y => x + y)),
  (true, 29, o_lc 1085102592571150095),
  (true, 32, o_jj (fun x y => x &&& y)),
  (true, 33, o_ls 0),
  (true, 34, o_ll 0),
  (true, 35, o_ll 0),
  (true, 36, o_ic 8),
  (true, 38, o_js (fun x y => (x.toUInt64 >>> (y.toInt64.toUInt64 &&& Int64.toUInt64 63)).toInt64)),
  (true, 39, o_jj (fun x y => x + y)),
  (true, 40, o_ls 0),
  (true, 41, o_ll 0),
  (true, 42, o_ll 0),
  (true, 43, o_ic 16),
  (true, 45, o_js (fun x y => (x.toUInt64 >>> (y.toInt64.toUInt64 &&& Int64.toUInt64 63)).toInt64)),
  (true, 46, o_jj (fun x y => x + y)),
  (true, 47, o_ls 0),
  (true, 48, o_ll 0),
  (true, 49, o_ll 0),
  (true, 50, o_ic 32),
  (true, 52, o_js (fun x y => (x.toUInt64 >>> (y.toInt64.toUInt64 &&& Int64.toUInt64 63)).toInt64)),
  (true, 53, o_jj (fun x y => x + y)),
  (true, 54, o_ls 0),
  (true, 55, o_ll 0),
  (true, 56, o_l2i),
  (true, 57, o_ic 127),
  (true, 59, o_ii (fun x y => x &&& y)),
  (true, 60, o_ir)]
set_option maxRecDepth 100000 in
set_option maxHeartbeats 4000000 in
theorem zk_J13_bitCount_95d88 (kc ks : Nat) : z_OK (zS RJ13 cJ13_bitCount_95d88 2 "bitCount" (some .int) 0 0 kc ks) zp_J13_bitCount_95d88 := by
  unfold zp_J13_bitCount_95d88
  refine And.intro (s_lload_n dJ13_bitCount_95d88_0 rfl) ?_
  refine And.intro (s_lload_n dJ13_bitCount_95d88_1 rfl) ?_
  refine And.intro (s_iconst dJ13_bitCount_95d88_2 (by decide)) ?_
  refine And.intro (s_lushr dJ13_bitCount_95d88_3) ?_
  refine And.intro (s_ldc2 zl_627 dJ13_bitCount_95d88_4) ?_
  refine And.intro (s_land dJ13_bitCount_95d88_7) ?_
  refine And.intro (s_lsub dJ13_bitCount_95d88_8) ?_
  refine And.intro (s_lstore_n dJ13_bitCount_95d88_9 rfl) ?_
  refine And.intro (s_lload_n dJ13_bitCount_95d88_10 rfl) ?_
  refine And.intro (s_ldc2 zl_628 dJ13_bitCount_95d88_11) ?_
  refine And.intro (s_land dJ13_bitCount_95d88_14) ?_
  refine And.intro (s_lload_n dJ13_bitCount_95d88_15 rfl) ?_
  refine And.intro (s_iconst dJ13_bitCount_95d88_16 (by decide)) ?_
  refine And.intro (s_lushr dJ13_bitCount_95d88_17) ?_
  refine And.intro (s_ldc2 zl_628 dJ13_bitCount_95d88_18) ?_
  refine And.intro (s_land dJ13_bitCount_95d88_21) ?_
  refine And.intro (s_ladd dJ13_bitCount_95d88_22) ?_
  refine And.intro (s_lstore_n dJ13_bitCount_95d88_23 rfl) ?_
  refine And.intro (s_lload_n dJ13_bitCount_95d88_24 rfl) ?_
  refine And.intro (s_lload_n dJ13_bitCount_95d88_25 rfl) ?_
  refine And.intro (s_iconst dJ13_bitCount_95d88_26 (by decide)) ?_
  refine And.intro (s_lushr dJ13_bitCount_95d88_27) ?_
  refine And.intro (s_ladd dJ13_bitCount_95d88_28) ?_
  refine And.intro (s_ldc2 zl_629 dJ13_bitCount_95d88_29) ?_
  refine And.intro (s_land dJ13_bitCount_95d88_32) ?_
  refine And.intro (s_lstore_n dJ13_bitCount_95d88_33 rfl) ?_
  refine And.intro (s_lload_n dJ13_bitCount_95d88_34 rfl) ?_
  refine And.intro (s_lload_n dJ13_bitCount_95d88_35 rfl) ?_
  refine And.intro (s_bipush dJ13_bitCount_95d88_36 (by decide)) ?_
  refine And.intro (s_lushr dJ13_bitCount_95d88_38) ?_
  refine And.intro (s_ladd dJ13_bitCount_95d88_39) ?_
  refine And.intro (s_lstore_n dJ13_bitCount_95d88_40 rfl) ?_
  refine And.intro (s_lload_n dJ13_bitCount_95d88_41 rfl) ?_
  refine And.intro (s_lload_n dJ13_bitCount_95d88_42 rfl) ?_
  refine And.intro (s_bipush dJ13_bitCount_95d88_43 (by decide)) ?_
  refine And.intro (s_lushr dJ13_bitCount_95d88_45) ?_
  refine And.intro (s_ladd dJ13_bitCount_95d88_46) ?_
  refine And.intro (s_lstore_n dJ13_bitCount_95d88_47 rfl) ?_
  refine And.intro (s_lload_n dJ13_bitCount_95d88_48 rfl) ?_
  refine And.intro (s_lload_n dJ13_bitCount_95d88_49 rfl) ?_
  refine And.intro (s_bipush dJ13_bitCount_95d88_50 (by decide)) ?_
  refine And.intro (s_lushr dJ13_bitCount_95d88_52) ?_
  refine And.intro (s_ladd dJ13_bitCount_95d88_53) ?_
  refine And.intro (s_lstore_n dJ13_bitCount_95d88_54 rfl) ?_
  refine And.intro (s_lload_n dJ13_bitCount_95d88_55 rfl) ?_
  refine And.intro (s_l2i dJ13_bitCount_95d88_56) ?_
  refine And.intro (s_bipush dJ13_bitCount_95d88_57 (by decide)) ?_
  refine And.intro (s_iand dJ13_bitCount_95d88_59) ?_
  refine And.intro (s_ireturn rfl (fun _ => rfl) dJ13_bitCount_95d88_60) ?_
  exact trivial
def zp_J6_numberOfLeadingZeros_0f7a4 : List (Bool × Nat × zOp) := [
  (true, 0, o_il 0),
  (true, 1, o_if (fun x => 0 < x) 15),
  (true, 4, o_il 0),
  (true, 5, o_in (fun x => x = 0) 13),
  (true, 8, o_ic 32),
  (true, 10, o_go 14),
  (true, 13, o_ic 0),
  (true, 14, o_ir),
  (true, 15, o_ic 31),
  (true, 17, o_is 1),
  (true, 18, o_il 0),
  (true, 19, o_ic 65536),
  (true, 22, o_cmp (fun x y => x < y) 33),
  (true, 25, o_inc 1 (-16)),
  (true, 28, o_il 0),
  (true, 29, o_ic 16),
  (true, 31, o_ii (fun x y => (x.toUInt32 >>> (y.toUInt32 &&& Int32.toUInt32 31)).toInt32)),
  (true, 32, o_is 0),
  (true, 33, o_il 0),
  (true, 34, o_ic 256),
  (true, 37, o_cmp (fun x y => x < y) 48),
  (true, 40, o_inc 1 (-8)),
  (true, 43, o_il 0),
  (true, 44, o_ic 8),
  (true, 46, o_ii (fun x y => (x.toUInt32 >>> (y.toUInt32 &&& Int32.toUInt32 31)).toInt32)),
  (true, 47, o_is 0),
  (true, 48, o_il 0),
  (true, 49, o_ic 16),
  (true, 51, o_cmp (fun x y => x < y) 61),
  (true, 54, o_inc 1 (-4)),
  (true, 57, o_il 0),
  (true, 58, o_ic 4),
  (true, 59, o_ii (fun x y => (x.toUInt32 >>> (y.toUInt32 &&& Int32.toUInt32 31)).toInt32)),
  (true, 60, o_is 0),
  (true, 61, o_il 0),
  (true, 62, o_ic 4),
  (true, 63, o_cmp (fun x y => x < y) 73),
  (true, 66, o_inc 1 (-2)),
  (true, 69, o_il 0),
  (true, 70, o_ic 2),
  (true, 71, o_ii (fun x y => (x.toUInt32 >>> (y.toUInt32 &&& Int32.toUInt32 31)).toInt32)),
  (true, 72, o_is 0),
  (true, 73, o_il 1),
  (true, 74, o_il 0),
  (true, 75, o_ic 1),
  (true, 76, o_ii (fun x y => (x.toUInt32 >>> (y.toUInt32 &&& Int32.toUInt32 31)).toInt32)),
  (true, 77, o_ii (fun x y => x - y)),
  (true, 78, o_ir)]
set_option maxRecDepth 100000 in
set_option maxHeartbeats 4000000 in
theorem zk_J6_numberOfLeadingZeros_0f7a4 (kc ks : Nat) : z_OK (zS RJ6 cJ6_numberOfLeadingZeros_0f7a4 2 "numberOfLeadingZeros" (some .int) 0 0 kc ks) zp_J6_numberOfLeadingZeros_0f7a4 := by
  unfold zp_J6_numberOfLeadingZeros_0f7a4
  refine And.intro (s_iload_n dJ6_numberOfLeadingZeros_0f7a4_0 rfl) ?_
  refine And.intro (s_if_gt dJ6_numberOfLeadingZeros_0f7a4_1 (by decide)) ?_
  refine And.intro (s_iload_n dJ6_numberOfLeadingZeros_0f7a4_4 rfl) ?_
  refine And.intro (s_if_ne dJ6_numberOfLeadingZeros_0f7a4_5 (by decide)) ?_
  refine And.intro (s_bipush dJ6_numberOfLeadingZeros_0f7a4_8 (by decide)) ?_
  refine And.intro (s_goto dJ6_numberOfLeadingZeros_0f7a4_10 (by decide)) ?_
  refine And.intro (s_iconst dJ6_numberOfLeadingZeros_0f7a4_13 (by decide)) ?_
  refine And.intro (s_ireturn rfl (fun _ => rfl) dJ6_numberOfLeadingZeros_0f7a4_14) ?_
  refine And.intro (s_bipush dJ6_numberOfLeadingZeros_0f7a4_15 (by decide)) ?_
  refine And.intro (s_istore_n dJ6_numberOfLeadingZeros_0f7a4_17 rfl) ?_
  refine And.intro (s_iload_n dJ6_numberOfLeadingZeros_0f7a4_18 rfl) ?_
  refine And.intro (s_ldcw zl_636 dJ6_numberOfLeadingZeros_0f7a4_19) ?_
  refine And.intro (s_icmp_lt dJ6_numberOfLeadingZeros_0f7a4_22 (by decide)) ?_
  refine And.intro (s_iinc dJ6_numberOfLeadingZeros_0f7a4_25 (by decide)) ?_
  refine And.intro (s_iload_n dJ6_numberOfLeadingZeros_0f7a4_28 rfl) ?_
  refine And.intro (s_bipush dJ6_numberOfLeadingZeros_0f7a4_29 (by decide)) ?_
  refine And.intro (s_iushr dJ6_numberOfLeadingZeros_0f7a4_31) ?_
  refine And.intro (s_istore_n dJ6_numberOfLeadingZeros_0f7a4_32 rfl) ?_
  refine And.intro (s_iload_n dJ6_numberOfLeadingZeros_0f7a4_33 rfl) ?_
  refine And.intro (s_sipush dJ6_numberOfLeadingZeros_0f7a4_34 (by decide)) ?_
  refine And.intro (s_icmp_lt dJ6_numberOfLeadingZeros_0f7a4_37 (by decide)) ?_
  refine And.intro (s_iinc dJ6_numberOfLeadingZeros_0f7a4_40 (by decide)) ?_
  refine And.intro (s_iload_n dJ6_numberOfLeadingZeros_0f7a4_43 rfl) ?_
  refine And.intro (s_bipush dJ6_numberOfLeadingZeros_0f7a4_44 (by decide)) ?_
  refine And.intro (s_iushr dJ6_numberOfLeadingZeros_0f7a4_46) ?_
  refine And.intro (s_istore_n dJ6_numberOfLeadingZeros_0f7a4_47 rfl) ?_
  refine And.intro (s_iload_n dJ6_numberOfLeadingZeros_0f7a4_48 rfl) ?_
  refine And.intro (s_bipush dJ6_numberOfLeadingZeros_0f7a4_49 (by decide)) ?_
  refine And.intro (s_icmp_lt dJ6_numberOfLeadingZeros_0f7a4_51 (by decide)) ?_
  refine And.intro (s_iinc dJ6_numberOfLeadingZeros_0f7a4_54 (by decide)) ?_
  refine And.intro (s_iload_n dJ6_numberOfLeadingZeros_0f7a4_57 rfl) ?_
  refine And.intro (s_iconst dJ6_numberOfLeadingZeros_0f7a4_58 (by decide)) ?_
  refine And.intro (s_iushr dJ6_numberOfLeadingZeros_0f7a4_59) ?_
  refine And.intro (s_istore_n dJ6_numberOfLeadingZeros_0f7a4_60 rfl) ?_
  refine And.intro (s_iload_n dJ6_numberOfLeadingZeros_0f7a4_61 rfl) ?_
  refine And.intro (s_iconst dJ6_numberOfLeadingZeros_0f7a4_62 (by decide)) ?_
  refine And.intro (s_icmp_lt dJ6_numberOfLeadingZeros_0f7a4_63 (by decide)) ?_
  refine And.intro (s_iinc dJ6_numberOfLeadingZeros_0f7a4_66 (by decide)) ?_
  refine And.intro (s_iload_n dJ6_numberOfLeadingZeros_0f7a4_69 rfl) ?_
  refine And.intro (s_iconst dJ6_numberOfLeadingZeros_0f7a4_70 (by decide)) ?_
  refine And.intro (s_iushr dJ6_numberOfLeadingZeros_0f7a4_71) ?_
  refine And.intro (s_istore_n dJ6_numberOfLeadingZeros_0f7a4_72 rfl) ?_
  refine And.intro (s_iload_n dJ6_numberOfLeadingZeros_0f7a4_73 rfl) ?_
  refine And.intro (s_iload_n dJ6_numberOfLeadingZeros_0f7a4_74 rfl) ?_
  refine And.intro (s_iconst dJ6_numberOfLeadingZeros_0f7a4_75 (by decide)) ?_
  refine And.intro (s_iushr dJ6_numberOfLeadingZeros_0f7a4_76) ?_
  refine And.intro (s_isub dJ6_numberOfLeadingZeros_0f7a4_77) ?_
  refine And.intro (s_ireturn rfl (fun _ => rfl) dJ6_numberOfLeadingZeros_0f7a4_78) ?_
  exact trivial
def zp_J13_numberOfLeadingZeros_95d88 : List (Bool × Nat × zOp) := [
  (true, 0, o_ll 0),
  (true, 1, o_ic 32),
  (true, 3, o_js (fun x y => (x.toUInt64 >>> (y.toInt64.toUInt64 &&& Int64.toUInt64 63)).toInt64)),
  (true, 4, o_l2i),
  (true, 5, o_is 2),
  (true, 6, o_il 2),
  (true, 7, o_in (fun x => x = 0) 21),
  (true, 10, o_ic 32),
  (true, 12, o_ll 0),
  (true, 13, o_l2i),
  (true, 14, o_cs zi_J6_numberOfLeadingZeros_0f7a4 1),
  (true, 17, o_ii (fun x y => x + y)),
  (true, 18, o_go 25),
  (true, 21, o_il 2),
  (true, 22, o_cs zi_J6_numberOfLeadingZeros_0f7a4 1),
  (true, 25, o_ir)]
set_option maxRecDepth 100000 in
set_option maxHeartbeats 4000000 in
theorem zk_J13_numberOfLeadingZeros_95d88 (kc ks : Nat) : z_OK (zS RJ13 cJ13_numberOfLeadingZeros_95d88 3 "numberOfLeadingZeros" (some .int) 1 21 kc ks) zp_J13_numberOfLeadingZeros_95d88 := by
  unfold zp_J13_numberOfLeadingZeros_95d88
  refine And.intro (s_lload_n dJ13_numberOfLeadingZeros_95d88_0 rfl) ?_
  refine And.intro (s_bipush dJ13_numberOfLeadingZeros_95d88_1 (by decide)) ?_
  refine And.intro (s_lushr dJ13_numberOfLeadingZeros_95d88_3) ?_
  refine And.intro (s_l2i dJ13_numberOfLeadingZeros_95d88_4) ?_
  refine And.intro (s_istore_n dJ13_numberOfLeadingZeros_95d88_5 rfl) ?_
  refine And.intro (s_iload_n dJ13_numberOfLeadingZeros_95d88_6 rfl) ?_
  refine And.intro (s_if_ne dJ13_numberOfLeadingZeros_95d88_7 (by decide)) ?_
  refine And.intro (s_bipush dJ13_numberOfLeadingZeros_95d88_10 (by decide)) ?_
  refine And.intro (s_lload_n dJ13_numberOfLeadingZeros_95d88_12 rfl) ?_
  refine And.intro (s_l2i dJ13_numberOfLeadingZeros_95d88_13) ?_
  refine And.intro (s_callS zf_J6_numberOfLeadingZeros_0f7a4 zl_641 zl_640 ⟨rfl, rfl⟩ dJ13_numberOfLeadingZeros_95d88_14) ?_
  refine And.intro (s_iadd dJ13_numberOfLeadingZeros_95d88_17) ?_
  refine And.intro (s_goto dJ13_numberOfLeadingZeros_95d88_18 (by decide)) ?_
  refine And.intro (s_iload_n dJ13_numberOfLeadingZeros_95d88_21 rfl) ?_
  refine And.intro (s_callS zf_J6_numberOfLeadingZeros_0f7a4 zl_641 zl_640 ⟨rfl, rfl⟩ dJ13_numberOfLeadingZeros_95d88_22) ?_
  refine And.intro (s_ireturn rfl (fun _ => rfl) dJ13_numberOfLeadingZeros_95d88_25) ?_
  exact trivial
def zp_J6_numberOfTrailingZeros_0f7a4 : List (Bool × Nat × zOp) := [
  (true, 0, o_il 0),
  (true, 1, o_ic (-1)),
  (true, 2, o_ii (fun x y => x ^^^ y)),
  (true, 3, o_il 0),
  (true, 4, o_ic 1),
  (true, 5, o_ii (fun x y => x - y)),
  (true, 6, o_ii (fun x y => x &&& y)),
  (true, 7, o_is 0),
  (true, 8, o_il 0),
  (true, 9, o_if (fun x => 0 < x) 17),
  (true, 12, o_il 0),
  (true, 13, o_ic 32),
  (true, 15, o_ii (fun x y => x &&& y)),
  (true, 16, o_ir),
  (true, 17, o_ic 1),
  (true, 18, o_is 1),
  (true, 19, o_il 0),
  (true, 20, o_ic 65536),
  (true, 23, o_cmp (fun x y => x ≤ y) 34),
  (true, 26, o_inc 1 16),
  (true, 29, o_il 0),
  (true, 30, o_ic 16),
  (true, 32, o_ii (fun x y => (x.toUInt32 >>> (y.toUInt32 &&& Int32.toUInt32 31)).toInt32)),
  (true, 33, o_is 0),
  (true, 34, o_il 0),
  (true, 35, o_ic 256),
  (true, 38, o_cmp (fun x y => x ≤ y) 49),
  (true, 41, o_inc 1 8),
  (true, 44, o_il 0),
  (true, 45, o_ic 8),
  (true, 47, o_ii (fun x y => (x.toUInt32 >>> (y.toUInt32 &&& Int32.toUInt32 31)).toInt32)),
  (true, 48, o_is 0),
  (true, 49, o_il 0),
  (true, 50, o_ic 16),
  (true, 52, o_cmp (fun x y => x ≤ y) 62),
  (true, 55, o_inc 1 4),
  (true, 58, o_il 0),
  (true, 59, o_ic 4),
  (true, 60, o_ii (fun x y => (x.toUInt32 >>> (y.toUInt32 &&& Int32.toUInt32 31)).toInt32)),
  (true, 61, o_is 0),
  (true, 62, o_il 0),
  (true, 63, o_ic 4),
  (true, 64, o_cmp (fun x y => x ≤ y) 74),
  (true, 67, o_inc 1 2),
  (true, 70, o_il 0),
  (true, 71, o_ic 2),
  (true, 72, o_ii (fun x y => (x.toUInt32 >>> (y.toUInt32 &&& Int32.toUInt32 31)).toInt32)),
  (true, 73, o_is 0),
  (true, 74, o_il 1),
  (true, 75, o_il 0),
  (true, 76, o_ic 1),
  (true, 77, o_ii (fun x y => (x.toUInt32 >>> (y.toUInt32 &&& Int32.toUInt32 31)).toInt32)),
  (true, 78, o_ii (fun x y => x + y)),
  (true, 79, o_ir)]
set_option maxRecDepth 100000 in
set_option maxHeartbeats 4000000 in
theorem zk_J6_numberOfTrailingZeros_0f7a4 (kc ks : Nat) : z_OK (zS RJ6 cJ6_numberOfTrailingZeros_0f7a4 2 "numberOfTrailingZeros" (some .int) 0 0 kc ks) zp_J6_numberOfTrailingZeros_0f7a4 := by
  unfold zp_J6_numberOfTrailingZeros_0f7a4
  refine And.intro (s_iload_n dJ6_numberOfTrailingZeros_0f7a4_0 rfl) ?_
  refine And.intro (s_iconst dJ6_numberOfTrailingZeros_0f7a4_1 (by decide)) ?_
  refine And.intro (s_ixor dJ6_numberOfTrailingZeros_0f7a4_2) ?_
  refine And.intro (s_iload_n dJ6_numberOfTrailingZeros_0f7a4_3 rfl) ?_
  refine And.intro (s_iconst dJ6_numberOfTrailingZeros_0f7a4_4 (by decide)) ?_
  refine And.intro (s_isub dJ6_numberOfTrailingZeros_0f7a4_5) ?_
  refine And.intro (s_iand dJ6_numberOfTrailingZeros_0f7a4_6) ?_
  refine And.intro (s_istore_n dJ6_numberOfTrailingZeros_0f7a4_7 rfl) ?_
  refine And.intro (s_iload_n dJ6_numberOfTrailingZeros_0f7a4_8 rfl) ?_
  refine And.intro (s_if_gt dJ6_numberOfTrailingZeros_0f7a4_9 (by decide)) ?_
  refine And.intro (s_iload_n dJ6_numberOfTrailingZeros_0f7a4_12 rfl) ?_
  refine And.intro (s_bipush dJ6_numberOfTrailingZeros_0f7a4_13 (by decide)) ?_
  refine And.intro (s_iand dJ6_numberOfTrailingZeros_0f7a4_15) ?_
  refine And.intro (s_ireturn rfl (fun _ => rfl) dJ6_numberOfTrailingZeros_0f7a4_16) ?_
  refine And.intro (s_iconst dJ6_numberOfTrailingZeros_0f7a4_17 (by decide)) ?_
  refine And.intro (s_istore_n dJ6_numberOfTrailingZeros_0f7a4_18 rfl) ?_
  refine And.intro (s_iload_n dJ6_numberOfTrailingZeros_0f7a4_19 rfl) ?_
  refine And.intro (s_ldcw zl_636 dJ6_numberOfTrailingZeros_0f7a4_20) ?_
  refine And.intro (s_icmp_le dJ6_numberOfTrailingZeros_0f7a4_23 (by decide)) ?_
  refine And.intro (s_iinc dJ6_numberOfTrailingZeros_0f7a4_26 (by decide)) ?_
  refine And.intro (s_iload_n dJ6_numberOfTrailingZeros_0f7a4_29 rfl) ?_
  refine And.intro (s_bipush dJ6_numberOfTrailingZeros_0f7a4_30 (by decide)) ?_
  refine And.intro (s_iushr dJ6_numberOfTrailingZeros_0f7a4_32) ?_
  refine And.intro (s_istore_n dJ6_numberOfTrailingZeros_0f7a4_33 rfl) ?_
  refine And.intro (s_iload_n dJ6_numberOfTrailingZeros_0f7a4_34 rfl) ?_
  refine And.intro (s_sipush dJ6_numberOfTrailingZeros_0f7a4_35 (by decide)) ?_
  refine And.intro (s_icmp_le dJ6_numberOfTrailingZeros_0f7a4_38 (by decide)) ?_
  refine And.intro (s_iinc dJ6_numberOfTrailingZeros_0f7a4_41 (by decide)) ?_
  refine And.intro (s_iload_n dJ6_numberOfTrailingZeros_0f7a4_44 rfl) ?_
  refine And.intro (s_bipush dJ6_numberOfTrailingZeros_0f7a4_45 (by decide)) ?_
  refine And.intro (s_iushr dJ6_numberOfTrailingZeros_0f7a4_47) ?_
  refine And.intro (s_istore_n dJ6_numberOfTrailingZeros_0f7a4_48 rfl) ?_
  refine And.intro (s_iload_n dJ6_numberOfTrailingZeros_0f7a4_49 rfl) ?_
  refine And.intro (s_bipush dJ6_numberOfTrailingZeros_0f7a4_50 (by decide)) ?_
  refine And.intro (s_icmp_le dJ6_numberOfTrailingZeros_0f7a4_52 (by decide)) ?_
  refine And.intro (s_iinc dJ6_numberOfTrailingZeros_0f7a4_55 (by decide)) ?_
  refine And.intro (s_iload_n dJ6_numberOfTrailingZeros_0f7a4_58 rfl) ?_
  refine And.intro (s_iconst dJ6_numberOfTrailingZeros_0f7a4_59 (by decide)) ?_
  refine And.intro (s_iushr dJ6_numberOfTrailingZeros_0f7a4_60) ?_
  refine And.intro (s_istore_n dJ6_numberOfTrailingZeros_0f7a4_61 rfl) ?_
  refine And.intro (s_iload_n dJ6_numberOfTrailingZeros_0f7a4_62 rfl) ?_
  refine And.intro (s_iconst dJ6_numberOfTrailingZeros_0f7a4_63 (by decide)) ?_
  refine And.intro (s_icmp_le dJ6_numberOfTrailingZeros_0f7a4_64 (by decide)) ?_
  refine And.intro (s_iinc dJ6_numberOfTrailingZeros_0f7a4_67 (by decide)) ?_
  refine And.intro (s_iload_n dJ6_numberOfTrailingZeros_0f7a4_70 rfl) ?_
  refine And.intro (s_iconst dJ6_numberOfTrailingZeros_0f7a4_71 (by decide)) ?_
  refine And.intro (s_iushr dJ6_numberOfTrailingZeros_0f7a4_72) ?_
  refine And.intro (s_istore_n dJ6_numberOfTrailingZeros_0f7a4_73 rfl) ?_
  refine And.intro (s_iload_n dJ6_numberOfTrailingZeros_0f7a4_74 rfl) ?_
  refine And.intro (s_iload_n dJ6_numberOfTrailingZeros_0f7a4_75 rfl) ?_
  refine And.intro (s_iconst dJ6_numberOfTrailingZeros_0f7a4_76 (by decide)) ?_
  refine And.intro (s_iushr dJ6_numberOfTrailingZeros_0f7a4_77) ?_
  refine And.intro (s_iadd dJ6_numberOfTrailingZeros_0f7a4_78) ?_
  refine And.intro (s_ireturn rfl (fun _ => rfl) dJ6_numberOfTrailingZeros_0f7a4_79) ?_
  exact trivial
def zp_J13_numberOfTrailingZeros_95d88 : List (Bool × Nat × zOp) := [
  (true, 0, o_ll 0),
  (true, 1, o_l2i),
  (true, 2, o_is 2),
  (true, 3, o_il 2),
  (true, 4, o_in (fun x => x = 0) 21),
  (true, 7, o_ic 32),
  (true, 9, o_ll 0),
  (true, 10, o_ic 32),
  (true, 12, o_js (fun x y => (x.toUInt64 >>> (y.toInt64.toUInt64 &&& Int64.toUInt64 63)).toInt64)),
  (true, 13, o_l2i),
  (true, 14, o_cs zi_J6_numberOfTrailingZeros_0f7a4 1),
  (true, 17, o_ii (fun x y => x + y)),
  (true, 18, o_go 25),
  (true, 21, o_il 2),
  (true, 22, o_cs zi_J6_numberOfTrailingZeros_0f7a4 1),
  (true, 25, o_ir)]
set_option maxRecDepth 100000 in
set_option maxHeartbeats 4000000 in
theorem zk_J13_numberOfTrailingZeros_95d88 (kc ks : Nat) : z_OK (zS RJ13 cJ13_numberOfTrailingZeros_95d88 3 "numberOfTrailingZeros" (some .int) 1 21 kc ks) zp_J13_numberOfTrailingZeros_95d88 := by
  unfold zp_J13_numberOfTrailingZeros_95d88
  refine And.intro (s_lload_n dJ13_numberOfTrailingZeros_95d88_0 rfl) ?_
  refine And.intro (s_l2i dJ13_numberOfTrailingZeros_95d88_1) ?_
  refine And.intro (s_istore_n dJ13_numberOfTrailingZeros_95d88_2 rfl) ?_
  refine And.intro (s_iload_n dJ13_numberOfTrailingZeros_95d88_3 rfl) ?_
  refine And.intro (s_if_ne dJ13_numberOfTrailingZeros_95d88_4 (by decide)) ?_
  refine And.intro (s_bipush dJ13_numberOfTrailingZeros_95d88_7 (by decide)) ?_
  refine And.intro (s_lload_n dJ13_numberOfTrailingZeros_95d88_9 rfl) ?_
  refine And.intro (s_bipush dJ13_numberOfTrailingZeros_95d88_10 (by decide)) ?_
  refine And.intro (s_lushr dJ13_numberOfTrailingZeros_95d88_12) ?_
  refine And.intro (s_l2i dJ13_numberOfTrailingZeros_95d88_13) ?_
  refine And.intro (s_callS zf_J6_numberOfTrailingZeros_0f7a4 zl_634 zl_633 ⟨rfl, rfl⟩ dJ13_numberOfTrailingZeros_95d88_14) ?_
  refine And.intro (s_iadd dJ13_numberOfTrailingZeros_95d88_17) ?_
  refine And.intro (s_goto dJ13_numberOfTrailingZeros_95d88_18 (by decide)) ?_
  refine And.intro (s_iload_n dJ13_numberOfTrailingZeros_95d88_21 rfl) ?_
  refine And.intro (s_callS zf_J6_numberOfTrailingZeros_0f7a4 zl_634 zl_633 ⟨rfl, rfl⟩ dJ13_numberOfTrailingZeros_95d88_22) ?_
  refine And.intro (s_ireturn rfl (fun _ => rfl) dJ13_numberOfTrailingZeros_95d88_25) ?_
  exact trivial
def zp_X1_item : List (Bool × Nat × zOp) := [
  (true, 0, o_al 0),
  (true, 1, o_il 1),
  (true, 2, o_il 2),
  (true, 3, o_ic 1),
  (true, 4, o_cv zi_X1_has 3 1),
  (true, 7, o_if (fun x => x = 0) 24),
  (true, 10, o_al 0),
  (true, 11, o_gf 1 2),
  (true, 14, o_il 1),
  (true, 15, o_ic 60),
  (true, 17, o_ii (fun x y => x * y)),
  (true, 18, o_il 2),
  (true, 19, o_ii (fun x y => x + y)),
  (true, 20, o_ia),
  (true, 21, o_go 25),
  (true, 24, o_ic (-1)),
  (true, 25, o_ir)]
set_option maxRecDepth 100000 in
set_option maxHeartbeats 4000000 in
theorem zk_X1_item (kc ks : Nat) : z_OK (zS RX1 cX1_item 3 "item" (some .int) 1 23 kc ks) zp_X1_item := by
  unfold zp_X1_item
  refine And.intro (s_aload_n dX1_item_0 rfl) ?_
  refine And.intro (s_iload_n dX1_item_1 rfl) ?_
  refine And.intro (s_iload_n dX1_item_2 rfl) ?_
  refine And.intro (s_iconst dX1_item_3 (by decide)) ?_
  refine And.intro (s_callV (C := RX1) (T := TX1) (N := 3) rfl zf_X1_has zg_X1_has zl_480 ⟨rfl, rfl⟩ dX1_item_4) ?_
  refine And.intro (s_if_eq dX1_item_7 (by decide)) ?_
  refine And.intro (s_aload_n dX1_item_10 rfl) ?_
  refine And.intro (s_getf (C := RX1) (T := TX1) (N := 3) rfl zin_X1 (by decide) zl_291 dX1_item_11) ?_
  refine And.intro (s_iload_n dX1_item_14 rfl) ?_
  refine And.intro (s_bipush dX1_item_15 (by decide)) ?_
  refine And.intro (s_imul dX1_item_17) ?_
  refine And.intro (s_iload_n dX1_item_18 rfl) ?_
  refine And.intro (s_iadd dX1_item_19) ?_
  refine And.intro (s_iaload dX1_item_20) ?_
  refine And.intro (s_goto dX1_item_21 (by decide)) ?_
  refine And.intro (s_iconst dX1_item_24 (by decide)) ?_
  refine And.intro (s_ireturn rfl (fun _ => rfl) dX1_item_25) ?_
  exact trivial
def zp_X4_addLeak : List (Bool × Nat × zOp) := [
  (true, 0, o_al 0),
  (true, 1, o_gf 4 9),
  (true, 4, o_ic 6),
  (true, 6, o_cmp (fun x y => y ≤ x) 49),
  (true, 9, o_al 0),
  (true, 10, o_gf 4 6),
  (true, 13, o_al 0),
  (true, 14, o_gf 4 9),
  (true, 17, o_il 1),
  (true, 18, o_iw),
  (true, 19, o_al 0),
  (true, 20, o_gf 4 7),
  (true, 23, o_al 0),
  (true, 24, o_gf 4 9),
  (true, 27, o_il 2),
  (true, 28, o_iw),
  (true, 29, o_al 0),
  (true, 30, o_gf 4 8),
  (true, 33, o_al 0),
  (true, 34, o_gf 4 9),
  (true, 37, o_il 3),
  (true, 38, o_iw),
  (true, 39, o_al 0),
  (true, 40, o_dup),
  (true, 41, o_gf 4 9),
  (true, 44, o_ic 1),
  (true, 45, o_ii (fun x y => x + y)),
  (true, 46, o_pi 4 9),
  (true, 49, o_vr)]
set_option maxRecDepth 100000 in
set_option maxHeartbeats 4000000 in
theorem zk_X4_addLeak (kc ks : Nat) : z_OK (zS RX4 cX4_addLeak 4 "addLeak" none 0 0 kc ks) zp_X4_addLeak := by
  unfold zp_X4_addLeak
  refine And.intro (s_aload_n dX4_addLeak_0 rfl) ?_
  refine And.intro (s_getf (C := RX4) (T := TX4) (N := 16) rfl zin_X4 (by decide) zl_207 dX4_addLeak_1) ?_
  refine And.intro (s_bipush dX4_addLeak_4 (by decide)) ?_
  refine And.intro (s_icmp_ge dX4_addLeak_6 (by decide)) ?_
  refine And.intro (s_aload_n dX4_addLeak_9 rfl) ?_
  refine And.intro (s_getf (C := RX4) (T := TX4) (N := 16) rfl zin_X4 (by decide) zl_204 dX4_addLeak_10) ?_
  refine And.intro (s_aload_n dX4_addLeak_13 rfl) ?_
  refine And.intro (s_getf (C := RX4) (T := TX4) (N := 16) rfl zin_X4 (by decide) zl_207 dX4_addLeak_14) ?_
  refine And.intro (s_iload_n dX4_addLeak_17 rfl) ?_
  refine And.intro (s_iastore dX4_addLeak_18) ?_
  refine And.intro (s_aload_n dX4_addLeak_19 rfl) ?_
  refine And.intro (s_getf (C := RX4) (T := TX4) (N := 16) rfl zin_X4 (by decide) zl_205 dX4_addLeak_20) ?_
  refine And.intro (s_aload_n dX4_addLeak_23 rfl) ?_
  refine And.intro (s_getf (C := RX4) (T := TX4) (N := 16) rfl zin_X4 (by decide) zl_207 dX4_addLeak_24) ?_
  refine And.intro (s_iload_n dX4_addLeak_27 rfl) ?_
  refine And.intro (s_iastore dX4_addLeak_28) ?_
  refine And.intro (s_aload_n dX4_addLeak_29 rfl) ?_
  refine And.intro (s_getf (C := RX4) (T := TX4) (N := 16) rfl zin_X4 (by decide) zl_206 dX4_addLeak_30) ?_
  refine And.intro (s_aload_n dX4_addLeak_33 rfl) ?_
  refine And.intro (s_getf (C := RX4) (T := TX4) (N := 16) rfl zin_X4 (by decide) zl_207 dX4_addLeak_34) ?_
  refine And.intro (s_iload_n dX4_addLeak_37 rfl) ?_
  refine And.intro (s_iastore dX4_addLeak_38) ?_
  refine And.intro (s_aload_n dX4_addLeak_39 rfl) ?_
  refine And.intro (s_dup dX4_addLeak_40) ?_
  refine And.intro (s_getf (C := RX4) (T := TX4) (N := 16) rfl zin_X4 (by decide) zl_207 dX4_addLeak_41) ?_
  refine And.intro (s_iconst dX4_addLeak_44 (by decide)) ?_
  refine And.intro (s_iadd dX4_addLeak_45) ?_
  refine And.intro (s_putI (C := RX4) (T := TX4) (N := 16) rfl zin_X4 (by decide) tyX4 tyX4_ok nmX4 zl_207 rfl (by decide +kernel) dX4_addLeak_46) ?_
  refine And.intro (s_vreturn rfl dX4_addLeak_49) ?_
  exact trivial
def zp_X1_drop : List (Bool × Nat × zOp) := [
  (true, 0, o_al 0),
  (true, 1, o_gf 1 0),
  (true, 4, o_il 1),
  (true, 5, o_ic (-1)),
  (true, 6, o_iw),
  (true, 7, o_al 0),
  (true, 8, o_gf 1 1),
  (true, 11, o_il 1),
  (true, 12, o_ic 0),
  (true, 13, o_iw),
  (true, 14, o_vr)]
set_option maxRecDepth 100000 in
set_option maxHeartbeats 4000000 in
theorem zk_X1_drop (kc ks : Nat) : z_OK (zS RX1 cX1_drop 2 "drop" none 0 0 kc ks) zp_X1_drop := by
  unfold zp_X1_drop
  refine And.intro (s_aload_n dX1_drop_0 rfl) ?_
  refine And.intro (s_getf (C := RX1) (T := TX1) (N := 3) rfl zin_X1 (by decide) zl_287 dX1_drop_1) ?_
  refine And.intro (s_iload_n dX1_drop_4 rfl) ?_
  refine And.intro (s_iconst dX1_drop_5 (by decide)) ?_
  refine And.intro (s_iastore dX1_drop_6) ?_
  refine And.intro (s_aload_n dX1_drop_7 rfl) ?_
  refine And.intro (s_getf (C := RX1) (T := TX1) (N := 3) rfl zin_X1 (by decide) zl_289 dX1_drop_8) ?_
  refine And.intro (s_iload_n dX1_drop_11 rfl) ?_
  refine And.intro (s_iconst dX1_drop_12 (by decide)) ?_
  refine And.intro (s_iastore dX1_drop_13) ?_
  refine And.intro (s_vreturn rfl dX1_drop_14) ?_
  exact trivial
def zp_X4_addPinch : List (Bool × Nat × zOp) := [
  (true, 0, o_al 0),
  (true, 1, o_gf 4 13),
  (true, 4, o_ic 6),
  (true, 6, o_cmp (fun x y => y ≤ x) 39),
  (true, 9, o_al 0),
  (true, 10, o_gf 4 11),
  (true, 13, o_al 0),
  (true, 14, o_gf 4 13),
  (true, 17, o_il 1),
  (true, 18, o_iw),
  (true, 19, o_al 0),
  (true, 20, o_gf 4 12),
  (true, 23, o_al 0),
  (true, 24, o_gf 4 13),
  (true, 27, o_il 2),
  (true, 28, o_iw),
  (true, 29, o_al 0),
  (true, 30, o_dup),
  (true, 31, o_gf 4 13),
  (true, 34, o_ic 1),
  (true, 35, o_ii (fun x y => x + y)),
  (true, 36, o_pi 4 13),
  (true, 39, o_vr)]
set_option maxRecDepth 100000 in
set_option maxHeartbeats 4000000 in
theorem zk_X4_addPinch (kc ks : Nat) : z_OK (zS RX4 cX4_addPinch 3 "addPinch" none 0 0 kc ks) zp_X4_addPinch := by
  unfold zp_X4_addPinch
  refine And.intro (s_aload_n dX4_addPinch_0 rfl) ?_
  refine And.intro (s_getf (C := RX4) (T := TX4) (N := 16) rfl zin_X4 (by decide) zl_213 dX4_addPinch_1) ?_
  refine And.intro (s_bipush dX4_addPinch_4 (by decide)) ?_
  refine And.intro (s_icmp_ge dX4_addPinch_6 (by decide)) ?_
  refine And.intro (s_aload_n dX4_addPinch_9 rfl) ?_
  refine And.intro (s_getf (C := RX4) (T := TX4) (N := 16) rfl zin_X4 (by decide) zl_211 dX4_addPinch_10) ?_
  refine And.intro (s_aload_n dX4_addPinch_13 rfl) ?_
  refine And.intro (s_getf (C := RX4) (T := TX4) (N := 16) rfl zin_X4 (by decide) zl_213 dX4_addPinch_14) ?_
  refine And.intro (s_iload_n dX4_addPinch_17 rfl) ?_
  refine And.intro (s_iastore dX4_addPinch_18) ?_
  refine And.intro (s_aload_n dX4_addPinch_19 rfl) ?_
  refine And.intro (s_getf (C := RX4) (T := TX4) (N := 16) rfl zin_X4 (by decide) zl_212 dX4_addPinch_20) ?_
  refine And.intro (s_aload_n dX4_addPinch_23 rfl) ?_
  refine And.intro (s_getf (C := RX4) (T := TX4) (N := 16) rfl zin_X4 (by decide) zl_213 dX4_addPinch_24) ?_
  refine And.intro (s_iload_n dX4_addPinch_27 rfl) ?_
  refine And.intro (s_iastore dX4_addPinch_28) ?_
  refine And.intro (s_aload_n dX4_addPinch_29 rfl) ?_
  refine And.intro (s_dup dX4_addPinch_30) ?_
  refine And.intro (s_getf (C := RX4) (T := TX4) (N := 16) rfl zin_X4 (by decide) zl_213 dX4_addPinch_31) ?_
  refine And.intro (s_iconst dX4_addPinch_34 (by decide)) ?_
  refine And.intro (s_iadd dX4_addPinch_35) ?_
  refine And.intro (s_putI (C := RX4) (T := TX4) (N := 16) rfl zin_X4 (by decide) tyX4 tyX4_ok nmX4 zl_213 rfl (by decide +kernel) dX4_addPinch_36) ?_
  refine And.intro (s_vreturn rfl dX4_addPinch_39) ?_
  exact trivial
def zp_X1_store : List (Bool × Nat × zOp) := [
  (true, 0, o_al 0),
  (true, 1, o_il 1),
  (true, 2, o_il 2),
  (true, 3, o_ic 1),
  (true, 4, o_cv zi_X1_has 3 1),
  (true, 7, o_if (fun x => x = 0) 51),
  (true, 10, o_al 0),
  (true, 11, o_gf 1 2),
  (true, 14, o_il 1),
  (true, 15, o_ic 60),
  (true, 17, o_ii (fun x y => x * y)),
  (true, 18, o_il 2),
  (true, 19, o_ii (fun x y => x + y)),
  (true, 20, o_al 0),
  (true, 21, o_gf 1 0),
  (true, 24, o_il 1),
  (true, 25, o_ia),
  (true, 26, o_in (fun x => x = 0) 34),
  (true, 29, o_il 3),
  (true, 30, o_i1 (fun x => x.toInt8.toInt32)),
  (true, 31, o_go 50),
  (true, 34, o_al 0),
  (true, 35, o_gf 1 0),
  (true, 38, o_il 1),
  (true, 39, o_ia),
  (true, 40, o_ic 1),
  (true, 41, o_cn (fun x y => x = y) 49),
  (true, 44, o_il 3),
  (true, 45, o_i1 (fun x => x.toInt16.toInt32)),
  (true, 46, o_go 50),
  (true, 49, o_il 3),
  (true, 50, o_iw),
  (true, 51, o_vr)]
set_option maxRecDepth 100000 in
set_option maxHeartbeats 4000000 in
theorem zk_X1_store (kc ks : Nat) : z_OK (zS RX1 cX1_store 4 "store" none 1 23 kc ks) zp_X1_store := by
  unfold zp_X1_store
  refine And.intro (s_aload_n dX1_store_0 rfl) ?_
  refine And.intro (s_iload_n dX1_store_1 rfl) ?_
  refine And.intro (s_iload_n dX1_store_2 rfl) ?_
  refine And.intro (s_iconst dX1_store_3 (by decide)) ?_
  refine And.intro (s_callV (C := RX1) (T := TX1) (N := 3) rfl zf_X1_has zg_X1_has zl_480 ⟨rfl, rfl⟩ dX1_store_4) ?_
  refine And.intro (s_if_eq dX1_store_7 (by decide)) ?_
  refine And.intro (s_aload_n dX1_store_10 rfl) ?_
  refine And.intro (s_getf (C := RX1) (T := TX1) (N := 3) rfl zin_X1 (by decide) zl_291 dX1_store_11) ?_
  refine And.intro (s_iload_n dX1_store_14 rfl) ?_
  refine And.intro (s_bipush dX1_store_15 (by decide)) ?_
  refine And.intro (s_imul dX1_store_17) ?_
  refine And.intro (s_iload_n dX1_store_18 rfl) ?_
  refine And.intro (s_iadd dX1_store_19) ?_
  refine And.intro (s_aload_n dX1_store_20 rfl) ?_
  refine And.intro (s_getf (C := RX1) (T := TX1) (N := 3) rfl zin_X1 (by decide) zl_287 dX1_store_21) ?_
  refine And.intro (s_iload_n dX1_store_24 rfl) ?_
  refine And.intro (s_iaload dX1_store_25) ?_
  refine And.intro (s_if_ne dX1_store_26 (by decide)) ?_
  refine And.intro (s_iload_n dX1_store_29 rfl) ?_
  refine And.intro (s_i2b dX1_store_30) ?_
  refine And.intro (s_goto dX1_store_31 (by decide)) ?_
  refine And.intro (s_aload_n dX1_store_34 rfl) ?_
  refine And.intro (s_getf (C := RX1) (T := TX1) (N := 3) rfl zin_X1 (by decide) zl_287 dX1_store_35) ?_
  refine And.intro (s_iload_n dX1_store_38 rfl) ?_
  refine And.intro (s_iaload dX1_store_39) ?_
  refine And.intro (s_iconst dX1_store_40 (by decide)) ?_
  refine And.intro (s_icmp_ne dX1_store_41 (by decide)) ?_
  refine And.intro (s_iload_n dX1_store_44 rfl) ?_
  refine And.intro (s_i2s dX1_store_45) ?_
  refine And.intro (s_goto dX1_store_46 (by decide)) ?_
  refine And.intro (s_iload_n dX1_store_49 rfl) ?_
  refine And.intro (s_iastore dX1_store_50) ?_
  refine And.intro (s_vreturn rfl dX1_store_51) ?_
  exact trivial
def zp_X1_renew : List (Bool × Nat × zOp) := [
  (true, 0, o_al 0),
  (true, 1, o_gf 1 0),
  (true, 4, o_il 1),
  (true, 5, o_il 2),
  (true, 6, o_iw),
  (true, 7, o_al 0),
  (true, 8, o_gf 1 1),
  (true, 11, o_il 1),
  (true, 12, o_il 3),
  (true, 13, o_iw),
  (true, 14, o_ic 0),
  (true, 15, o_is 4),
  (false, 17, o_mark 17 [2, 3]),
  (true, 17, o_il 4),
  (true, 19, o_ic 60),
  (true, 21, o_cmp (fun x y => y ≤ x) 43),
  (true, 24, o_al 0),
  (true, 25, o_gf 1 2),
  (true, 28, o_il 1),
  (true, 29, o_ic 60),
  (true, 31, o_ii (fun x y => x * y)),
  (true, 32, o_il 4),
  (true, 34, o_ii (fun x y => x + y)),
  (true, 35, o_ic 0),
  (true, 36, o_iw),
  (true, 37, o_inc 4 1),
  (true, 40, o_gb 17 [2, 3]),
  (true, 43, o_vr)]
set_option maxRecDepth 100000 in
set_option maxHeartbeats 4000000 in
theorem zk_X1_renew (kc ks : Nat) : z_OK (zS RX1 cX1_renew 5 "renew" none 0 0 kc ks) zp_X1_renew := by
  unfold zp_X1_renew
  refine And.intro (s_aload_n dX1_renew_0 rfl) ?_
  refine And.intro (s_getf (C := RX1) (T := TX1) (N := 3) rfl zin_X1 (by decide) zl_287 dX1_renew_1) ?_
  refine And.intro (s_iload_n dX1_renew_4 rfl) ?_
  refine And.intro (s_iload_n dX1_renew_5 rfl) ?_
  refine And.intro (s_iastore dX1_renew_6) ?_
  refine And.intro (s_aload_n dX1_renew_7 rfl) ?_
  refine And.intro (s_getf (C := RX1) (T := TX1) (N := 3) rfl zin_X1 (by decide) zl_289 dX1_renew_8) ?_
  refine And.intro (s_iload_n dX1_renew_11 rfl) ?_
  refine And.intro (s_iload_n dX1_renew_12 rfl) ?_
  refine And.intro (s_iastore dX1_renew_13) ?_
  refine And.intro (s_iconst dX1_renew_14 (by decide)) ?_
  refine And.intro (s_istore dX1_renew_15) ?_
  refine And.intro (s_mark) ?_
  refine And.intro (s_iload dX1_renew_17) ?_
  refine And.intro (s_bipush dX1_renew_19 (by decide)) ?_
  refine And.intro (s_icmp_ge dX1_renew_21 (by decide)) ?_
  refine And.intro (s_aload_n dX1_renew_24 rfl) ?_
  refine And.intro (s_getf (C := RX1) (T := TX1) (N := 3) rfl zin_X1 (by decide) zl_291 dX1_renew_25) ?_
  refine And.intro (s_iload_n dX1_renew_28 rfl) ?_
  refine And.intro (s_bipush dX1_renew_29 (by decide)) ?_
  refine And.intro (s_imul dX1_renew_31) ?_
  refine And.intro (s_iload dX1_renew_32) ?_
  refine And.intro (s_iadd dX1_renew_34) ?_
  refine And.intro (s_iconst dX1_renew_35 (by decide)) ?_
  refine And.intro (s_iastore dX1_renew_36) ?_
  refine And.intro (s_iinc dX1_renew_37 (by decide)) ?_
  refine And.intro (s_gotob dX1_renew_40 (by decide)) ?_
  refine And.intro (s_vreturn rfl dX1_renew_43) ?_
  exact trivial
def zp_X2_goRound : List (Bool × Nat × zOp) := [
  (true, 0, o_ic 0),
  (true, 1, o_is 1),
  (false, 2, o_mark 2 [2, 3]),
  (true, 2, o_il 1),
  (true, 3, o_al 0),
  (true, 4, o_gf 2 6),
  (true, 7, o_cmp (fun x y => y ≤ x) 64),
  (true, 10, o_ic 1),
  (true, 11, o_al 0),
  (true, 12, o_gf 2 3),
  (true, 15, o_il 1),
  (true, 16, o_ia),
  (true, 17, o_mi 21 (fun x y => if x < y then y else x)),
  (true, 20, o_is 2),
  (true, 21, o_ic 0),
  (true, 22, o_is 3),
  (false, 23, o_mark 23 []),
  (true, 23, o_il 3),
  (true, 24, o_ic 40),
  (true, 26, o_cmp (fun x y => y ≤ x) 58),
  (true, 29, o_al 0),
  (true, 30, o_gf 2 5),
  (true, 33, o_il 3),
  (true, 34, o_ic 8),
  (true, 36, o_ii (fun x y => x * y)),
  (true, 37, o_il 1),
  (true, 38, o_ii (fun x y => x + y)),
  (true, 39, o_al 0),
  (true, 40, o_gf 2 4),
  (true, 43, o_il 1),
  (true, 44, o_ic 3),
  (true, 45, o_ii (fun x y => x * y)),
  (true, 46, o_il 3),
  (true, 47, o_il 2),
  (true, 48, o_iz (fun x y => x - x / y * y)),
  (true, 49, o_ii (fun x y => x + y)),
  (true, 50, o_ia),
  (true, 51, o_iw),
  (true, 52, o_inc 3 1),
  (true, 55, o_gb 23 []),
  (true, 58, o_inc 1 1),
  (true, 61, o_gb 2 [2, 3]),
  (true, 64, o_vr)]
set_option maxRecDepth 100000 in
set_option maxHeartbeats 4000000 in
theorem zk_X2_goRound (kc ks : Nat) : z_OK (zS RX2 cX2_goRound 4 "goRound" none 1 21 kc ks) zp_X2_goRound := by
  unfold zp_X2_goRound
  refine And.intro (s_iconst dX2_goRound_0 (by decide)) ?_
  refine And.intro (s_istore_n dX2_goRound_1 rfl) ?_
  refine And.intro (s_mark) ?_
  refine And.intro (s_iload_n dX2_goRound_2 rfl) ?_
  refine And.intro (s_aload_n dX2_goRound_3 rfl) ?_
  refine And.intro (s_getf (C := RX2) (T := TX2) (N := 7) rfl zin_X2 (by decide) zl_169 dX2_goRound_4) ?_
  refine And.intro (s_icmp_ge dX2_goRound_7 (by decide)) ?_
  refine And.intro (s_iconst dX2_goRound_10 (by decide)) ?_
  refine And.intro (s_aload_n dX2_goRound_11 rfl) ?_
  refine And.intro (s_getf (C := RX2) (T := TX2) (N := 7) rfl zin_X2 (by decide) zl_163 dX2_goRound_12) ?_
  refine And.intro (s_iload_n dX2_goRound_15 rfl) ?_
  refine And.intro (s_iaload dX2_goRound_16) ?_
  refine And.intro (s_mmax zl_390 zl_391 zl_96 zl_392 (by decide) dX2_goRound_17) ?_
  refine And.intro (s_istore_n dX2_goRound_20 rfl) ?_
  refine And.intro (s_iconst dX2_goRound_21 (by decide)) ?_
  refine And.intro (s_istore_n dX2_goRound_22 rfl) ?_
  refine And.intro (s_mark) ?_
  refine And.intro (s_iload_n dX2_goRound_23 rfl) ?_
  refine And.intro (s_bipush dX2_goRound_24 (by decide)) ?_
  refine And.intro (s_icmp_ge dX2_goRound_26 (by decide)) ?_
  refine And.intro (s_aload_n dX2_goRound_29 rfl) ?_
  refine And.intro (s_getf (C := RX2) (T := TX2) (N := 7) rfl zin_X2 (by decide) zl_166 dX2_goRound_30) ?_
  refine And.intro (s_iload_n dX2_goRound_33 rfl) ?_
  refine And.intro (s_bipush dX2_goRound_34 (by decide)) ?_
  refine And.intro (s_imul dX2_goRound_36) ?_
  refine And.intro (s_iload_n dX2_goRound_37 rfl) ?_
  refine And.intro (s_iadd dX2_goRound_38) ?_
  refine And.intro (s_aload_n dX2_goRound_39 rfl) ?_
  refine And.intro (s_getf (C := RX2) (T := TX2) (N := 7) rfl zin_X2 (by decide) zl_165 dX2_goRound_40) ?_
  refine And.intro (s_iload_n dX2_goRound_43 rfl) ?_
  refine And.intro (s_iconst dX2_goRound_44 (by decide)) ?_
  refine And.intro (s_imul dX2_goRound_45) ?_
  refine And.intro (s_iload_n dX2_goRound_46 rfl) ?_
  refine And.intro (s_iload_n dX2_goRound_47 rfl) ?_
  refine And.intro (s_irem dX2_goRound_48) ?_
  refine And.intro (s_iadd dX2_goRound_49) ?_
  refine And.intro (s_iaload dX2_goRound_50) ?_
  refine And.intro (s_iastore dX2_goRound_51) ?_
  refine And.intro (s_iinc dX2_goRound_52 (by decide)) ?_
  refine And.intro (s_gotob dX2_goRound_55 (by decide)) ?_
  refine And.intro (s_iinc dX2_goRound_58 (by decide)) ?_
  refine And.intro (s_gotob dX2_goRound_61 (by decide)) ?_
  refine And.intro (s_vreturn rfl dX2_goRound_64) ?_
  exact trivial
def zp_X2_takesLetter : List (Bool × Nat × zOp) := [
  (true, 0, o_il 3),
  (true, 1, o_ic 115),
  (true, 3, o_cn (fun x y => x = y) 10),
  (true, 6, o_ic 0),
  (true, 7, o_go 31),
  (true, 10, o_il 3),
  (true, 11, o_ic 119),
  (true, 13, o_cn (fun x y => x = y) 20),
  (true, 16, o_ic 1),
  (true, 17, o_go 31),
  (true, 20, o_il 3),
  (true, 21, o_ic 114),
  (true, 23, o_cn (fun x y => x = y) 30),
  (true, 26, o_ic 2),
  (true, 27, o_go 31),
  (true, 30, o_ic (-1)),
  (true, 31, o_is 4),
  (true, 33, o_il 4),
  (true, 35, o_ic (-1)),
  (true, 36, o_cmp (fun x y => x = y) 48),
  (true, 39, o_il 2),
  (true, 40, o_ic 0),
  (true, 41, o_ic 2),
  (true, 42, o_cs zi_X5_within 3),
  (true, 45, o_in (fun x => x = 0) 50),
  (true, 48, o_ic 0),
  (true, 49, o_zr),
  (true, 50, o_al 0),
  (true, 51, o_gf 2 4),
  (true, 54, o_il 1),
  (true, 55, o_ic 3),
  (true, 56, o_ii (fun x y => x * y)),
  (true, 57, o_il 2),
  (true, 58, o_ii (fun x y => x + y)),
  (true, 59, o_il 4),
  (true, 61, o_iw),
  (true, 62, o_al 0),
  (true, 63, o_gf 2 3),
  (true, 66, o_il 1),
  (true, 67, o_il 2),
  (true, 68, o_ic 1),
  (true, 69, o_ii (fun x y => x + y)),
  (true, 70, o_iw),
  (true, 71, o_ic 1),
  (true, 72, o_zr)]
set_option maxRecDepth 100000 in
set_option maxHeartbeats 4000000 in
theorem zk_X2_takesLetter (kc ks : Nat) : z_OK (zS RX2 cX2_takesLetter 5 "takesLetter" (some .boolean) 1 22 kc ks) zp_X2_takesLetter := by
  unfold zp_X2_takesLetter
  refine And.intro (s_iload_n dX2_takesLetter_0 rfl) ?_
  refine And.intro (s_bipush dX2_takesLetter_1 (by decide)) ?_
  refine And.intro (s_icmp_ne dX2_takesLetter_3 (by decide)) ?_
  refine And.intro (s_iconst dX2_takesLetter_6 (by decide)) ?_
  refine And.intro (s_goto dX2_takesLetter_7 (by decide)) ?_
  refine And.intro (s_iload_n dX2_takesLetter_10 rfl) ?_
  refine And.intro (s_bipush dX2_takesLetter_11 (by decide)) ?_
  refine And.intro (s_icmp_ne dX2_takesLetter_13 (by decide)) ?_
  refine And.intro (s_iconst dX2_takesLetter_16 (by decide)) ?_
  refine And.intro (s_goto dX2_takesLetter_17 (by decide)) ?_
  refine And.intro (s_iload_n dX2_takesLetter_20 rfl) ?_
  refine And.intro (s_bipush dX2_takesLetter_21 (by decide)) ?_
  refine And.intro (s_icmp_ne dX2_takesLetter_23 (by decide)) ?_
  refine And.intro (s_iconst dX2_takesLetter_26 (by decide)) ?_
  refine And.intro (s_goto dX2_takesLetter_27 (by decide)) ?_
  refine And.intro (s_iconst dX2_takesLetter_30 (by decide)) ?_
  refine And.intro (s_istore dX2_takesLetter_31) ?_
  refine And.intro (s_iload dX2_takesLetter_33) ?_
  refine And.intro (s_iconst dX2_takesLetter_35 (by decide)) ?_
  refine And.intro (s_icmp_eq dX2_takesLetter_36 (by decide)) ?_
  refine And.intro (s_iload_n dX2_takesLetter_39 rfl) ?_
  refine And.intro (s_iconst dX2_takesLetter_40 (by decide)) ?_
  refine And.intro (s_iconst dX2_takesLetter_41 (by decide)) ?_
  refine And.intro (s_callSN zf_X5_within zl_353 zl_380 ⟨rfl, rfl⟩ dX2_takesLetter_42) ?_
  refine And.intro (s_if_ne dX2_takesLetter_45 (by decide)) ?_
  refine And.intro (s_iconst dX2_takesLetter_48 (by decide)) ?_
  refine And.intro (s_zreturn rfl dX2_takesLetter_49) ?_
  refine And.intro (s_aload_n dX2_takesLetter_50 rfl) ?_
  refine And.intro (s_getf (C := RX2) (T := TX2) (N := 7) rfl zin_X2 (by decide) zl_165 dX2_takesLetter_51) ?_
  refine And.intro (s_iload_n dX2_takesLetter_54 rfl) ?_
  refine And.intro (s_iconst dX2_takesLetter_55 (by decide)) ?_
  refine And.intro (s_imul dX2_takesLetter_56) ?_
  refine And.intro (s_iload_n dX2_takesLetter_57 rfl) ?_
  refine And.intro (s_iadd dX2_takesLetter_58) ?_
  refine And.intro (s_iload dX2_takesLetter_59) ?_
  refine And.intro (s_iastore dX2_takesLetter_61) ?_
  refine And.intro (s_aload_n dX2_takesLetter_62 rfl) ?_
  refine And.intro (s_getf (C := RX2) (T := TX2) (N := 7) rfl zin_X2 (by decide) zl_163 dX2_takesLetter_63) ?_
  refine And.intro (s_iload_n dX2_takesLetter_66 rfl) ?_
  refine And.intro (s_iload_n dX2_takesLetter_67 rfl) ?_
  refine And.intro (s_iconst dX2_takesLetter_68 (by decide)) ?_
  refine And.intro (s_iadd dX2_takesLetter_69) ?_
  refine And.intro (s_iastore dX2_takesLetter_70) ?_
  refine And.intro (s_iconst dX2_takesLetter_71 (by decide)) ?_
  refine And.intro (s_zreturn rfl dX2_takesLetter_72) ?_
  exact trivial
def zp_X2_takes : List (Bool × Nat × zOp) := [
  (true, 0, o_il 1),
  (true, 1, o_ic 0),
  (true, 2, o_ic 7),
  (true, 4, o_cs zi_X5_within 3),
  (true, 7, o_in (fun x => x = 0) 12),
  (true, 10, o_ic 0),
  (true, 11, o_zr),
  (true, 12, o_il 2),
  (true, 13, o_sw 0 [40, 86, 107] 128),
  (true, 40, o_al 0),
  (true, 41, o_gf 2 0),
  (true, 44, o_il 1),
  (true, 45, o_il 3),
  (true, 46, o_ic 46),
  (true, 48, o_cn (fun x y => x = y) 55),
  (true, 51, o_ic (-1)),
  (true, 52, o_go 59),
  (true, 55, o_il 3),
  (true, 56, o_ic 97),
  (true, 58, o_ii (fun x y => x - y)),
  (true, 59, o_iw),
  (true, 60, o_il 3),
  (true, 61, o_ic 46),
  (true, 63, o_cmp (fun x y => x = y) 80),
  (true, 66, o_il 3),
  (true, 67, o_ic 97),
  (true, 69, o_ii (fun x y => x - y)),
  (true, 70, o_ic 0),
  (true, 71, o_il 1),
  (true, 72, o_ic 1),
  (true, 73, o_ii (fun x y => x - y)),
  (true, 74, o_cs zi_X5_within 3),
  (true, 77, o_if (fun x => x = 0) 84),
  (true, 80, o_ic 1),
  (true, 81, o_go 85),
  (true, 84, o_ic 0),
  (true, 85, o_zr),
  (true, 86, o_al 0),
  (true, 87, o_gf 2 1),
  (true, 90, o_il 1),
  (true, 91, o_il 3),
  (true, 92, o_ic 97),
  (true, 94, o_ii (fun x y => x - y)),
  (true, 95, o_iw),
  (true, 96, o_il 3),
  (true, 97, o_ic 97),
  (true, 99, o_ii (fun x y => x - y)),
  (true, 100, o_ic 0),
  (true, 101, o_ic 6),
  (true, 103, o_cs zi_X5_within 3),
  (true, 106, o_zr),
  (true, 107, o_al 0),
  (true, 108, o_gf 2 2),
  (true, 111, o_il 1),
  (true, 112, o_il 3),
  (true, 113, o_ic 48),
  (true, 115, o_ii (fun x y => x - y)),
  (true, 116, o_iw),
  (true, 117, o_il 3),
  (true, 118, o_ic 48),
  (true, 120, o_ii (fun x y => x - y)),
  (true, 121, o_ic 1),
  (true, 122, o_ic 9),
  (true, 124, o_cs zi_X5_within 3),
  (true, 127, o_zr),
  (true, 128, o_al 0),
  (true, 129, o_il 1),
  (true, 130, o_il 2),
  (true, 131, o_ic 3),
  (true, 132, o_ii (fun x y => x - y)),
  (true, 133, o_il 3),
  (true, 134, o_cv zi_X2_takesLetter 3 2),
  (true, 137, o_zr)]
set_option maxRecDepth 100000 in
set_option maxHeartbeats 4000000 in
theorem zk_X2_takes (kc ks : Nat) : z_OK (zS RX2 cX2_takes 4 "takes" (some .boolean) 2 46 kc ks) zp_X2_takes := by
  unfold zp_X2_takes
  refine And.intro (s_iload_n dX2_takes_0 rfl) ?_
  refine And.intro (s_iconst dX2_takes_1 (by decide)) ?_
  refine And.intro (s_bipush dX2_takes_2 (by decide)) ?_
  refine And.intro (s_callSN zf_X5_within zl_353 zl_380 ⟨rfl, rfl⟩ dX2_takes_4) ?_
  refine And.intro (s_if_ne dX2_takes_7 (by decide)) ?_
  refine And.intro (s_iconst dX2_takes_10 (by decide)) ?_
  refine And.intro (s_zreturn rfl dX2_takes_11) ?_
  refine And.intro (s_iload_n dX2_takes_12 rfl) ?_
  refine And.intro (s_tsw dX2_takes_13 (by decide) (by decide) (by decide)) ?_
  refine And.intro (s_aload_n dX2_takes_40 rfl) ?_
  refine And.intro (s_getf (C := RX2) (T := TX2) (N := 7) rfl zin_X2 (by decide) zl_154 dX2_takes_41) ?_
  refine And.intro (s_iload_n dX2_takes_44 rfl) ?_
  refine And.intro (s_iload_n dX2_takes_45 rfl) ?_
  refine And.intro (s_bipush dX2_takes_46 (by decide)) ?_
  refine And.intro (s_icmp_ne dX2_takes_48 (by decide)) ?_
  refine And.intro (s_iconst dX2_takes_51 (by decide)) ?_
  refine And.intro (s_goto dX2_takes_52 (by decide)) ?_
  refine And.intro (s_iload_n dX2_takes_55 rfl) ?_
  refine And.intro (s_bipush dX2_takes_56 (by decide)) ?_
  refine And.intro (s_isub dX2_takes_58) ?_
  refine And.intro (s_iastore dX2_takes_59) ?_
  refine And.intro (s_iload_n dX2_takes_60 rfl) ?_
  refine And.intro (s_bipush dX2_takes_61 (by decide)) ?_
  refine And.intro (s_icmp_eq dX2_takes_63 (by decide)) ?_
  refine And.intro (s_iload_n dX2_takes_66 rfl) ?_
  refine And.intro (s_bipush dX2_takes_67 (by decide)) ?_
  refine And.intro (s_isub dX2_takes_69) ?_
  refine And.intro (s_iconst dX2_takes_70 (by decide)) ?_
  refine And.intro (s_iload_n dX2_takes_71 rfl) ?_
  refine And.intro (s_iconst dX2_takes_72 (by decide)) ?_
  refine And.intro (s_isub dX2_takes_73) ?_
  refine And.intro (s_callSN zf_X5_within zl_353 zl_380 ⟨rfl, rfl⟩ dX2_takes_74) ?_
  refine And.intro (s_if_eq dX2_takes_77 (by decide)) ?_
  refine And.intro (s_iconst dX2_takes_80 (by decide)) ?_
  refine And.intro (s_goto dX2_takes_81 (by decide)) ?_
  refine And.intro (s_iconst dX2_takes_84 (by decide)) ?_
  refine And.intro (s_zreturn rfl dX2_takes_85) ?_
  refine And.intro (s_aload_n dX2_takes_86 rfl) ?_
  refine And.intro (s_getf (C := RX2) (T := TX2) (N := 7) rfl zin_X2 (by decide) zl_157 dX2_takes_87) ?_
  refine And.intro (s_iload_n dX2_takes_90 rfl) ?_
  refine And.intro (s_iload_n dX2_takes_91 rfl) ?_
  refine And.intro (s_bipush dX2_takes_92 (by decide)) ?_
  refine And.intro (s_isub dX2_takes_94) ?_
  refine And.intro (s_iastore dX2_takes_95) ?_
  refine And.intro (s_iload_n dX2_takes_96 rfl) ?_
  refine And.intro (s_bipush dX2_takes_97 (by decide)) ?_
  refine And.intro (s_isub dX2_takes_99) ?_
  refine And.intro (s_iconst dX2_takes_100 (by decide)) ?_
  refine And.intro (s_bipush dX2_takes_101 (by decide)) ?_
  refine And.intro (s_callSN zf_X5_within zl_353 zl_380 ⟨rfl, rfl⟩ dX2_takes_103) ?_
  refine And.intro (s_zreturn rfl dX2_takes_106) ?_
  refine And.intro (s_aload_n dX2_takes_107 rfl) ?_
  refine And.intro (s_getf (C := RX2) (T := TX2) (N := 7) rfl zin_X2 (by decide) zl_160 dX2_takes_108) ?_
  refine And.intro (s_iload_n dX2_takes_111 rfl) ?_
  refine And.intro (s_iload_n dX2_takes_112 rfl) ?_
  refine And.intro (s_bipush dX2_takes_113 (by decide)) ?_
  refine And.intro (s_isub dX2_takes_115) ?_
  refine And.intro (s_iastore dX2_takes_116) ?_
  refine And.intro (s_iload_n dX2_takes_117 rfl) ?_
  refine And.intro (s_bipush dX2_takes_118 (by decide)) ?_
  refine And.intro (s_isub dX2_takes_120) ?_
  refine And.intro (s_iconst dX2_takes_121 (by decide)) ?_
  refine And.intro (s_bipush dX2_takes_122 (by decide)) ?_
  refine And.intro (s_callSN zf_X5_within zl_353 zl_380 ⟨rfl, rfl⟩ dX2_takes_124) ?_
  refine And.intro (s_zreturn rfl dX2_takes_127) ?_
  refine And.intro (s_aload_n dX2_takes_128 rfl) ?_
  refine And.intro (s_iload_n dX2_takes_129 rfl) ?_
  refine And.intro (s_iload_n dX2_takes_130 rfl) ?_
  refine And.intro (s_iconst dX2_takes_131 (by decide)) ?_
  refine And.intro (s_isub dX2_takes_132) ?_
  refine And.intro (s_iload_n dX2_takes_133 rfl) ?_
  refine And.intro (s_callV (C := RX2) (T := TX2) (N := 7) rfl zf_X2_takesLetter zg_X2_takesLetter zl_381 ⟨rfl, rfl⟩ dX2_takes_134) ?_
  refine And.intro (s_zreturn rfl dX2_takes_137) ?_
  exact trivial
def zp_X2_readFrom : List (Bool × Nat × zOp) := [
  (true, 0, o_al 0),
  (true, 1, o_ic 0),
  (true, 2, o_pi 2 6),
  (true, 5, o_al 1),
  (true, 6, o_gf 3 2),
  (true, 9, o_in (fun x => x = 0) 14),
  (true, 12, o_ic (-1)),
  (true, 13, o_ir),
  (true, 14, o_ic 0),
  (true, 15, o_is 2),
  (true, 16, o_ic 0),
  (true, 17, o_is 3),
  (true, 18, o_ic 0),
  (true, 19, o_is 4),
  (false, 21, o_mark 21 [5]),
  (true, 21, o_il 4),
  (true, 23, o_al 1),
  (true, 24, o_gf 3 2),
  (true, 27, o_cmp (fun x y => y ≤ x) 85),
  (true, 30, o_al 1),
  (true, 31, o_gf 3 0),
  (true, 34, o_il 4),
  (true, 36, o_ia),
  (true, 37, o_is 5),
  (true, 39, o_il 5),
  (true, 41, o_ic 59),
  (true, 43, o_cn (fun x y => x = y) 59),
  (true, 46, o_il 3),
  (true, 47, o_ic 3),
  (true, 48, o_cmp (fun x y => x ≤ y) 59),
  (true, 51, o_inc 2 1),
  (true, 54, o_ic 0),
  (true, 55, o_is 3),
  (true, 56, o_go 79),
  (true, 59, o_al 0),
  (true, 60, o_il 2),
  (true, 61, o_il 3),
  (true, 62, o_il 5),
  (true, 64, o_cv zi_X2_takes 3 2),
  (true, 67, o_if (fun x => x = 0) 76),
  (true, 70, o_inc 3 1),
  (true, 73, o_go 79),
  (true, 76, o_il 4),
  (true, 78, o_ir),
  (true, 79, o_inc 4 1),
  (true, 82, o_gb 21 [5]),
  (true, 85, o_il 3),
  (true, 86, o_ic 3),
  (true, 87, o_cmp (fun x y => y < x) 95),
  (true, 90, o_al 1),
  (true, 91, o_gf 3 2),
  (true, 94, o_ir),
  (true, 95, o_al 0),
  (true, 96, o_il 2),
  (true, 97, o_ic 1),
  (true, 98, o_ii (fun x y => x + y)),
  (true, 99, o_ic 8),
  (true, 101, o_mi 69 (fun x y => if y < x then y else x)),
  (true, 104, o_pi 2 6),
  (true, 107, o_al 0),
  (true, 108, o_cv zi_X2_goRound 0 2),
  (true, 111, o_ic (-1)),
  (true, 112, o_ir)]
set_option maxRecDepth 100000 in
set_option maxHeartbeats 4000000 in
theorem zk_X2_readFrom (kc ks : Nat) : z_OK (zS RX2 cX2_readFrom 6 "readFrom" (some .int) 3 69 kc ks) zp_X2_readFrom := by
  unfold zp_X2_readFrom
  refine And.intro (s_aload_n dX2_readFrom_0 rfl) ?_
  refine And.intro (s_iconst dX2_readFrom_1 (by decide)) ?_
  refine And.intro (s_putI (C := RX2) (T := TX2) (N := 7) rfl zin_X2 (by decide) tyX2 tyX2_ok nmX2 zl_169 rfl (by decide +kernel) dX2_readFrom_2) ?_
  refine And.intro (s_aload_n dX2_readFrom_5 rfl) ?_
  refine And.intro (s_getfN (C := RX3) (T := TX3) (N := 4) rfl zin_X3 (by decide) zl_127 dX2_readFrom_6) ?_
  refine And.intro (s_if_ne dX2_readFrom_9 (by decide)) ?_
  refine And.intro (s_iconst dX2_readFrom_12 (by decide)) ?_
  refine And.intro (s_ireturn rfl (fun _ => rfl) dX2_readFrom_13) ?_
  refine And.intro (s_iconst dX2_readFrom_14 (by decide)) ?_
  refine And.intro (s_istore_n dX2_readFrom_15 rfl) ?_
  refine And.intro (s_iconst dX2_readFrom_16 (by decide)) ?_
  refine And.intro (s_istore_n dX2_readFrom_17 rfl) ?_
  refine And.intro (s_iconst dX2_readFrom_18 (by decide)) ?_
  refine And.intro (s_istore dX2_readFrom_19) ?_
  refine And.intro (s_mark) ?_
  refine And.intro (s_iload dX2_readFrom_21) ?_
  refine And.intro (s_aload_n dX2_readFrom_23 rfl) ?_
  refine And.intro (s_getfN (C := RX3) (T := TX3) (N := 4) rfl zin_X3 (by decide) zl_127 dX2_readFrom_24) ?_
  refine And.intro (s_icmp_ge dX2_readFrom_27 (by decide)) ?_
  refine And.intro (s_aload_n dX2_readFrom_30 rfl) ?_
  refine And.intro (s_getfN (C := RX3) (T := TX3) (N := 4) rfl zin_X3 (by decide) zl_124 dX2_readFrom_31) ?_
  refine And.intro (s_iload dX2_readFrom_34) ?_
  refine And.intro (s_iaload dX2_readFrom_36) ?_
  refine And.intro (s_istore dX2_readFrom_37) ?_
  refine And.intro (s_iload dX2_readFrom_39) ?_
  refine And.intro (s_bipush dX2_readFrom_41 (by decide)) ?_
  refine And.intro (s_icmp_ne dX2_readFrom_43 (by decide)) ?_
  refine And.intro (s_iload_n dX2_readFrom_46 rfl) ?_
  refine And.intro (s_iconst dX2_readFrom_47 (by decide)) ?_
  refine And.intro (s_icmp_le dX2_readFrom_48 (by decide)) ?_
  refine And.intro (s_iinc dX2_readFrom_51 (by decide)) ?_
  refine And.intro (s_iconst dX2_readFrom_54 (by decide)) ?_
  refine And.intro (s_istore_n dX2_readFrom_55 rfl) ?_
  refine And.intro (s_goto dX2_readFrom_56 (by decide)) ?_
  refine And.intro (s_aload_n dX2_readFrom_59 rfl) ?_
  refine And.intro (s_iload_n dX2_readFrom_60 rfl) ?_
  refine And.intro (s_iload_n dX2_readFrom_61 rfl) ?_
  refine And.intro (s_iload dX2_readFrom_62) ?_
  refine And.intro (s_callV (C := RX2) (T := TX2) (N := 7) rfl zf_X2_takes zg_X2_takes zl_376 ⟨rfl, rfl⟩ dX2_readFrom_64) ?_
  refine And.intro (s_if_eq dX2_readFrom_67 (by decide)) ?_
  refine And.intro (s_iinc dX2_readFrom_70 (by decide)) ?_
  refine And.intro (s_goto dX2_readFrom_73 (by decide)) ?_
  refine And.intro (s_iload dX2_readFrom_76) ?_
  refine And.intro (s_ireturn rfl (fun _ => rfl) dX2_readFrom_78) ?_
  refine And.intro (s_iinc dX2_readFrom_79 (by decide)) ?_
  refine And.intro (s_gotob dX2_readFrom_82 (by decide)) ?_
  refine And.intro (s_iload_n dX2_readFrom_85 rfl) ?_
  refine And.intro (s_iconst dX2_readFrom_86 (by decide)) ?_
  refine And.intro (s_icmp_gt dX2_readFrom_87 (by decide)) ?_
  refine And.intro (s_aload_n dX2_readFrom_90 rfl) ?_
  refine And.intro (s_getfN (C := RX3) (T := TX3) (N := 4) rfl zin_X3 (by decide) zl_127 dX2_readFrom_91) ?_
  refine And.intro (s_ireturn rfl (fun _ => rfl) dX2_readFrom_94) ?_
  refine And.intro (s_aload_n dX2_readFrom_95 rfl) ?_
  refine And.intro (s_iload_n dX2_readFrom_96 rfl) ?_
  refine And.intro (s_iconst dX2_readFrom_97 (by decide)) ?_
  refine And.intro (s_iadd dX2_readFrom_98) ?_
  refine And.intro (s_bipush dX2_readFrom_99 (by decide)) ?_
  refine And.intro (s_mmin zl_385 zl_120 zl_96 zl_121 (by decide) dX2_readFrom_101) ?_
  refine And.intro (s_putI (C := RX2) (T := TX2) (N := 7) rfl zin_X2 (by decide) tyX2 tyX2_ok nmX2 zl_169 rfl (by decide +kernel) dX2_readFrom_104) ?_
  refine And.intro (s_aload_n dX2_readFrom_107 rfl) ?_
  refine And.intro (s_callV (C := RX2) (T := TX2) (N := 7) rfl zf_X2_goRound zg_X2_goRound zl_386 ⟨rfl, rfl⟩ dX2_readFrom_108) ?_
  refine And.intro (s_iconst dX2_readFrom_111 (by decide)) ?_
  refine And.intro (s_ireturn rfl (fun _ => rfl) dX2_readFrom_112) ?_
  exact trivial
def zp_X4_readElbows : List (Bool × Nat × zOp) := [
  (true, 0, o_ic (-1)),
  (true, 1, o_is 2),
  (true, 2, o_ic 0),
  (true, 3, o_is 3),
  (false, 4, o_mark 4 []),
  (true, 4, o_il 3),
  (true, 5, o_al 1),
  (true, 6, o_gf 3 2),
  (true, 9, o_cmp (fun x y => y ≤ x) 41),
  (true, 12, o_il 2),
  (true, 13, o_ic (-1)),
  (true, 14, o_cn (fun x y => x = y) 41),
  (true, 17, o_al 1),
  (true, 18, o_gf 3 0),
  (true, 21, o_il 3),
  (true, 22, o_ia),
  (true, 23, o_ic 48),
  (true, 25, o_ic 57),
  (true, 27, o_cs zi_X5_within 3),
  (true, 30, o_in (fun x => x = 0) 35),
  (true, 33, o_il 3),
  (true, 34, o_is 2),
  (true, 35, o_inc 3 1),
  (true, 38, o_gb 4 []),
  (true, 41, o_al 0),
  (true, 42, o_il 2),
  (true, 43, o_ic (-1)),
  (true, 44, o_cn (fun x y => x = y) 59),
  (true, 47, o_al 1),
  (true, 48, o_gf 3 2),
  (true, 51, o_ic 40),
  (true, 53, o_mi 22 (fun x y => if y < x then y else x)),
  (true, 56, o_go 60),
  (true, 59, o_ic 0),
  (true, 60, o_pi 4 2),
  (true, 63, o_ic 0),
  (true, 64, o_is 3),
  (false, 65, o_mark 65 []),
  (true, 65, o_il 3),
  (true, 66, o_ic 40),
  (true, 68, o_cmp (fun x y => y ≤ x) 104),
  (true, 71, o_al 0),
  (true, 72, o_gf 4 1),
  (true, 75, o_il 3),
  (true, 76, o_il 3),
  (true, 77, o_al 0),
  (true, 78, o_gf 4 2),
  (true, 81, o_cmp (fun x y => y ≤ x) 96),
  (true, 84, o_al 1),
  (true, 85, o_gf 3 0),
  (true, 88, o_il 3),
  (true, 89, o_ia),
  (true, 90, o_ic 48),
  (true, 92, o_ii (fun x y => x - y)),
  (true, 93, o_go 97),
  (true, 96, o_ic 3),
  (true, 97, o_iw),
  (true, 98, o_inc 3 1),
  (true, 101, o_gb 65 []),
  (true, 104, o_il 2),
  (true, 105, o_ir)]
set_option maxRecDepth 100000 in
set_option maxHeartbeats 4000000 in
theorem zk_X4_readElbows (kc ks : Nat) : z_OK (zS RX4 cX4_readElbows 4 "readElbows" (some .int) 1 22 kc ks) zp_X4_readElbows := by
  unfold zp_X4_readElbows
  refine And.intro (s_iconst dX4_readElbows_0 (by decide)) ?_
  refine And.intro (s_istore_n dX4_readElbows_1 rfl) ?_
  refine And.intro (s_iconst dX4_readElbows_2 (by decide)) ?_
  refine And.intro (s_istore_n dX4_readElbows_3 rfl) ?_
  refine And.intro (s_mark) ?_
  refine And.intro (s_iload_n dX4_readElbows_4 rfl) ?_
  refine And.intro (s_aload_n dX4_readElbows_5 rfl) ?_
  refine And.intro (s_getfN (C := RX3) (T := TX3) (N := 4) rfl zin_X3 (by decide) zl_128 dX4_readElbows_6) ?_
  refine And.intro (s_icmp_ge dX4_readElbows_9 (by decide)) ?_
  refine And.intro (s_iload_n dX4_readElbows_12 rfl) ?_
  refine And.intro (s_iconst dX4_readElbows_13 (by decide)) ?_
  refine And.intro (s_icmp_ne dX4_readElbows_14 (by decide)) ?_
  refine And.intro (s_aload_n dX4_readElbows_17 rfl) ?_
  refine And.intro (s_getfN (C := RX3) (T := TX3) (N := 4) rfl zin_X3 (by decide) zl_123 dX4_readElbows_18) ?_
  refine And.intro (s_iload_n dX4_readElbows_21 rfl) ?_
  refine And.intro (s_iaload dX4_readElbows_22) ?_
  refine And.intro (s_bipush dX4_readElbows_23 (by decide)) ?_
  refine And.intro (s_bipush dX4_readElbows_25 (by decide)) ?_
  refine And.intro (s_callSN zf_X5_within zl_353 zl_397 ⟨rfl, rfl⟩ dX4_readElbows_27) ?_
  refine And.intro (s_if_ne dX4_readElbows_30 (by decide)) ?_
  refine And.intro (s_iload_n dX4_readElbows_33 rfl) ?_
  refine And.intro (s_istore_n dX4_readElbows_34 rfl) ?_
  refine And.intro (s_iinc dX4_readElbows_35 (by decide)) ?_
  refine And.intro (s_gotob dX4_readElbows_38 (by decide)) ?_
  refine And.intro (s_aload_n dX4_readElbows_41 rfl) ?_
  refine And.intro (s_iload_n dX4_readElbows_42 rfl) ?_
  refine And.intro (s_iconst dX4_readElbows_43 (by decide)) ?_
  refine And.intro (s_icmp_ne dX4_readElbows_44 (by decide)) ?_
  refine And.intro (s_aload_n dX4_readElbows_47 rfl) ?_
  refine And.intro (s_getfN (C := RX3) (T := TX3) (N := 4) rfl zin_X3 (by decide) zl_128 dX4_readElbows_48) ?_
  refine And.intro (s_bipush dX4_readElbows_51 (by decide)) ?_
  refine And.intro (s_mmin zl_398 zl_120 zl_96 zl_121 (by decide) dX4_readElbows_53) ?_
  refine And.intro (s_goto dX4_readElbows_56 (by decide)) ?_
  refine And.intro (s_iconst dX4_readElbows_59 (by decide)) ?_
  refine And.intro (s_putI (C := RX4) (T := TX4) (N := 16) rfl zin_X4 (by decide) tyX4 tyX4_ok nmX4 zl_193 rfl (by decide +kernel) dX4_readElbows_60) ?_
  refine And.intro (s_iconst dX4_readElbows_63 (by decide)) ?_
  refine And.intro (s_istore_n dX4_readElbows_64 rfl) ?_
  refine And.intro (s_mark) ?_
  refine And.intro (s_iload_n dX4_readElbows_65 rfl) ?_
  refine And.intro (s_bipush dX4_readElbows_66 (by decide)) ?_
  refine And.intro (s_icmp_ge dX4_readElbows_68 (by decide)) ?_
  refine And.intro (s_aload_n dX4_readElbows_71 rfl) ?_
  refine And.intro (s_getf (C := RX4) (T := TX4) (N := 16) rfl zin_X4 (by decide) zl_190 dX4_readElbows_72) ?_
  refine And.intro (s_iload_n dX4_readElbows_75 rfl) ?_
  refine And.intro (s_iload_n dX4_readElbows_76 rfl) ?_
  refine And.intro (s_aload_n dX4_readElbows_77 rfl) ?_
  refine And.intro (s_getf (C := RX4) (T := TX4) (N := 16) rfl zin_X4 (by decide) zl_193 dX4_readElbows_78) ?_
  refine And.intro (s_icmp_ge dX4_readElbows_81 (by decide)) ?_
  refine And.intro (s_aload_n dX4_readElbows_84 rfl) ?_
  refine And.intro (s_getfN (C := RX3) (T := TX3) (N := 4) rfl zin_X3 (by decide) zl_123 dX4_readElbows_85) ?_
  refine And.intro (s_iload_n dX4_readElbows_88 rfl) ?_
  refine And.intro (s_iaload dX4_readElbows_89) ?_
  refine And.intro (s_bipush dX4_readElbows_90 (by decide)) ?_
  refine And.intro (s_isub dX4_readElbows_92) ?_
  refine And.intro (s_goto dX4_readElbows_93 (by decide)) ?_
  refine And.intro (s_iconst dX4_readElbows_96 (by decide)) ?_
  refine And.intro (s_iastore dX4_readElbows_97) ?_
  refine And.intro (s_iinc dX4_readElbows_98 (by decide)) ?_
  refine And.intro (s_gotob dX4_readElbows_101 (by decide)) ?_
  refine And.intro (s_iload_n dX4_readElbows_104 rfl) ?_
  refine And.intro (s_ireturn rfl (fun _ => rfl) dX4_readElbows_105) ?_
  exact trivial
def zp_X3_isFull : List (Bool × Nat × zOp) := [
  (true, 0, o_al 0),
  (true, 1, o_gf 3 2),
  (true, 4, o_al 0),
  (true, 5, o_gf 3 1),
  (true, 8, o_cmp (fun x y => x < y) 15),
  (true, 11, o_ic 1),
  (true, 12, o_go 16),
  (true, 15, o_ic 0),
  (true, 16, o_zr)]
set_option maxRecDepth 100000 in
set_option maxHeartbeats 4000000 in
theorem zk_X3_isFull (kc ks : Nat) : z_OK (zS RX3 cX3_isFull 1 "isFull" (some .boolean) 0 0 kc ks) zp_X3_isFull := by
  unfold zp_X3_isFull
  refine And.intro (s_aload_n dX3_isFull_0 rfl) ?_
  refine And.intro (s_getf (C := RX3) (T := TX3) (N := 4) rfl zin_X3 (by decide) zl_126 dX3_isFull_1) ?_
  refine And.intro (s_aload_n dX3_isFull_4 rfl) ?_
  refine And.intro (s_getf (C := RX3) (T := TX3) (N := 4) rfl zin_X3 (by decide) zl_125 dX3_isFull_5) ?_
  refine And.intro (s_icmp_lt dX3_isFull_8 (by decide)) ?_
  refine And.intro (s_iconst dX3_isFull_11 (by decide)) ?_
  refine And.intro (s_goto dX3_isFull_12 (by decide)) ?_
  refine And.intro (s_iconst dX3_isFull_15 (by decide)) ?_
  refine And.intro (s_zreturn rfl dX3_isFull_16) ?_
  exact trivial
def zp_X3_add : List (Bool × Nat × zOp) := [
  (true, 0, o_al 0),
  (true, 1, o_cv zi_X3_isFull 0 3),
  (true, 4, o_in (fun x => x = 0) 27),
  (true, 7, o_al 0),
  (true, 8, o_gf 3 0),
  (true, 11, o_al 0),
  (true, 12, o_gf 3 2),
  (true, 15, o_il 1),
  (true, 16, o_iw),
  (true, 17, o_al 0),
  (true, 18, o_dup),
  (true, 19, o_gf 3 2),
  (true, 22, o_ic 1),
  (true, 23, o_ii (fun x y => x + y)),
  (true, 24, o_pi 3 2),
  (true, 27, o_vr)]
set_option maxRecDepth 100000 in
set_option maxHeartbeats 4000000 in
theorem zk_X3_add (kc ks : Nat) : z_OK (zS RX3 cX3_add 2 "add" none 1 20 kc ks) zp_X3_add := by
  unfold zp_X3_add
  refine And.intro (s_aload_n dX3_add_0 rfl) ?_
  refine And.intro (s_callV (C := RX3) (T := TX3) (N := 4) rfl zf_X3_isFull zg_X3_isFull zl_367 ⟨rfl, rfl⟩ dX3_add_1) ?_
  refine And.intro (s_if_ne dX3_add_4 (by decide)) ?_
  refine And.intro (s_aload_n dX3_add_7 rfl) ?_
  refine And.intro (s_getf (C := RX3) (T := TX3) (N := 4) rfl zin_X3 (by decide) zl_122 dX3_add_8) ?_
  refine And.intro (s_aload_n dX3_add_11 rfl) ?_
  refine And.intro (s_getf (C := RX3) (T := TX3) (N := 4) rfl zin_X3 (by decide) zl_126 dX3_add_12) ?_
  refine And.intro (s_iload_n dX3_add_15 rfl) ?_
  refine And.intro (s_iastore dX3_add_16) ?_
  refine And.intro (s_aload_n dX3_add_17 rfl) ?_
  refine And.intro (s_dup dX3_add_18) ?_
  refine And.intro (s_getf (C := RX3) (T := TX3) (N := 4) rfl zin_X3 (by decide) zl_126 dX3_add_19) ?_
  refine And.intro (s_iconst dX3_add_22 (by decide)) ?_
  refine And.intro (s_iadd dX3_add_23) ?_
  refine And.intro (s_putI (C := RX3) (T := TX3) (N := 4) rfl zin_X3 (by decide) tyX3 tyX3_ok nmX3 zl_126 rfl (by decide +kernel) dX3_add_24) ?_
  refine And.intro (s_vreturn rfl dX3_add_27) ?_
  exact trivial
