def zp_X5_init (kc ks : Nat) : List (Bool × Nat × zOp) := [
  (true, 0, o_al 0),
  (true, 1, o_oi 61),
  (true, 4, o_al 0),
  (true, 5, o_new kc ks 3 zfs_X3),
  (true, 8, o_dup),
  (true, 9, o_ic 55),
  (true, 11, o_ci kc ks zi_X3_init 1),
  (true, 14, o_pr 5 0),
  (true, 17, o_al 0),
  (true, 18, o_new kc ks 3 zfs_X3),
  (true, 21, o_dup),
  (true, 22, o_ic 40),
  (true, 24, o_ci kc ks zi_X3_init 1),
  (true, 27, o_pr 5 1),
  (true, 30, o_al 0),
  (true, 31, o_new kc ks 4 zfs_X4),
  (true, 34, o_dup),
  (true, 35, o_ci kc ks zi_X4_init 0),
  (true, 38, o_pr 5 2),
  (true, 41, o_al 0),
  (true, 42, o_new kc ks 0 zfs_X0),
  (true, 45, o_dup),
  (true, 46, o_ci kc ks zi_X0_init 0),
  (true, 49, o_pr 5 3),
  (true, 52, o_al 0),
  (true, 53, o_new kc ks 0 zfs_X0),
  (true, 56, o_dup),
  (true, 57, o_ci kc ks zi_X0_init 0),
  (true, 60, o_pr 5 4),
  (true, 63, o_al 0),
  (true, 64, o_ic 64),
  (true, 66, o_na kc ks 0),
  (true, 68, o_pr 5 6),
  (true, 71, o_al 0),
  (true, 72, o_ic 40),
  (true, 74, o_na kc ks 0),
  (true, 76, o_pr 5 8),
  (true, 79, o_al 0),
  (true, 80, o_ic 200),
  (true, 83, o_na kc ks 0),
  (true, 85, o_pr 5 9),
  (true, 88, o_al 0),
  (true, 89, o_ic 8),
  (true, 91, o_na kc ks 0),
  (true, 93, o_pr 5 10),
  (true, 96, o_al 0),
  (true, 97, o_ic 8),
  (true, 99, o_na kc ks 0),
  (true, 101, o_pr 5 11),
  (true, 104, o_al 0),
  (true, 105, o_ic 8),
  (true, 107, o_na kc ks 0),
  (true, 109, o_pr 5 12),
  (true, 112, o_al 0),
  (true, 113, o_new kc ks 1 zfs_X1),
  (true, 116, o_dup),
  (true, 117, o_ci kc ks zi_X1_init 0),
  (true, 120, o_pr 5 14),
  (true, 123, o_vr)]
set_option maxRecDepth 100000 in
set_option maxHeartbeats 4000000 in
theorem zk_X5_init (kc ks : Nat) : z_OK (zS RX5 cX5_init 1 "<init>" none 3 61 kc ks) (zp_X5_init kc ks) := by
  unfold zp_X5_init
  refine And.intro (s_aload_n dX5_init_0 rfl) ?_
  refine And.intro (s_oinit zl_110 zl_111 zl_112 (by decide) dX5_init_1) ?_
  refine And.intro (s_aload_n dX5_init_4 rfl) ?_
  refine And.intro (s_new (C := RX3) (T := TX3) (N := 4) rfl zin_X3 tyX3 tyX3_ok zl_113 zl_114 zl_95 (fv := zfv_X3) (fun _ => rfl) (by decide +kernel) rfl dX5_init_5) ?_
  refine And.intro (s_dup dX5_init_8) ?_
  refine And.intro (s_bipush dX5_init_9 (by decide)) ?_
  refine And.intro (s_callIN zf_X3_init zl_116 rfl rfl zl_115 ⟨rfl, rfl⟩ dX5_init_11) ?_
  refine And.intro (s_putRF (ty := tyX5 0) (C := RX5) (T := TX5) (N := 16) rfl zin_X5 (by decide) tyX5 tyX5_ok nmX5 zl_299 rfl rfl rfl (tyX5_ok 0 (by decide)) (fun _ => ⟨rfl, rfl⟩) dX5_init_14) ?_
  refine And.intro (s_aload_n dX5_init_17 rfl) ?_
  refine And.intro (s_new (C := RX3) (T := TX3) (N := 4) rfl zin_X3 tyX3 tyX3_ok zl_113 zl_114 zl_95 (fv := zfv_X3) (fun _ => rfl) (by decide +kernel) rfl dX5_init_18) ?_
  refine And.intro (s_dup dX5_init_21) ?_
  refine And.intro (s_bipush dX5_init_22 (by decide)) ?_
  refine And.intro (s_callIN zf_X3_init zl_116 rfl rfl zl_115 ⟨rfl, rfl⟩ dX5_init_24) ?_
  refine And.intro (s_putRF (ty := tyX5 1) (C := RX5) (T := TX5) (N := 16) rfl zin_X5 (by decide) tyX5 tyX5_ok nmX5 zl_300 rfl rfl rfl (tyX5_ok 1 (by decide)) (fun _ => ⟨rfl, rfl⟩) dX5_init_27) ?_
  refine And.intro (s_aload_n dX5_init_30 rfl) ?_
  refine And.intro (s_new (C := RX4) (T := TX4) (N := 16) rfl zin_X4 tyX4 tyX4_ok zl_142 zl_143 zl_97 (fv := zfv_X4) (fun _ => rfl) (by decide +kernel) rfl dX5_init_31) ?_
  refine And.intro (s_dup dX5_init_34) ?_
  refine And.intro (s_callIN zf_X4_init zl_145 rfl rfl zl_144 ⟨rfl, rfl⟩ dX5_init_35) ?_
  refine And.intro (s_putRF (ty := tyX5 2) (C := RX5) (T := TX5) (N := 16) rfl zin_X5 (by decide) tyX5 tyX5_ok nmX5 zl_301 rfl rfl rfl (tyX5_ok 2 (by decide)) (fun _ => ⟨rfl, rfl⟩) dX5_init_38) ?_
  refine And.intro (s_aload_n dX5_init_41 rfl) ?_
  refine And.intro (s_new (C := RX0) (T := TX0) (N := 6) rfl zin_X0 tyX0 tyX0_ok zl_252 zl_253 zl_99 (fv := zfv_X0) (fun _ => rfl) (by decide +kernel) rfl dX5_init_42) ?_
  refine And.intro (s_dup dX5_init_45) ?_
  refine And.intro (s_callIN zf_X0_init zl_255 rfl rfl zl_254 ⟨rfl, rfl⟩ dX5_init_46) ?_
  refine And.intro (s_putRF (ty := tyX5 3) (C := RX5) (T := TX5) (N := 16) rfl zin_X5 (by decide) tyX5 tyX5_ok nmX5 zl_302 rfl rfl rfl (tyX5_ok 3 (by decide)) (fun _ => ⟨rfl, rfl⟩) dX5_init_49) ?_
  refine And.intro (s_aload_n dX5_init_52 rfl) ?_
  refine And.intro (s_new (C := RX0) (T := TX0) (N := 6) rfl zin_X0 tyX0 tyX0_ok zl_252 zl_253 zl_99 (fv := zfv_X0) (fun _ => rfl) (by decide +kernel) rfl dX5_init_53) ?_
  refine And.intro (s_dup dX5_init_56) ?_
  refine And.intro (s_callIN zf_X0_init zl_255 rfl rfl zl_254 ⟨rfl, rfl⟩ dX5_init_57) ?_
  refine And.intro (s_putRF (ty := tyX5 4) (C := RX5) (T := TX5) (N := 16) rfl zin_X5 (by decide) tyX5 tyX5_ok nmX5 zl_303 rfl rfl rfl (tyX5_ok 4 (by decide)) (fun _ => ⟨rfl, rfl⟩) dX5_init_60) ?_
  refine And.intro (s_aload_n dX5_init_63 rfl) ?_
  refine And.intro (s_bipush dX5_init_64 (by decide)) ?_
  refine And.intro (s_newa (at0 := .int) (by decide) rfl zl_141 dX5_init_66) ?_
  refine And.intro (s_putRF (ty := tyX5 6) (C := RX5) (T := TX5) (N := 16) rfl zin_X5 (by decide) tyX5 tyX5_ok nmX5 zl_305 rfl rfl rfl (tyX5_ok 6 (by decide)) (fun _ => ⟨rfl, rfl⟩) dX5_init_68) ?_
  refine And.intro (s_aload_n dX5_init_71 rfl) ?_
  refine And.intro (s_bipush dX5_init_72 (by decide)) ?_
  refine And.intro (s_newa (at0 := .int) (by decide) rfl zl_141 dX5_init_74) ?_
  refine And.intro (s_putRF (ty := tyX5 8) (C := RX5) (T := TX5) (N := 16) rfl zin_X5 (by decide) tyX5 tyX5_ok nmX5 zl_307 rfl rfl rfl (tyX5_ok 8 (by decide)) (fun _ => ⟨rfl, rfl⟩) dX5_init_76) ?_
  refine And.intro (s_aload_n dX5_init_79 rfl) ?_
  refine And.intro (s_sipush dX5_init_80 (by decide)) ?_
  refine And.intro (s_newa (at0 := .int) (by decide) rfl zl_141 dX5_init_83) ?_
  refine And.intro (s_putRF (ty := tyX5 9) (C := RX5) (T := TX5) (N := 16) rfl zin_X5 (by decide) tyX5 tyX5_ok nmX5 zl_308 rfl rfl rfl (tyX5_ok 9 (by decide)) (fun _ => ⟨rfl, rfl⟩) dX5_init_85) ?_
  refine And.intro (s_aload_n dX5_init_88 rfl) ?_
  refine And.intro (s_bipush dX5_init_89 (by decide)) ?_
  refine And.intro (s_newa (at0 := .int) (by decide) rfl zl_141 dX5_init_91) ?_
  refine And.intro (s_putRF (ty := tyX5 10) (C := RX5) (T := TX5) (N := 16) rfl zin_X5 (by decide) tyX5 tyX5_ok nmX5 zl_309 rfl rfl rfl (tyX5_ok 10 (by decide)) (fun _ => ⟨rfl, rfl⟩) dX5_init_93) ?_
  refine And.intro (s_aload_n dX5_init_96 rfl) ?_
  refine And.intro (s_bipush dX5_init_97 (by decide)) ?_
  refine And.intro (s_newa (at0 := .int) (by decide) rfl zl_141 dX5_init_99) ?_
  refine And.intro (s_putRF (ty := tyX5 11) (C := RX5) (T := TX5) (N := 16) rfl zin_X5 (by decide) tyX5 tyX5_ok nmX5 zl_310 rfl rfl rfl (tyX5_ok 11 (by decide)) (fun _ => ⟨rfl, rfl⟩) dX5_init_101) ?_
  refine And.intro (s_aload_n dX5_init_104 rfl) ?_
  refine And.intro (s_bipush dX5_init_105 (by decide)) ?_
  refine And.intro (s_newa (at0 := .int) (by decide) rfl zl_141 dX5_init_107) ?_
  refine And.intro (s_putRF (ty := tyX5 12) (C := RX5) (T := TX5) (N := 16) rfl zin_X5 (by decide) tyX5 tyX5_ok nmX5 zl_311 rfl rfl rfl (tyX5_ok 12 (by decide)) (fun _ => ⟨rfl, rfl⟩) dX5_init_109) ?_
  refine And.intro (s_aload_n dX5_init_112 rfl) ?_
  refine And.intro (s_new (C := RX1) (T := TX1) (N := 3) rfl zin_X1 tyX1 tyX1_ok zl_281 zl_282 zl_100 (fv := zfv_X1) (fun _ => rfl) (by decide +kernel) rfl dX5_init_113) ?_
  refine And.intro (s_dup dX5_init_116) ?_
  refine And.intro (s_callIN zf_X1_init zl_284 rfl rfl zl_283 ⟨rfl, rfl⟩ dX5_init_117) ?_
  refine And.intro (s_putRF (ty := tyX5 14) (C := RX5) (T := TX5) (N := 16) rfl zin_X5 (by decide) tyX5 tyX5_ok nmX5 zl_313 rfl rfl rfl (tyX5_ok 14 (by decide)) (fun _ => ⟨rfl, rfl⟩) dX5_init_120) ?_
  refine And.intro (s_vreturn rfl dX5_init_123) ?_
  exact trivial
def zp_X5_greatestAlike : List (Bool × Nat × zOp) := [
  (true, 0, o_ic 0),
  (true, 1, o_is 2),
  (true, 2, o_ic 0),
  (true, 3, o_is 3),
  (false, 4, o_mark 4 []),
  (true, 4, o_il 3),
  (true, 5, o_ic 4),
  (true, 6, o_cmp (fun x y => y < x) 30),
  (true, 9, o_il 2),
  (true, 10, o_al 0),
  (true, 11, o_gf 5 9),
  (true, 14, o_il 1),
  (true, 15, o_ic 5),
  (true, 16, o_ii (fun x y => x * y)),
  (true, 17, o_il 3),
  (true, 18, o_ii (fun x y => x + y)),
  (true, 19, o_ia),
  (true, 20, o_mi 21 (fun x y => if x < y then y else x)),
  (true, 23, o_is 2),
  (true, 24, o_inc 3 1),
  (true, 27, o_gb 4 []),
  (true, 30, o_il 2),
  (true, 31, o_ir)]
set_option maxRecDepth 100000 in
set_option maxHeartbeats 4000000 in
theorem zk_X5_greatestAlike (kc ks : Nat) : z_OK (zS RX5 cX5_greatestAlike 4 "greatestAlike" (some .int) 1 21 kc ks) zp_X5_greatestAlike := by
  unfold zp_X5_greatestAlike
  refine And.intro (s_iconst dX5_greatestAlike_0 (by decide)) ?_
  refine And.intro (s_istore_n dX5_greatestAlike_1 rfl) ?_
  refine And.intro (s_iconst dX5_greatestAlike_2 (by decide)) ?_
  refine And.intro (s_istore_n dX5_greatestAlike_3 rfl) ?_
  refine And.intro (s_mark) ?_
  refine And.intro (s_iload_n dX5_greatestAlike_4 rfl) ?_
  refine And.intro (s_iconst dX5_greatestAlike_5 (by decide)) ?_
  refine And.intro (s_icmp_gt dX5_greatestAlike_6 (by decide)) ?_
  refine And.intro (s_iload_n dX5_greatestAlike_9 rfl) ?_
  refine And.intro (s_aload_n dX5_greatestAlike_10 rfl) ?_
  refine And.intro (s_getf (C := RX5) (T := TX5) (N := 16) rfl zin_X5 (by decide) zl_308 dX5_greatestAlike_11) ?_
  refine And.intro (s_iload_n dX5_greatestAlike_14 rfl) ?_
  refine And.intro (s_iconst dX5_greatestAlike_15 (by decide)) ?_
  refine And.intro (s_imul dX5_greatestAlike_16) ?_
  refine And.intro (s_iload_n dX5_greatestAlike_17 rfl) ?_
  refine And.intro (s_iadd dX5_greatestAlike_18) ?_
  refine And.intro (s_iaload dX5_greatestAlike_19) ?_
  refine And.intro (s_mmax zl_659 zl_391 zl_96 zl_392 (by decide) dX5_greatestAlike_20) ?_
  refine And.intro (s_istore_n dX5_greatestAlike_23 rfl) ?_
  refine And.intro (s_iinc dX5_greatestAlike_24 (by decide)) ?_
  refine And.intro (s_gotob dX5_greatestAlike_27 (by decide)) ?_
  refine And.intro (s_iload_n dX5_greatestAlike_30 rfl) ?_
  refine And.intro (s_ireturn rfl (fun _ => rfl) dX5_greatestAlike_31) ?_
  exact trivial
def zp_X5_within : List (Bool × Nat × zOp) := [
  (true, 0, o_il 0),
  (true, 1, o_il 1),
  (true, 2, o_cmp (fun x y => x < y) 14),
  (true, 5, o_il 0),
  (true, 6, o_il 2),
  (true, 7, o_cmp (fun x y => y < x) 14),
  (true, 10, o_ic 1),
  (true, 11, o_go 15),
  (true, 14, o_ic 0),
  (true, 15, o_zr)]
set_option maxRecDepth 100000 in
set_option maxHeartbeats 4000000 in
theorem zk_X5_within (kc ks : Nat) : z_OK (zS RX5 cX5_within 3 "within" (some .boolean) 0 0 kc ks) zp_X5_within := by
  unfold zp_X5_within
  refine And.intro (s_iload_n dX5_within_0 rfl) ?_
  refine And.intro (s_iload_n dX5_within_1 rfl) ?_
  refine And.intro (s_icmp_lt dX5_within_2 (by decide)) ?_
  refine And.intro (s_iload_n dX5_within_5 rfl) ?_
  refine And.intro (s_iload_n dX5_within_6 rfl) ?_
  refine And.intro (s_icmp_gt dX5_within_7 (by decide)) ?_
  refine And.intro (s_iconst dX5_within_10 (by decide)) ?_
  refine And.intro (s_goto dX5_within_11 (by decide)) ?_
  refine And.intro (s_iconst dX5_within_14 (by decide)) ?_
  refine And.intro (s_zreturn rfl dX5_within_15) ?_
  exact trivial
def zp_X5_isHouse : List (Bool × Nat × zOp) := [
  (true, 0, o_il 1),
  (true, 1, o_ic 0),
  (true, 2, o_al 0),
  (true, 3, o_gf 5 2),
  (true, 6, o_gf 4 0),
  (true, 9, o_gf 2 6),
  (true, 12, o_ic 1),
  (true, 13, o_ii (fun x y => x - y)),
  (true, 14, o_cs zi_X5_within 3),
  (true, 17, o_zr)]
set_option maxRecDepth 100000 in
set_option maxHeartbeats 4000000 in
theorem zk_X5_isHouse (kc ks : Nat) : z_OK (zS RX5 cX5_isHouse 2 "isHouse" (some .boolean) 1 22 kc ks) zp_X5_isHouse := by
  unfold zp_X5_isHouse
  refine And.intro (s_iload_n dX5_isHouse_0 rfl) ?_
  refine And.intro (s_iconst dX5_isHouse_1 (by decide)) ?_
  refine And.intro (s_aload_n dX5_isHouse_2 rfl) ?_
  refine And.intro (s_getf (C := RX5) (T := TX5) (N := 16) rfl zin_X5 (by decide) zl_301 dX5_isHouse_3) ?_
  refine And.intro (s_getfN (C := RX4) (T := TX4) (N := 16) rfl zin_X4 (by decide) zl_189 dX5_isHouse_6) ?_
  refine And.intro (s_getfN (C := RX2) (T := TX2) (N := 7) rfl zin_X2 (by decide) zl_171 dX5_isHouse_9) ?_
  refine And.intro (s_iconst dX5_isHouse_12 (by decide)) ?_
  refine And.intro (s_isub dX5_isHouse_13) ?_
  refine And.intro (s_callS zf_X5_within zl_353 zl_352 ⟨rfl, rfl⟩ dX5_isHouse_14) ?_
  refine And.intro (s_zreturn rfl dX5_isHouse_17) ?_
  exact trivial
def zp_X5_partOf : List (Bool × Nat × zOp) := [
  (true, 0, o_il 0),
  (true, 1, o_ic 2147483647),
  (true, 3, o_cn (fun x y => x = y) 8),
  (true, 6, o_ic (-1)),
  (true, 7, o_ir),
  (true, 8, o_il 1),
  (true, 9, o_in (fun x => x = 0) 19),
  (true, 12, o_il 0),
  (true, 13, o_ic 64),
  (true, 15, o_iz (fun x y => x - x / y * y)),
  (true, 16, o_go 23),
  (true, 19, o_il 0),
  (true, 20, o_ic 64),
  (true, 22, o_iz (fun x y => x / y)),
  (true, 23, o_ir)]
set_option maxRecDepth 100000 in
set_option maxHeartbeats 4000000 in
theorem zk_X5_partOf (kc ks : Nat) : z_OK (zS RX5 cX5_partOf 2 "partOf" (some .int) 0 0 kc ks) zp_X5_partOf := by
  unfold zp_X5_partOf
  refine And.intro (s_iload_n dX5_partOf_0 rfl) ?_
  refine And.intro (s_ldc zl_554 dX5_partOf_1) ?_
  refine And.intro (s_icmp_ne dX5_partOf_3 (by decide)) ?_
  refine And.intro (s_iconst dX5_partOf_6 (by decide)) ?_
  refine And.intro (s_ireturn rfl (fun _ => rfl) dX5_partOf_7) ?_
  refine And.intro (s_iload_n dX5_partOf_8 rfl) ?_
  refine And.intro (s_if_ne dX5_partOf_9 (by decide)) ?_
  refine And.intro (s_iload_n dX5_partOf_12 rfl) ?_
  refine And.intro (s_bipush dX5_partOf_13 (by decide)) ?_
  refine And.intro (s_irem dX5_partOf_15) ?_
  refine And.intro (s_goto dX5_partOf_16 (by decide)) ?_
  refine And.intro (s_iload_n dX5_partOf_19 rfl) ?_
  refine And.intro (s_bipush dX5_partOf_20 (by decide)) ?_
  refine And.intro (s_idiv dX5_partOf_22) ?_
  refine And.intro (s_ireturn rfl (fun _ => rfl) dX5_partOf_23) ?_
  exact trivial
def zp_X5_comesOut : List (Bool × Nat × zOp) := [
  (true, 0, o_ic 0),
  (true, 1, o_is 2),
  (false, 2, o_mark 2 []),
  (true, 2, o_il 2),
  (true, 3, o_al 0),
  (true, 4, o_gf 5 13),
  (true, 7, o_cmp (fun x y => y ≤ x) 56),
  (true, 10, o_al 0),
  (true, 11, o_al 0),
  (true, 12, o_gf 5 11),
  (true, 15, o_il 2),
  (true, 16, o_ia),
  (true, 17, o_cv zi_X5_isHouse 1 5),
  (true, 20, o_if (fun x => x = 0) 48),
  (true, 23, o_al 1),
  (true, 24, o_al 0),
  (true, 25, o_gf 5 10),
  (true, 28, o_il 2),
  (true, 29, o_ia),
  (true, 30, o_al 0),
  (true, 31, o_gf 5 11),
  (true, 34, o_il 2),
  (true, 35, o_ia),
  (true, 36, o_cv zi_X0_gotBy 2 0),
  (true, 39, o_al 0),
  (true, 40, o_gf 5 12),
  (true, 43, o_il 2),
  (true, 44, o_ia),
  (true, 45, o_cmp (fun x y => x = y) 50),
  (true, 48, o_ic 0),
  (true, 49, o_zr),
  (true, 50, o_inc 2 1),
  (true, 53, o_gb 2 []),
  (true, 56, o_ic 1),
  (true, 57, o_zr)]
set_option maxRecDepth 100000 in
set_option maxHeartbeats 4000000 in
theorem zk_X5_comesOut (kc ks : Nat) : z_OK (zS RX5 cX5_comesOut 3 "comesOut" (some .boolean) 2 44 kc ks) zp_X5_comesOut := by
  unfold zp_X5_comesOut
  refine And.intro (s_iconst dX5_comesOut_0 (by decide)) ?_
  refine And.intro (s_istore_n dX5_comesOut_1 rfl) ?_
  refine And.intro (s_mark) ?_
  refine And.intro (s_iload_n dX5_comesOut_2 rfl) ?_
  refine And.intro (s_aload_n dX5_comesOut_3 rfl) ?_
  refine And.intro (s_getf (C := RX5) (T := TX5) (N := 16) rfl zin_X5 (by decide) zl_312 dX5_comesOut_4) ?_
  refine And.intro (s_icmp_ge dX5_comesOut_7 (by decide)) ?_
  refine And.intro (s_aload_n dX5_comesOut_10 rfl) ?_
  refine And.intro (s_aload_n dX5_comesOut_11 rfl) ?_
  refine And.intro (s_getf (C := RX5) (T := TX5) (N := 16) rfl zin_X5 (by decide) zl_310 dX5_comesOut_12) ?_
  refine And.intro (s_iload_n dX5_comesOut_15 rfl) ?_
  refine And.intro (s_iaload dX5_comesOut_16) ?_
  refine And.intro (s_callV (C := RX5) (T := TX5) (N := 16) rfl zf_X5_isHouse zg_X5_isHouse zl_419 ⟨rfl, rfl⟩ dX5_comesOut_17) ?_
  refine And.intro (s_if_eq dX5_comesOut_20 (by decide)) ?_
  refine And.intro (s_aload_n dX5_comesOut_23 rfl) ?_
  refine And.intro (s_aload_n dX5_comesOut_24 rfl) ?_
  refine And.intro (s_getf (C := RX5) (T := TX5) (N := 16) rfl zin_X5 (by decide) zl_309 dX5_comesOut_25) ?_
  refine And.intro (s_iload_n dX5_comesOut_28 rfl) ?_
  refine And.intro (s_iaload dX5_comesOut_29) ?_
  refine And.intro (s_aload_n dX5_comesOut_30 rfl) ?_
  refine And.intro (s_getf (C := RX5) (T := TX5) (N := 16) rfl zin_X5 (by decide) zl_310 dX5_comesOut_31) ?_
  refine And.intro (s_iload_n dX5_comesOut_34 rfl) ?_
  refine And.intro (s_iaload dX5_comesOut_35) ?_
  refine And.intro (s_callVN (C := RX0) (T := TX0) (N := 6) rfl zf_X0_gotBy zg_X0_gotBy zl_516 ⟨rfl, rfl⟩ dX5_comesOut_36) ?_
  refine And.intro (s_aload_n dX5_comesOut_39 rfl) ?_
  refine And.intro (s_getf (C := RX5) (T := TX5) (N := 16) rfl zin_X5 (by decide) zl_311 dX5_comesOut_40) ?_
  refine And.intro (s_iload_n dX5_comesOut_43 rfl) ?_
  refine And.intro (s_iaload dX5_comesOut_44) ?_
  refine And.intro (s_icmp_eq dX5_comesOut_45 (by decide)) ?_
  refine And.intro (s_iconst dX5_comesOut_48 (by decide)) ?_
  refine And.intro (s_zreturn rfl dX5_comesOut_49) ?_
  refine And.intro (s_iinc dX5_comesOut_50 (by decide)) ?_
  refine And.intro (s_gotob dX5_comesOut_53 (by decide)) ?_
  refine And.intro (s_iconst dX5_comesOut_56 (by decide)) ?_
  refine And.intro (s_zreturn rfl dX5_comesOut_57) ?_
  exact trivial
def zp_X5_tallyHours : List (Bool × Nat × zOp) := [
  (true, 0, o_ic 0),
  (true, 1, o_is 2),
  (false, 2, o_mark 2 [3]),
  (true, 2, o_il 2),
  (true, 3, o_ic 40),
  (true, 5, o_cmp (fun x y => y ≤ x) 47),
  (true, 8, o_al 0),
  (true, 9, o_gf 5 4),
  (true, 12, o_il 2),
  (true, 13, o_il 1),
  (true, 14, o_cv zi_X0_gotBy 2 0),
  (true, 17, o_is 3),
  (true, 18, o_il 3),
  (true, 19, o_ic 0),
  (true, 20, o_ic 4),
  (true, 21, o_cs zi_X5_within 3),
  (true, 24, o_if (fun x => x = 0) 41),
  (true, 27, o_al 0),
  (true, 28, o_gf 5 9),
  (true, 31, o_il 2),
  (true, 32, o_ic 5),
  (true, 33, o_ii (fun x y => x * y)),
  (true, 34, o_il 3),
  (true, 35, o_ii (fun x y => x + y)),
  (true, 36, o_dup2),
  (true, 37, o_ia),
  (true, 38, o_ic 1),
  (true, 39, o_ii (fun x y => x + y)),
  (true, 40, o_iw),
  (true, 41, o_inc 2 1),
  (true, 44, o_gb 2 [3]),
  (true, 47, o_vr)]
set_option maxRecDepth 100000 in
set_option maxHeartbeats 4000000 in
theorem zk_X5_tallyHours (kc ks : Nat) : z_OK (zS RX5 cX5_tallyHours 4 "tallyHours" none 2 44 kc ks) zp_X5_tallyHours := by
  unfold zp_X5_tallyHours
  refine And.intro (s_iconst dX5_tallyHours_0 (by decide)) ?_
  refine And.intro (s_istore_n dX5_tallyHours_1 rfl) ?_
  refine And.intro (s_mark) ?_
  refine And.intro (s_iload_n dX5_tallyHours_2 rfl) ?_
  refine And.intro (s_bipush dX5_tallyHours_3 (by decide)) ?_
  refine And.intro (s_icmp_ge dX5_tallyHours_5 (by decide)) ?_
  refine And.intro (s_aload_n dX5_tallyHours_8 rfl) ?_
  refine And.intro (s_getf (C := RX5) (T := TX5) (N := 16) rfl zin_X5 (by decide) zl_303 dX5_tallyHours_9) ?_
  refine And.intro (s_iload_n dX5_tallyHours_12 rfl) ?_
  refine And.intro (s_iload_n dX5_tallyHours_13 rfl) ?_
  refine And.intro (s_callVN (C := RX0) (T := TX0) (N := 6) rfl zf_X0_gotBy zg_X0_gotBy zl_516 ⟨rfl, rfl⟩ dX5_tallyHours_14) ?_
  refine And.intro (s_istore_n dX5_tallyHours_17 rfl) ?_
  refine And.intro (s_iload_n dX5_tallyHours_18 rfl) ?_
  refine And.intro (s_iconst dX5_tallyHours_19 (by decide)) ?_
  refine And.intro (s_iconst dX5_tallyHours_20 (by decide)) ?_
  refine And.intro (s_callS zf_X5_within zl_353 zl_352 ⟨rfl, rfl⟩ dX5_tallyHours_21) ?_
  refine And.intro (s_if_eq dX5_tallyHours_24 (by decide)) ?_
  refine And.intro (s_aload_n dX5_tallyHours_27 rfl) ?_
  refine And.intro (s_getf (C := RX5) (T := TX5) (N := 16) rfl zin_X5 (by decide) zl_308 dX5_tallyHours_28) ?_
  refine And.intro (s_iload_n dX5_tallyHours_31 rfl) ?_
  refine And.intro (s_iconst dX5_tallyHours_32 (by decide)) ?_
  refine And.intro (s_imul dX5_tallyHours_33) ?_
  refine And.intro (s_iload_n dX5_tallyHours_34 rfl) ?_
  refine And.intro (s_iadd dX5_tallyHours_35) ?_
  refine And.intro (s_dup2 dX5_tallyHours_36) ?_
  refine And.intro (s_iaload dX5_tallyHours_37) ?_
  refine And.intro (s_iconst dX5_tallyHours_38 (by decide)) ?_
  refine And.intro (s_iadd dX5_tallyHours_39) ?_
  refine And.intro (s_iastore dX5_tallyHours_40) ?_
  refine And.intro (s_iinc dX5_tallyHours_41 (by decide)) ?_
  refine And.intro (s_gotob dX5_tallyHours_44 (by decide)) ?_
  refine And.intro (s_vreturn rfl dX5_tallyHours_47) ?_
  exact trivial
def zp_X5_needOf : List (Bool × Nat × zOp) := [
  (true, 0, o_il 0),
  (true, 1, o_in (fun x => x = 0) 8),
  (true, 4, o_ic 1),
  (true, 5, o_go 18),
  (true, 8, o_il 0),
  (true, 9, o_ic 1),
  (true, 10, o_cn (fun x y => x = y) 17),
  (true, 13, o_ic 2),
  (true, 14, o_go 18),
  (true, 17, o_ic 4),
  (true, 18, o_ir)]
set_option maxRecDepth 100000 in
set_option maxHeartbeats 4000000 in
theorem zk_X5_needOf (kc ks : Nat) : z_OK (zS RX5 cX5_needOf 1 "needOf" (some .int) 0 0 kc ks) zp_X5_needOf := by
  unfold zp_X5_needOf
  refine And.intro (s_iload_n dX5_needOf_0 rfl) ?_
  refine And.intro (s_if_ne dX5_needOf_1 (by decide)) ?_
  refine And.intro (s_iconst dX5_needOf_4 (by decide)) ?_
  refine And.intro (s_goto dX5_needOf_5 (by decide)) ?_
  refine And.intro (s_iload_n dX5_needOf_8 rfl) ?_
  refine And.intro (s_iconst dX5_needOf_9 (by decide)) ?_
  refine And.intro (s_icmp_ne dX5_needOf_10 (by decide)) ?_
  refine And.intro (s_iconst dX5_needOf_13 (by decide)) ?_
  refine And.intro (s_goto dX5_needOf_14 (by decide)) ?_
  refine And.intro (s_iconst dX5_needOf_17 (by decide)) ?_
  refine And.intro (s_ireturn rfl (fun _ => rfl) dX5_needOf_18) ?_
  exact trivial
def zp_X5_tryWide : List (Bool × Nat × zOp) := [
  (true, 0, o_al 0),
  (true, 1, o_gf 5 2),
  (true, 4, o_gf 4 0),
  (true, 7, o_gf 2 2),
  (true, 10, o_il 1),
  (true, 11, o_ia),
  (true, 12, o_is 3),
  (true, 13, o_al 0),
  (true, 14, o_gf 5 2),
  (true, 17, o_gf 4 0),
  (true, 20, o_gf 2 2),
  (true, 23, o_il 1),
  (true, 24, o_il 2),
  (true, 25, o_iw),
  (true, 26, o_al 0),
  (true, 27, o_gf 5 4),
  (true, 30, o_al 0),
  (true, 31, o_gf 5 2),
  (true, 34, o_cv zi_X0_follow 1 0),
  (true, 37, o_al 0),
  (true, 38, o_gf 5 2),
  (true, 41, o_gf 4 0),
  (true, 44, o_gf 2 2),
  (true, 47, o_il 1),
  (true, 48, o_il 3),
  (true, 49, o_iw),
  (true, 50, o_vr)]
set_option maxRecDepth 100000 in
set_option maxHeartbeats 4000000 in
theorem zk_X5_tryWide (kc ks : Nat) : z_OK (zS RX5 cX5_tryWide 4 "tryWide" none 2 55 kc ks) zp_X5_tryWide := by
  unfold zp_X5_tryWide
  refine And.intro (s_aload_n dX5_tryWide_0 rfl) ?_
  refine And.intro (s_getf (C := RX5) (T := TX5) (N := 16) rfl zin_X5 (by decide) zl_301 dX5_tryWide_1) ?_
  refine And.intro (s_getfN (C := RX4) (T := TX4) (N := 16) rfl zin_X4 (by decide) zl_189 dX5_tryWide_4) ?_
  refine And.intro (s_getfN (C := RX2) (T := TX2) (N := 7) rfl zin_X2 (by decide) zl_162 dX5_tryWide_7) ?_
  refine And.intro (s_iload_n dX5_tryWide_10 rfl) ?_
  refine And.intro (s_iaload dX5_tryWide_11) ?_
  refine And.intro (s_istore_n dX5_tryWide_12 rfl) ?_
  refine And.intro (s_aload_n dX5_tryWide_13 rfl) ?_
  refine And.intro (s_getf (C := RX5) (T := TX5) (N := 16) rfl zin_X5 (by decide) zl_301 dX5_tryWide_14) ?_
  refine And.intro (s_getfN (C := RX4) (T := TX4) (N := 16) rfl zin_X4 (by decide) zl_189 dX5_tryWide_17) ?_
  refine And.intro (s_getfN (C := RX2) (T := TX2) (N := 7) rfl zin_X2 (by decide) zl_162 dX5_tryWide_20) ?_
  refine And.intro (s_iload_n dX5_tryWide_23 rfl) ?_
  refine And.intro (s_iload_n dX5_tryWide_24 rfl) ?_
  refine And.intro (s_iastore dX5_tryWide_25) ?_
  refine And.intro (s_aload_n dX5_tryWide_26 rfl) ?_
  refine And.intro (s_getf (C := RX5) (T := TX5) (N := 16) rfl zin_X5 (by decide) zl_303 dX5_tryWide_27) ?_
  refine And.intro (s_aload_n dX5_tryWide_30 rfl) ?_
  refine And.intro (s_getf (C := RX5) (T := TX5) (N := 16) rfl zin_X5 (by decide) zl_301 dX5_tryWide_31) ?_
  refine And.intro (s_callVN (C := RX0) (T := TX0) (N := 6) rfl zf_X0_follow zg_X0_follow zl_492 ⟨rfl, rfl⟩ dX5_tryWide_34) ?_
  refine And.intro (s_aload_n dX5_tryWide_37 rfl) ?_
  refine And.intro (s_getf (C := RX5) (T := TX5) (N := 16) rfl zin_X5 (by decide) zl_301 dX5_tryWide_38) ?_
  refine And.intro (s_getfN (C := RX4) (T := TX4) (N := 16) rfl zin_X4 (by decide) zl_189 dX5_tryWide_41) ?_
  refine And.intro (s_getfN (C := RX2) (T := TX2) (N := 7) rfl zin_X2 (by decide) zl_162 dX5_tryWide_44) ?_
  refine And.intro (s_iload_n dX5_tryWide_47 rfl) ?_
  refine And.intro (s_iload_n dX5_tryWide_48 rfl) ?_
  refine And.intro (s_iastore dX5_tryWide_49) ?_
  refine And.intro (s_vreturn rfl dX5_tryWide_50) ?_
  exact trivial
def zp_X5_tallyWidths : List (Bool × Nat × zOp) := [
  (true, 0, o_ic 0),
  (true, 1, o_is 2),
  (false, 2, o_mark 2 []),
  (true, 2, o_il 2),
  (true, 3, o_al 0),
  (true, 4, o_gf 5 9),
  (true, 7, o_len),
  (true, 8, o_cmp (fun x y => y ≤ x) 24),
  (true, 11, o_al 0),
  (true, 12, o_gf 5 9),
  (true, 15, o_il 2),
  (true, 16, o_ic 0),
  (true, 17, o_iw),
  (true, 18, o_inc 2 1),
  (true, 21, o_gb 2 []),
  (true, 24, o_ic 1),
  (true, 25, o_is 2),
  (false, 26, o_mark 26 []),
  (true, 26, o_il 2),
  (true, 27, o_ic 9),
  (true, 29, o_cmp (fun x y => y < x) 60),
  (true, 32, o_al 0),
  (true, 33, o_il 1),
  (true, 34, o_il 2),
  (true, 35, o_cv zi_X5_tryWide 2 5),
  (true, 38, o_al 0),
  (true, 39, o_al 0),
  (true, 40, o_gf 5 4),
  (true, 43, o_cv zi_X5_comesOut 1 5),
  (true, 46, o_if (fun x => x = 0) 54),
  (true, 49, o_al 0),
  (true, 50, o_il 1),
  (true, 51, o_cv zi_X5_tallyHours 1 5),
  (true, 54, o_inc 2 1),
  (true, 57, o_gb 26 []),
  (true, 60, o_vr)]
set_option maxRecDepth 100000 in
set_option maxHeartbeats 4000000 in
theorem zk_X5_tallyWidths (kc ks : Nat) : z_OK (zS RX5 cX5_tallyWidths 3 "tallyWidths" none 3 78 kc ks) zp_X5_tallyWidths := by
  unfold zp_X5_tallyWidths
  refine And.intro (s_iconst dX5_tallyWidths_0 (by decide)) ?_
  refine And.intro (s_istore_n dX5_tallyWidths_1 rfl) ?_
  refine And.intro (s_mark) ?_
  refine And.intro (s_iload_n dX5_tallyWidths_2 rfl) ?_
  refine And.intro (s_aload_n dX5_tallyWidths_3 rfl) ?_
  refine And.intro (s_getf (C := RX5) (T := TX5) (N := 16) rfl zin_X5 (by decide) zl_308 dX5_tallyWidths_4) ?_
  refine And.intro (s_alen dX5_tallyWidths_7) ?_
  refine And.intro (s_icmp_ge dX5_tallyWidths_8 (by decide)) ?_
  refine And.intro (s_aload_n dX5_tallyWidths_11 rfl) ?_
  refine And.intro (s_getf (C := RX5) (T := TX5) (N := 16) rfl zin_X5 (by decide) zl_308 dX5_tallyWidths_12) ?_
  refine And.intro (s_iload_n dX5_tallyWidths_15 rfl) ?_
  refine And.intro (s_iconst dX5_tallyWidths_16 (by decide)) ?_
  refine And.intro (s_iastore dX5_tallyWidths_17) ?_
  refine And.intro (s_iinc dX5_tallyWidths_18 (by decide)) ?_
  refine And.intro (s_gotob dX5_tallyWidths_21 (by decide)) ?_
  refine And.intro (s_iconst dX5_tallyWidths_24 (by decide)) ?_
  refine And.intro (s_istore_n dX5_tallyWidths_25 rfl) ?_
  refine And.intro (s_mark) ?_
  refine And.intro (s_iload_n dX5_tallyWidths_26 rfl) ?_
  refine And.intro (s_bipush dX5_tallyWidths_27 (by decide)) ?_
  refine And.intro (s_icmp_gt dX5_tallyWidths_29 (by decide)) ?_
  refine And.intro (s_aload_n dX5_tallyWidths_32 rfl) ?_
  refine And.intro (s_iload_n dX5_tallyWidths_33 rfl) ?_
  refine And.intro (s_iload_n dX5_tallyWidths_34 rfl) ?_
  refine And.intro (s_callV (C := RX5) (T := TX5) (N := 16) rfl zf_X5_tryWide zg_X5_tryWide zl_609 ⟨rfl, rfl⟩ dX5_tallyWidths_35) ?_
  refine And.intro (s_aload_n dX5_tallyWidths_38 rfl) ?_
  refine And.intro (s_aload_n dX5_tallyWidths_39 rfl) ?_
  refine And.intro (s_getf (C := RX5) (T := TX5) (N := 16) rfl zin_X5 (by decide) zl_303 dX5_tallyWidths_40) ?_
  refine And.intro (s_callV (C := RX5) (T := TX5) (N := 16) rfl zf_X5_comesOut zg_X5_comesOut zl_601 ⟨rfl, rfl⟩ dX5_tallyWidths_43) ?_
  refine And.intro (s_if_eq dX5_tallyWidths_46 (by decide)) ?_
  refine And.intro (s_aload_n dX5_tallyWidths_49 rfl) ?_
  refine And.intro (s_iload_n dX5_tallyWidths_50 rfl) ?_
  refine And.intro (s_callV (C := RX5) (T := TX5) (N := 16) rfl zf_X5_tallyHours zg_X5_tallyHours zl_651 ⟨rfl, rfl⟩ dX5_tallyWidths_51) ?_
  refine And.intro (s_iinc dX5_tallyWidths_54 (by decide)) ?_
  refine And.intro (s_gotob dX5_tallyWidths_57 (by decide)) ?_
  refine And.intro (s_vreturn rfl dX5_tallyWidths_60) ?_
  exact trivial
def zp_X5_ask : List (Bool × Nat × zOp) := [
  (true, 0, o_al 0),
  (true, 1, o_il 1),
  (true, 2, o_cv zi_X5_isHouse 1 5),
  (true, 5, o_in (fun x => x = 0) 11),
  (true, 8, o_ic (-2)),
  (true, 10, o_ir),
  (true, 11, o_al 0),
  (true, 12, o_il 1),
  (true, 13, o_cv zi_X5_tallyWidths 1 5),
  (true, 16, o_ic 2147483647),
  (true, 18, o_is 2),
  (true, 19, o_ic 0),
  (true, 20, o_is 3),
  (false, 21, o_mark 21 [1]),
  (true, 21, o_il 3),
  (true, 22, o_ic 40),
  (true, 24, o_cmp (fun x y => y ≤ x) 48),
  (true, 27, o_il 2),
  (true, 28, o_al 0),
  (true, 29, o_il 3),
  (true, 30, o_cv zi_X5_greatestAlike 1 5),
  (true, 33, o_ic 64),
  (true, 35, o_ii (fun x y => x * y)),
  (true, 36, o_il 3),
  (true, 37, o_ii (fun x y => x + y)),
  (true, 38, o_mi 100 (fun x y => if y < x then y else x)),
  (true, 41, o_is 2),
  (true, 42, o_inc 3 1),
  (true, 45, o_gb 21 [1]),
  (true, 48, o_il 2),
  (true, 49, o_ic 0),
  (true, 50, o_cs zi_X5_partOf 2),
  (true, 53, o_ir)]
set_option maxRecDepth 100000 in
set_option maxHeartbeats 4000000 in
theorem zk_X5_ask (kc ks : Nat) : z_OK (zS RX5 cX5_ask 4 "ask" (some .int) 4 100 kc ks) zp_X5_ask := by
  unfold zp_X5_ask
  refine And.intro (s_aload_n dX5_ask_0 rfl) ?_
  refine And.intro (s_iload_n dX5_ask_1 rfl) ?_
  refine And.intro (s_callV (C := RX5) (T := TX5) (N := 16) rfl zf_X5_isHouse zg_X5_isHouse zl_419 ⟨rfl, rfl⟩ dX5_ask_2) ?_
  refine And.intro (s_if_ne dX5_ask_5 (by decide)) ?_
  refine And.intro (s_bipush dX5_ask_8 (by decide)) ?_
  refine And.intro (s_ireturn rfl (fun _ => rfl) dX5_ask_10) ?_
  refine And.intro (s_aload_n dX5_ask_11 rfl) ?_
  refine And.intro (s_iload_n dX5_ask_12 rfl) ?_
  refine And.intro (s_callV (C := RX5) (T := TX5) (N := 16) rfl zf_X5_tallyWidths zg_X5_tallyWidths zl_647 ⟨rfl, rfl⟩ dX5_ask_13) ?_
  refine And.intro (s_ldc zl_554 dX5_ask_16) ?_
  refine And.intro (s_istore_n dX5_ask_18 rfl) ?_
  refine And.intro (s_iconst dX5_ask_19 (by decide)) ?_
  refine And.intro (s_istore_n dX5_ask_20 rfl) ?_
  refine And.intro (s_mark) ?_
  refine And.intro (s_iload_n dX5_ask_21 rfl) ?_
  refine And.intro (s_bipush dX5_ask_22 (by decide)) ?_
  refine And.intro (s_icmp_ge dX5_ask_24 (by decide)) ?_
  refine And.intro (s_iload_n dX5_ask_27 rfl) ?_
  refine And.intro (s_aload_n dX5_ask_28 rfl) ?_
  refine And.intro (s_iload_n dX5_ask_29 rfl) ?_
  refine And.intro (s_callV (C := RX5) (T := TX5) (N := 16) rfl zf_X5_greatestAlike zg_X5_greatestAlike zl_655 ⟨rfl, rfl⟩ dX5_ask_30) ?_
  refine And.intro (s_bipush dX5_ask_33 (by decide)) ?_
  refine And.intro (s_imul dX5_ask_35) ?_
  refine And.intro (s_iload_n dX5_ask_36 rfl) ?_
  refine And.intro (s_iadd dX5_ask_37) ?_
  refine And.intro (s_mmin zl_565 zl_120 zl_96 zl_121 (by decide) dX5_ask_38) ?_
  refine And.intro (s_istore_n dX5_ask_41 rfl) ?_
  refine And.intro (s_iinc dX5_ask_42 (by decide)) ?_
  refine And.intro (s_gotob dX5_ask_45 (by decide)) ?_
  refine And.intro (s_iload_n dX5_ask_48 rfl) ?_
  refine And.intro (s_iconst dX5_ask_49 (by decide)) ?_
  refine And.intro (s_callS zf_X5_partOf zl_567 zl_566 ⟨rfl, rfl⟩ dX5_ask_50) ?_
  refine And.intro (s_ireturn rfl (fun _ => rfl) dX5_ask_53) ?_
  exact trivial
def zp_X5_changed : List (Bool × Nat × zOp) := [
  (true, 0, o_al 0),
  (true, 1, o_ic 0),
  (true, 2, o_pz 5 5),
  (true, 5, o_al 0),
  (true, 6, o_ic 0),
  (true, 7, o_pz 5 7),
  (true, 10, o_vr)]
set_option maxRecDepth 100000 in
set_option maxHeartbeats 4000000 in
theorem zk_X5_changed (kc ks : Nat) : z_OK (zS RX5 cX5_changed 1 "changed" none 0 0 kc ks) zp_X5_changed := by
  unfold zp_X5_changed
  refine And.intro (s_aload_n dX5_changed_0 rfl) ?_
  refine And.intro (s_iconst dX5_changed_1 (by decide)) ?_
  refine And.intro (s_putZ (C := RX5) (T := TX5) (N := 16) rfl zin_X5 (by decide) tyX5 tyX5_ok nmX5 zl_304 rfl (by decide +kernel) dX5_changed_2) ?_
  refine And.intro (s_aload_n dX5_changed_5 rfl) ?_
  refine And.intro (s_iconst dX5_changed_6 (by decide)) ?_
  refine And.intro (s_putZ (C := RX5) (T := TX5) (N := 16) rfl zin_X5 (by decide) tyX5 tyX5_ok nmX5 zl_306 rfl (by decide +kernel) dX5_changed_7) ?_
  refine And.intro (s_vreturn rfl dX5_changed_10) ?_
  exact trivial
def zp_X5_back : List (Bool × Nat × zOp) := [
  (true, 0, o_il 1),
  (true, 1, o_ic 0),
  (true, 2, o_ic 1),
  (true, 3, o_cs zi_X5_within 3),
  (true, 6, o_in (fun x => x = 0) 12),
  (true, 9, o_ic (-2)),
  (true, 11, o_ir),
  (true, 12, o_il 1),
  (true, 13, o_in (fun x => x = 0) 26),
  (true, 16, o_al 0),
  (true, 17, o_gf 5 2),
  (true, 20, o_gf 4 9),
  (true, 23, o_go 33),
  (true, 26, o_al 0),
  (true, 27, o_gf 5 2),
  (true, 30, o_gf 4 13),
  (true, 33, o_is 2),
  (true, 34, o_il 2),
  (true, 35, o_in (fun x => x = 0) 41),
  (true, 38, o_ic (-3)),
  (true, 40, o_ir),
  (true, 41, o_il 1),
  (true, 42, o_in (fun x => x = 0) 61),
  (true, 45, o_al 0),
  (true, 46, o_gf 5 2),
  (true, 49, o_dup),
  (true, 50, o_gf 4 9),
  (true, 53, o_ic 1),
  (true, 54, o_ii (fun x y => x - y)),
  (true, 55, o_pi 4 9),
  (true, 58, o_go 74),
  (true, 61, o_al 0),
  (true, 62, o_gf 5 2),
  (true, 65, o_dup),
  (true, 66, o_gf 4 13),
  (true, 69, o_ic 1),
  (true, 70, o_ii (fun x y => x - y)),
  (true, 71, o_pi 4 13),
  (true, 74, o_al 0),
  (true, 75, o_cv zi_X5_changed 0 5),
  (true, 78, o_il 2),
  (true, 79, o_ic 1),
  (true, 80, o_ii (fun x y => x - y)),
  (true, 81, o_ir)]
set_option maxRecDepth 100000 in
set_option maxHeartbeats 4000000 in
theorem zk_X5_back (kc ks : Nat) : z_OK (zS RX5 cX5_back 3 "back" (some .int) 1 22 kc ks) zp_X5_back := by
  unfold zp_X5_back
  refine And.intro (s_iload_n dX5_back_0 rfl) ?_
  refine And.intro (s_iconst dX5_back_1 (by decide)) ?_
  refine And.intro (s_iconst dX5_back_2 (by decide)) ?_
  refine And.intro (s_callS zf_X5_within zl_353 zl_352 ⟨rfl, rfl⟩ dX5_back_3) ?_
  refine And.intro (s_if_ne dX5_back_6 (by decide)) ?_
  refine And.intro (s_bipush dX5_back_9 (by decide)) ?_
  refine And.intro (s_ireturn rfl (fun _ => rfl) dX5_back_11) ?_
  refine And.intro (s_iload_n dX5_back_12 rfl) ?_
  refine And.intro (s_if_ne dX5_back_13 (by decide)) ?_
  refine And.intro (s_aload_n dX5_back_16 rfl) ?_
  refine And.intro (s_getf (C := RX5) (T := TX5) (N := 16) rfl zin_X5 (by decide) zl_301 dX5_back_17) ?_
  refine And.intro (s_getfN (C := RX4) (T := TX4) (N := 16) rfl zin_X4 (by decide) zl_208 dX5_back_20) ?_
  refine And.intro (s_goto dX5_back_23 (by decide)) ?_
  refine And.intro (s_aload_n dX5_back_26 rfl) ?_
  refine And.intro (s_getf (C := RX5) (T := TX5) (N := 16) rfl zin_X5 (by decide) zl_301 dX5_back_27) ?_
  refine And.intro (s_getfN (C := RX4) (T := TX4) (N := 16) rfl zin_X4 (by decide) zl_214 dX5_back_30) ?_
  refine And.intro (s_istore_n dX5_back_33 rfl) ?_
  refine And.intro (s_iload_n dX5_back_34 rfl) ?_
  refine And.intro (s_if_ne dX5_back_35 (by decide)) ?_
  refine And.intro (s_bipush dX5_back_38 (by decide)) ?_
  refine And.intro (s_ireturn rfl (fun _ => rfl) dX5_back_40) ?_
  refine And.intro (s_iload_n dX5_back_41 rfl) ?_
  refine And.intro (s_if_ne dX5_back_42 (by decide)) ?_
  refine And.intro (s_aload_n dX5_back_45 rfl) ?_
  refine And.intro (s_getf (C := RX5) (T := TX5) (N := 16) rfl zin_X5 (by decide) zl_301 dX5_back_46) ?_
  refine And.intro (s_dup dX5_back_49) ?_
  refine And.intro (s_getfN (C := RX4) (T := TX4) (N := 16) rfl zin_X4 (by decide) zl_208 dX5_back_50) ?_
  refine And.intro (s_iconst dX5_back_53 (by decide)) ?_
  refine And.intro (s_isub dX5_back_54) ?_
  refine And.intro (s_putIN (C := RX4) (T := TX4) (N := 16) rfl zin_X4 (by decide) tyX4 tyX4_ok nmX4 zl_208 rfl (by decide +kernel) dX5_back_55) ?_
  refine And.intro (s_goto dX5_back_58 (by decide)) ?_
  refine And.intro (s_aload_n dX5_back_61 rfl) ?_
  refine And.intro (s_getf (C := RX5) (T := TX5) (N := 16) rfl zin_X5 (by decide) zl_301 dX5_back_62) ?_
  refine And.intro (s_dup dX5_back_65) ?_
  refine And.intro (s_getfN (C := RX4) (T := TX4) (N := 16) rfl zin_X4 (by decide) zl_214 dX5_back_66) ?_
  refine And.intro (s_iconst dX5_back_69 (by decide)) ?_
  refine And.intro (s_isub dX5_back_70) ?_
  refine And.intro (s_putIN (C := RX4) (T := TX4) (N := 16) rfl zin_X4 (by decide) tyX4 tyX4_ok nmX4 zl_214 rfl (by decide +kernel) dX5_back_71) ?_
  refine And.intro (s_aload_n dX5_back_74 rfl) ?_
  refine And.intro (s_callV (C := RX5) (T := TX5) (N := 16) rfl zf_X5_changed zg_X5_changed zl_399 ⟨rfl, rfl⟩ dX5_back_75) ?_
  refine And.intro (s_iload_n dX5_back_78 rfl) ?_
  refine And.intro (s_iconst dX5_back_79 (by decide)) ?_
  refine And.intro (s_isub dX5_back_80) ?_
  refine And.intro (s_ireturn rfl (fun _ => rfl) dX5_back_81) ?_
  exact trivial
def zp_X5_isHour : List (Bool × Nat × zOp) := [
  (true, 0, o_il 0),
  (true, 1, o_ic 0),
  (true, 2, o_ic 39),
  (true, 4, o_cs zi_X5_within 3),
  (true, 7, o_zr)]
set_option maxRecDepth 100000 in
set_option maxHeartbeats 4000000 in
theorem zk_X5_isHour (kc ks : Nat) : z_OK (zS RX5 cX5_isHour 1 "isHour" (some .boolean) 1 22 kc ks) zp_X5_isHour := by
  unfold zp_X5_isHour
  refine And.intro (s_iload_n dX5_isHour_0 rfl) ?_
  refine And.intro (s_iconst dX5_isHour_1 (by decide)) ?_
  refine And.intro (s_bipush dX5_isHour_2 (by decide)) ?_
  refine And.intro (s_callS zf_X5_within zl_353 zl_352 ⟨rfl, rfl⟩ dX5_isHour_4) ?_
  refine And.intro (s_zreturn rfl dX5_isHour_7) ?_
  exact trivial
def zp_X5_toldCourse : List (Bool × Nat × zOp) := [
  (true, 0, o_al 0),
  (true, 1, o_gf 5 5),
  (true, 4, o_in (fun x => x = 0) 23),
  (true, 7, o_al 0),
  (true, 8, o_gf 5 3),
  (true, 11, o_al 0),
  (true, 12, o_gf 5 2),
  (true, 15, o_cv zi_X0_follow 1 0),
  (true, 18, o_al 0),
  (true, 19, o_ic 1),
  (true, 20, o_pz 5 5),
  (true, 23, o_al 0),
  (true, 24, o_gf 5 3),
  (true, 27, o_ar)]
set_option maxRecDepth 100000 in
set_option maxHeartbeats 4000000 in
theorem zk_X5_toldCourse (kc ks : Nat) : z_OK (zS RX5 cX5_toldCourse 1 "toldCourse" (some (.object "TownBagpipes$Course")) 2 55 kc ks) zp_X5_toldCourse := by
  unfold zp_X5_toldCourse
  refine And.intro (s_aload_n dX5_toldCourse_0 rfl) ?_
  refine And.intro (s_getf (C := RX5) (T := TX5) (N := 16) rfl zin_X5 (by decide) zl_304 dX5_toldCourse_1) ?_
  refine And.intro (s_if_ne dX5_toldCourse_4 (by decide)) ?_
  refine And.intro (s_aload_n dX5_toldCourse_7 rfl) ?_
  refine And.intro (s_getf (C := RX5) (T := TX5) (N := 16) rfl zin_X5 (by decide) zl_302 dX5_toldCourse_8) ?_
  refine And.intro (s_aload_n dX5_toldCourse_11 rfl) ?_
  refine And.intro (s_getf (C := RX5) (T := TX5) (N := 16) rfl zin_X5 (by decide) zl_301 dX5_toldCourse_12) ?_
  refine And.intro (s_callVN (C := RX0) (T := TX0) (N := 6) rfl zf_X0_follow zg_X0_follow zl_492 ⟨rfl, rfl⟩ dX5_toldCourse_15) ?_
  refine And.intro (s_aload_n dX5_toldCourse_18 rfl) ?_
  refine And.intro (s_iconst dX5_toldCourse_19 (by decide)) ?_
  refine And.intro (s_putZ (C := RX5) (T := TX5) (N := 16) rfl zin_X5 (by decide) tyX5 tyX5_ok nmX5 zl_304 rfl (by decide +kernel) dX5_toldCourse_20) ?_
  refine And.intro (s_aload_n dX5_toldCourse_23 rfl) ?_
  refine And.intro (s_getf (C := RX5) (T := TX5) (N := 16) rfl zin_X5 (by decide) zl_302 dX5_toldCourse_24) ?_
  refine And.intro (s_areturn rfl (Or.inl ⟨_, rfl⟩) dX5_toldCourse_27) ?_
  exact trivial
def zp_X5_bag : List (Bool × Nat × zOp) := [
  (true, 0, o_il 1),
  (true, 1, o_cs zi_X5_isHour 1),
  (true, 4, o_if (fun x => x = 0) 16),
  (true, 7, o_il 2),
  (true, 8, o_ic 0),
  (true, 9, o_ic 3),
  (true, 10, o_cs zi_X5_within 3),
  (true, 13, o_in (fun x => x = 0) 19),
  (true, 16, o_ic (-2)),
  (true, 18, o_ir),
  (true, 19, o_al 0),
  (true, 20, o_cv zi_X5_toldCourse 0 5),
  (true, 23, o_as 3),
  (true, 24, o_il 2),
  (true, 25, o_sw 0 [52, 59, 66] 73),
  (true, 52, o_al 3),
  (true, 53, o_gf 0 0),
  (true, 56, o_il 1),
  (true, 57, o_ia),
  (true, 58, o_ir),
  (true, 59, o_al 3),
  (true, 60, o_gf 0 1),
  (true, 63, o_il 1),
  (true, 64, o_ia),
  (true, 65, o_ir),
  (true, 66, o_al 3),
  (true, 67, o_gf 0 2),
  (true, 70, o_il 1),
  (true, 71, o_ia),
  (true, 72, o_ir),
  (true, 73, o_al 3),
  (true, 74, o_gf 0 3),
  (true, 77, o_il 1),
  (true, 78, o_ia),
  (true, 79, o_ir)]
set_option maxRecDepth 100000 in
set_option maxHeartbeats 4000000 in
theorem zk_X5_bag (kc ks : Nat) : z_OK (zS RX5 cX5_bag 4 "bag" (some .int) 3 75 kc ks) zp_X5_bag := by
  unfold zp_X5_bag
  refine And.intro (s_iload_n dX5_bag_0 rfl) ?_
  refine And.intro (s_callS zf_X5_isHour zl_432 zl_431 ⟨rfl, rfl⟩ dX5_bag_1) ?_
  refine And.intro (s_if_eq dX5_bag_4 (by decide)) ?_
  refine And.intro (s_iload_n dX5_bag_7 rfl) ?_
  refine And.intro (s_iconst dX5_bag_8 (by decide)) ?_
  refine And.intro (s_iconst dX5_bag_9 (by decide)) ?_
  refine And.intro (s_callS zf_X5_within zl_353 zl_352 ⟨rfl, rfl⟩ dX5_bag_10) ?_
  refine And.intro (s_if_ne dX5_bag_13 (by decide)) ?_
  refine And.intro (s_bipush dX5_bag_16 (by decide)) ?_
  refine And.intro (s_ireturn rfl (fun _ => rfl) dX5_bag_18) ?_
  refine And.intro (s_aload_n dX5_bag_19 rfl) ?_
  refine And.intro (s_callV (C := RX5) (T := TX5) (N := 16) rfl zf_X5_toldCourse zg_X5_toldCourse zl_488 ⟨rfl, rfl⟩ dX5_bag_20) ?_
  refine And.intro (s_astore_n dX5_bag_23 rfl) ?_
  refine And.intro (s_iload_n dX5_bag_24 rfl) ?_
  refine And.intro (s_tsw dX5_bag_25 (by decide) (by decide) (by decide)) ?_
  refine And.intro (s_aload_n dX5_bag_52 rfl) ?_
  refine And.intro (s_getfN (C := RX0) (T := TX0) (N := 6) rfl zin_X0 (by decide) zl_259 dX5_bag_53) ?_
  refine And.intro (s_iload_n dX5_bag_56 rfl) ?_
  refine And.intro (s_iaload dX5_bag_57) ?_
  refine And.intro (s_ireturn rfl (fun _ => rfl) dX5_bag_58) ?_
  refine And.intro (s_aload_n dX5_bag_59 rfl) ?_
  refine And.intro (s_getfN (C := RX0) (T := TX0) (N := 6) rfl zin_X0 (by decide) zl_261 dX5_bag_60) ?_
  refine And.intro (s_iload_n dX5_bag_63 rfl) ?_
  refine And.intro (s_iaload dX5_bag_64) ?_
  refine And.intro (s_ireturn rfl (fun _ => rfl) dX5_bag_65) ?_
  refine And.intro (s_aload_n dX5_bag_66 rfl) ?_
  refine And.intro (s_getfN (C := RX0) (T := TX0) (N := 6) rfl zin_X0 (by decide) zl_263 dX5_bag_67) ?_
  refine And.intro (s_iload_n dX5_bag_70 rfl) ?_
  refine And.intro (s_iaload dX5_bag_71) ?_
  refine And.intro (s_ireturn rfl (fun _ => rfl) dX5_bag_72) ?_
  refine And.intro (s_aload_n dX5_bag_73 rfl) ?_
  refine And.intro (s_getfN (C := RX0) (T := TX0) (N := 6) rfl zin_X0 (by decide) zl_265 dX5_bag_74) ?_
  refine And.intro (s_iload_n dX5_bag_77 rfl) ?_
  refine And.intro (s_iaload dX5_bag_78) ?_
  refine And.intro (s_ireturn rfl (fun _ => rfl) dX5_bag_79) ?_
  exact trivial
def zp_X5_found : List (Bool × Nat × zOp) := [
  (true, 0, o_al 0),
  (true, 1, o_il 1),
  (true, 2, o_pi 5 15),
  (true, 5, o_ic (-10)),
  (true, 7, o_il 1),
  (true, 8, o_ii (fun x y => x - y)),
  (true, 9, o_ir)]
set_option maxRecDepth 100000 in
set_option maxHeartbeats 4000000 in
theorem zk_X5_found (kc ks : Nat) : z_OK (zS RX5 cX5_found 2 "found" (some .int) 0 0 kc ks) zp_X5_found := by
  unfold zp_X5_found
  refine And.intro (s_aload_n dX5_found_0 rfl) ?_
  refine And.intro (s_iload_n dX5_found_1 rfl) ?_
  refine And.intro (s_putI (C := RX5) (T := TX5) (N := 16) rfl zin_X5 (by decide) tyX5 tyX5_ok nmX5 zl_314 rfl (by decide +kernel) dX5_found_2) ?_
  refine And.intro (s_bipush dX5_found_5 (by decide)) ?_
  refine And.intro (s_iload_n dX5_found_7 rfl) ?_
  refine And.intro (s_isub dX5_found_8) ?_
  refine And.intro (s_ireturn rfl (fun _ => rfl) dX5_found_9) ?_
  exact trivial
def zp_X5_isSheet : List (Bool × Nat × zOp) := [
  (true, 0, o_il 0),
  (true, 1, o_ic 0),
  (true, 2, o_ic 3),
  (true, 3, o_cs zi_X5_within 3),
  (true, 6, o_zr)]
set_option maxRecDepth 100000 in
set_option maxHeartbeats 4000000 in
theorem zk_X5_isSheet (kc ks : Nat) : z_OK (zS RX5 cX5_isSheet 1 "isSheet" (some .boolean) 1 22 kc ks) zp_X5_isSheet := by
  unfold zp_X5_isSheet
  refine And.intro (s_iload_n dX5_isSheet_0 rfl) ?_
  refine And.intro (s_iconst dX5_isSheet_1 (by decide)) ?_
  refine And.intro (s_iconst dX5_isSheet_2 (by decide)) ?_
  refine And.intro (s_callS zf_X5_within zl_353 zl_352 ⟨rfl, rfl⟩ dX5_isSheet_3) ?_
  refine And.intro (s_zreturn rfl dX5_isSheet_6) ?_
  exact trivial
def zp_X5_copy : List (Bool × Nat × zOp) := [
  (true, 0, o_il 1),
  (true, 1, o_cs zi_X5_isSheet 1),
  (true, 4, o_if (fun x => x = 0) 14),
  (true, 7, o_il 3),
  (true, 8, o_cs zi_X5_isSheet 1),
  (true, 11, o_in (fun x => x = 0) 17),
  (true, 14, o_ic (-2)),
  (true, 16, o_ir),
  (true, 17, o_al 0),
  (true, 18, o_gf 5 14),
  (true, 21, o_il 1),
  (true, 22, o_cv zi_X1_isLost 1 1),
  (true, 25, o_in (fun x => x = 0) 39),
  (true, 28, o_al 0),
  (true, 29, o_gf 5 14),
  (true, 32, o_il 3),
  (true, 33, o_cv zi_X1_isLost 1 1),
  (true, 36, o_if (fun x => x = 0) 45),
  (true, 39, o_al 0),
  (true, 40, o_ic 1),
  (true, 41, o_cv zi_X5_found 1 5),
  (true, 44, o_ir),
  (true, 45, o_al 0),
  (true, 46, o_gf 5 14),
  (true, 49, o_gf 1 0),
  (true, 52, o_il 1),
  (true, 53, o_ia),
  (true, 54, o_al 0),
  (true, 55, o_gf 5 14),
  (true, 58, o_gf 1 0),
  (true, 61, o_il 3),
  (true, 62, o_ia),
  (true, 63, o_cmp (fun x y => x = y) 72),
  (true, 66, o_al 0),
  (true, 67, o_ic 4),
  (true, 68, o_cv zi_X5_found 1 5),
  (true, 71, o_ir),
  (true, 72, o_al 0),
  (true, 73, o_gf 5 14),
  (true, 76, o_il 1),
  (true, 77, o_il 2),
  (true, 78, o_il 5),
  (true, 80, o_cv zi_X1_has 3 1),
  (true, 83, o_if (fun x => x = 0) 101),
  (true, 86, o_al 0),
  (true, 87, o_gf 5 14),
  (true, 90, o_il 3),
  (true, 91, o_il 4),
  (true, 93, o_il 5),
  (true, 95, o_cv zi_X1_has 3 1),
  (true, 98, o_in (fun x => x = 0) 107),
  (true, 101, o_al 0),
  (true, 102, o_ic 2),
  (true, 103, o_cv zi_X5_found 1 5),
  (true, 106, o_ir),
  (true, 107, o_al 0),
  (true, 108, o_gf 5 14),
  (true, 111, o_il 1),
  (true, 112, o_il 2),
  (true, 113, o_il 3),
  (true, 114, o_il 4),
  (true, 116, o_il 5),
  (true, 118, o_cv zi_X1_move 5 1),
  (true, 121, o_ic 1),
  (true, 122, o_ir)]
set_option maxRecDepth 100000 in
set_option maxHeartbeats 4000000 in
theorem zk_X5_copy (kc ks : Nat) : z_OK (zS RX5 cX5_copy 6 "copy" (some .int) 2 65 kc ks) zp_X5_copy := by
  unfold zp_X5_copy
  refine And.intro (s_iload_n dX5_copy_0 rfl) ?_
  refine And.intro (s_callS zf_X5_isSheet zl_466 zl_465 ⟨rfl, rfl⟩ dX5_copy_1) ?_
  refine And.intro (s_if_eq dX5_copy_4 (by decide)) ?_
  refine And.intro (s_iload_n dX5_copy_7 rfl) ?_
  refine And.intro (s_callS zf_X5_isSheet zl_466 zl_465 ⟨rfl, rfl⟩ dX5_copy_8) ?_
  refine And.intro (s_if_ne dX5_copy_11 (by decide)) ?_
  refine And.intro (s_bipush dX5_copy_14 (by decide)) ?_
  refine And.intro (s_ireturn rfl (fun _ => rfl) dX5_copy_16) ?_
  refine And.intro (s_aload_n dX5_copy_17 rfl) ?_
  refine And.intro (s_getf (C := RX5) (T := TX5) (N := 16) rfl zin_X5 (by decide) zl_313 dX5_copy_18) ?_
  refine And.intro (s_iload_n dX5_copy_21 rfl) ?_
  refine And.intro (s_callVN (C := RX1) (T := TX1) (N := 3) rfl zf_X1_isLost zg_X1_isLost zl_468 ⟨rfl, rfl⟩ dX5_copy_22) ?_
  refine And.intro (s_if_ne dX5_copy_25 (by decide)) ?_
  refine And.intro (s_aload_n dX5_copy_28 rfl) ?_
  refine And.intro (s_getf (C := RX5) (T := TX5) (N := 16) rfl zin_X5 (by decide) zl_313 dX5_copy_29) ?_
  refine And.intro (s_iload_n dX5_copy_32 rfl) ?_
  refine And.intro (s_callVN (C := RX1) (T := TX1) (N := 3) rfl zf_X1_isLost zg_X1_isLost zl_468 ⟨rfl, rfl⟩ dX5_copy_33) ?_
  refine And.intro (s_if_eq dX5_copy_36 (by decide)) ?_
  refine And.intro (s_aload_n dX5_copy_39 rfl) ?_
  refine And.intro (s_iconst dX5_copy_40 (by decide)) ?_
  refine And.intro (s_callV (C := RX5) (T := TX5) (N := 16) rfl zf_X5_found zg_X5_found zl_472 ⟨rfl, rfl⟩ dX5_copy_41) ?_
  refine And.intro (s_ireturn rfl (fun _ => rfl) dX5_copy_44) ?_
  refine And.intro (s_aload_n dX5_copy_45 rfl) ?_
  refine And.intro (s_getf (C := RX5) (T := TX5) (N := 16) rfl zin_X5 (by decide) zl_313 dX5_copy_46) ?_
  refine And.intro (s_getfN (C := RX1) (T := TX1) (N := 3) rfl zin_X1 (by decide) zl_288 dX5_copy_49) ?_
  refine And.intro (s_iload_n dX5_copy_52 rfl) ?_
  refine And.intro (s_iaload dX5_copy_53) ?_
  refine And.intro (s_aload_n dX5_copy_54 rfl) ?_
  refine And.intro (s_getf (C := RX5) (T := TX5) (N := 16) rfl zin_X5 (by decide) zl_313 dX5_copy_55) ?_
  refine And.intro (s_getfN (C := RX1) (T := TX1) (N := 3) rfl zin_X1 (by decide) zl_288 dX5_copy_58) ?_
  refine And.intro (s_iload_n dX5_copy_61 rfl) ?_
  refine And.intro (s_iaload dX5_copy_62) ?_
  refine And.intro (s_icmp_eq dX5_copy_63 (by decide)) ?_
  refine And.intro (s_aload_n dX5_copy_66 rfl) ?_
  refine And.intro (s_iconst dX5_copy_67 (by decide)) ?_
  refine And.intro (s_callV (C := RX5) (T := TX5) (N := 16) rfl zf_X5_found zg_X5_found zl_472 ⟨rfl, rfl⟩ dX5_copy_68) ?_
  refine And.intro (s_ireturn rfl (fun _ => rfl) dX5_copy_71) ?_
  refine And.intro (s_aload_n dX5_copy_72 rfl) ?_
  refine And.intro (s_getf (C := RX5) (T := TX5) (N := 16) rfl zin_X5 (by decide) zl_313 dX5_copy_73) ?_
  refine And.intro (s_iload_n dX5_copy_76 rfl) ?_
  refine And.intro (s_iload_n dX5_copy_77 rfl) ?_
  refine And.intro (s_iload dX5_copy_78) ?_
  refine And.intro (s_callVN (C := RX1) (T := TX1) (N := 3) rfl zf_X1_has zg_X1_has zl_717 ⟨rfl, rfl⟩ dX5_copy_80) ?_
  refine And.intro (s_if_eq dX5_copy_83 (by decide)) ?_
  refine And.intro (s_aload_n dX5_copy_86 rfl) ?_
  refine And.intro (s_getf (C := RX5) (T := TX5) (N := 16) rfl zin_X5 (by decide) zl_313 dX5_copy_87) ?_
  refine And.intro (s_iload_n dX5_copy_90 rfl) ?_
  refine And.intro (s_iload dX5_copy_91) ?_
  refine And.intro (s_iload dX5_copy_93) ?_
  refine And.intro (s_callVN (C := RX1) (T := TX1) (N := 3) rfl zf_X1_has zg_X1_has zl_717 ⟨rfl, rfl⟩ dX5_copy_95) ?_
  refine And.intro (s_if_ne dX5_copy_98 (by decide)) ?_
  refine And.intro (s_aload_n dX5_copy_101 rfl) ?_
  refine And.intro (s_iconst dX5_copy_102 (by decide)) ?_
  refine And.intro (s_callV (C := RX5) (T := TX5) (N := 16) rfl zf_X5_found zg_X5_found zl_472 ⟨rfl, rfl⟩ dX5_copy_103) ?_
  refine And.intro (s_ireturn rfl (fun _ => rfl) dX5_copy_106) ?_
  refine And.intro (s_aload_n dX5_copy_107 rfl) ?_
  refine And.intro (s_getf (C := RX5) (T := TX5) (N := 16) rfl zin_X5 (by decide) zl_313 dX5_copy_108) ?_
  refine And.intro (s_iload_n dX5_copy_111 rfl) ?_
  refine And.intro (s_iload_n dX5_copy_112 rfl) ?_
  refine And.intro (s_iload_n dX5_copy_113 rfl) ?_
  refine And.intro (s_iload dX5_copy_114) ?_
  refine And.intro (s_iload dX5_copy_116) ?_
  refine And.intro (s_callVN (C := RX1) (T := TX1) (N := 3) rfl zf_X1_move zg_X1_move zl_731 ⟨rfl, rfl⟩ dX5_copy_118) ?_
  refine And.intro (s_iconst dX5_copy_121 (by decide)) ?_
  refine And.intro (s_ireturn rfl (fun _ => rfl) dX5_copy_122) ?_
  exact trivial
def zp_X5_count : List (Bool × Nat × zOp) := [
  (true, 0, o_il 1),
  (true, 1, o_sw 0 [52, 63, 71, 79, 87, 95, 103, 111, 116] 121),
  (true, 52, o_al 0),
  (true, 53, o_gf 5 2),
  (true, 56, o_gf 4 0),
  (true, 59, o_gf 2 6),
  (true, 62, o_ir),
  (true, 63, o_al 0),
  (true, 64, o_gf 5 2),
  (true, 67, o_gf 4 2),
  (true, 70, o_ir),
  (true, 71, o_al 0),
  (true, 72, o_gf 5 0),
  (true, 75, o_gf 3 2),
  (true, 78, o_ir),
  (true, 79, o_al 0),
  (true, 80, o_gf 5 1),
  (true, 83, o_gf 3 2),
  (true, 86, o_ir),
  (true, 87, o_al 0),
  (true, 88, o_gf 5 2),
  (true, 91, o_gf 4 9),
  (true, 94, o_ir),
  (true, 95, o_al 0),
  (true, 96, o_gf 5 2),
  (true, 99, o_gf 4 13),
  (true, 102, o_ir),
  (true, 103, o_al 0),
  (true, 104, o_cv zi_X5_toldCourse 0 5),
  (true, 107, o_cv zi_X0_shortsInAll 0 0),
  (true, 110, o_ir),
  (true, 111, o_al 0),
  (true, 112, o_gf 5 13),
  (true, 115, o_ir),
  (true, 116, o_al 0),
  (true, 117, o_gf 5 15),
  (true, 120, o_ir),
  (true, 121, o_ic (-2)),
  (true, 123, o_ir)]
set_option maxRecDepth 100000 in
set_option maxHeartbeats 4000000 in
theorem zk_X5_count (kc ks : Nat) : z_OK (zS RX5 cX5_count 2 "count" (some .int) 3 75 kc ks) zp_X5_count := by
  unfold zp_X5_count
  refine And.intro (s_iload_n dX5_count_0 rfl) ?_
  refine And.intro (s_tsw dX5_count_1 (by decide) (by decide) (by decide)) ?_
  refine And.intro (s_aload_n dX5_count_52 rfl) ?_
  refine And.intro (s_getf (C := RX5) (T := TX5) (N := 16) rfl zin_X5 (by decide) zl_301 dX5_count_53) ?_
  refine And.intro (s_getfN (C := RX4) (T := TX4) (N := 16) rfl zin_X4 (by decide) zl_189 dX5_count_56) ?_
  refine And.intro (s_getfN (C := RX2) (T := TX2) (N := 7) rfl zin_X2 (by decide) zl_171 dX5_count_59) ?_
  refine And.intro (s_ireturn rfl (fun _ => rfl) dX5_count_62) ?_
  refine And.intro (s_aload_n dX5_count_63 rfl) ?_
  refine And.intro (s_getf (C := RX5) (T := TX5) (N := 16) rfl zin_X5 (by decide) zl_301 dX5_count_64) ?_
  refine And.intro (s_getfN (C := RX4) (T := TX4) (N := 16) rfl zin_X4 (by decide) zl_194 dX5_count_67) ?_
  refine And.intro (s_ireturn rfl (fun _ => rfl) dX5_count_70) ?_
  refine And.intro (s_aload_n dX5_count_71 rfl) ?_
  refine And.intro (s_getf (C := RX5) (T := TX5) (N := 16) rfl zin_X5 (by decide) zl_299 dX5_count_72) ?_
  refine And.intro (s_getfN (C := RX3) (T := TX3) (N := 4) rfl zin_X3 (by decide) zl_129 dX5_count_75) ?_
  refine And.intro (s_ireturn rfl (fun _ => rfl) dX5_count_78) ?_
  refine And.intro (s_aload_n dX5_count_79 rfl) ?_
  refine And.intro (s_getf (C := RX5) (T := TX5) (N := 16) rfl zin_X5 (by decide) zl_300 dX5_count_80) ?_
  refine And.intro (s_getfN (C := RX3) (T := TX3) (N := 4) rfl zin_X3 (by decide) zl_129 dX5_count_83) ?_
  refine And.intro (s_ireturn rfl (fun _ => rfl) dX5_count_86) ?_
  refine And.intro (s_aload_n dX5_count_87 rfl) ?_
  refine And.intro (s_getf (C := RX5) (T := TX5) (N := 16) rfl zin_X5 (by decide) zl_301 dX5_count_88) ?_
  refine And.intro (s_getfN (C := RX4) (T := TX4) (N := 16) rfl zin_X4 (by decide) zl_208 dX5_count_91) ?_
  refine And.intro (s_ireturn rfl (fun _ => rfl) dX5_count_94) ?_
  refine And.intro (s_aload_n dX5_count_95 rfl) ?_
  refine And.intro (s_getf (C := RX5) (T := TX5) (N := 16) rfl zin_X5 (by decide) zl_301 dX5_count_96) ?_
  refine And.intro (s_getfN (C := RX4) (T := TX4) (N := 16) rfl zin_X4 (by decide) zl_214 dX5_count_99) ?_
  refine And.intro (s_ireturn rfl (fun _ => rfl) dX5_count_102) ?_
  refine And.intro (s_aload_n dX5_count_103 rfl) ?_
  refine And.intro (s_callV (C := RX5) (T := TX5) (N := 16) rfl zf_X5_toldCourse zg_X5_toldCourse zl_488 ⟨rfl, rfl⟩ dX5_count_104) ?_
  refine And.intro (s_callVN (C := RX0) (T := TX0) (N := 6) rfl zf_X0_shortsInAll zg_X0_shortsInAll zl_555 ⟨rfl, rfl⟩ dX5_count_107) ?_
  refine And.intro (s_ireturn rfl (fun _ => rfl) dX5_count_110) ?_
  refine And.intro (s_aload_n dX5_count_111 rfl) ?_
  refine And.intro (s_getf (C := RX5) (T := TX5) (N := 16) rfl zin_X5 (by decide) zl_312 dX5_count_112) ?_
  refine And.intro (s_ireturn rfl (fun _ => rfl) dX5_count_115) ?_
  refine And.intro (s_aload_n dX5_count_116 rfl) ?_
  refine And.intro (s_getf (C := RX5) (T := TX5) (N := 16) rfl zin_X5 (by decide) zl_314 dX5_count_117) ?_
  refine And.intro (s_ireturn rfl (fun _ => rfl) dX5_count_120) ?_
  refine And.intro (s_bipush dX5_count_121 (by decide)) ?_
  refine And.intro (s_ireturn rfl (fun _ => rfl) dX5_count_123) ?_
  exact trivial
def zp_X5_elbows : List (Bool × Nat × zOp) := [
  (true, 0, o_il 1),
  (true, 1, o_cs zi_X5_isHour 1),
  (true, 4, o_if (fun x => x = 0) 19),
  (true, 7, o_al 0),
  (true, 8, o_gf 5 2),
  (true, 11, o_gf 4 1),
  (true, 14, o_il 1),
  (true, 15, o_ia),
  (true, 16, o_go 21),
  (true, 19, o_ic (-2)),
  (true, 21, o_ir)]
set_option maxRecDepth 100000 in
set_option maxHeartbeats 4000000 in
theorem zk_X5_elbows (kc ks : Nat) : z_OK (zS RX5 cX5_elbows 2 "elbows" (some .int) 2 42 kc ks) zp_X5_elbows := by
  unfold zp_X5_elbows
  refine And.intro (s_iload_n dX5_elbows_0 rfl) ?_
  refine And.intro (s_callS zf_X5_isHour zl_432 zl_431 ⟨rfl, rfl⟩ dX5_elbows_1) ?_
  refine And.intro (s_if_eq dX5_elbows_4 (by decide)) ?_
  refine And.intro (s_aload_n dX5_elbows_7 rfl) ?_
  refine And.intro (s_getf (C := RX5) (T := TX5) (N := 16) rfl zin_X5 (by decide) zl_301 dX5_elbows_8) ?_
  refine And.intro (s_getfN (C := RX4) (T := TX4) (N := 16) rfl zin_X4 (by decide) zl_192 dX5_elbows_11) ?_
  refine And.intro (s_iload_n dX5_elbows_14 rfl) ?_
  refine And.intro (s_iaload dX5_elbows_15) ?_
  refine And.intro (s_goto dX5_elbows_16 (by decide)) ?_
  refine And.intro (s_bipush dX5_elbows_19 (by decide)) ?_
  refine And.intro (s_ireturn rfl (fun _ => rfl) dX5_elbows_21) ?_
  exact trivial
def zp_X5_digestHour : List (Bool × Nat × zOp) := [
  (true, 0, o_lc 31),
  (true, 3, o_ll 1),
  (true, 4, o_jj (fun x y => x * y)),
  (true, 5, o_al 0),
  (true, 6, o_il 3),
  (true, 7, o_cv zi_X5_elbows 1 5),
  (true, 10, o_i2l),
  (true, 11, o_jj (fun x y => x + y)),
  (true, 12, o_ls 4),
  (true, 14, o_ic 0),
  (true, 15, o_is 6),
  (false, 17, o_mark 17 [1, 2]),
  (true, 17, o_il 6),
  (true, 19, o_ic 3),
  (true, 20, o_cmp (fun x y => y < x) 46),
  (true, 23, o_lc 31),
  (true, 26, o_ll 4),
  (true, 28, o_jj (fun x y => x * y)),
  (true, 29, o_al 0),
  (true, 30, o_il 3),
  (true, 31, o_il 6),
  (true, 33, o_cv zi_X5_bag 2 5),
  (true, 36, o_i2l),
  (true, 37, o_jj (fun x y => x + y)),
  (true, 38, o_ls 4),
  (true, 40, o_inc 6 1),
  (true, 43, o_gb 17 [1, 2]),
  (true, 46, o_ll 4),
  (true, 48, o_lr)]
set_option maxRecDepth 100000 in
set_option maxHeartbeats 4000000 in
theorem zk_X5_digestHour (kc ks : Nat) : z_OK (zS RX5 cX5_digestHour 7 "digestHour" (some .long) 4 98 kc ks) zp_X5_digestHour := by
  unfold zp_X5_digestHour
  refine And.intro (s_ldc2 zl_751 dX5_digestHour_0) ?_
  refine And.intro (s_lload_n dX5_digestHour_3 rfl) ?_
  refine And.intro (s_lmul dX5_digestHour_4) ?_
  refine And.intro (s_aload_n dX5_digestHour_5 rfl) ?_
  refine And.intro (s_iload_n dX5_digestHour_6 rfl) ?_
  refine And.intro (s_callV (C := RX5) (T := TX5) (N := 16) rfl zf_X5_elbows zg_X5_elbows zl_758 ⟨rfl, rfl⟩ dX5_digestHour_7) ?_
  refine And.intro (s_i2l dX5_digestHour_10) ?_
  refine And.intro (s_ladd dX5_digestHour_11) ?_
  refine And.intro (s_lstore dX5_digestHour_12) ?_
  refine And.intro (s_iconst dX5_digestHour_14 (by decide)) ?_
  refine And.intro (s_istore dX5_digestHour_15) ?_
  refine And.intro (s_mark) ?_
  refine And.intro (s_iload dX5_digestHour_17) ?_
  refine And.intro (s_iconst dX5_digestHour_19 (by decide)) ?_
  refine And.intro (s_icmp_gt dX5_digestHour_20 (by decide)) ?_
  refine And.intro (s_ldc2 zl_751 dX5_digestHour_23) ?_
  refine And.intro (s_lload dX5_digestHour_26) ?_
  refine And.intro (s_lmul dX5_digestHour_28) ?_
  refine And.intro (s_aload_n dX5_digestHour_29 rfl) ?_
  refine And.intro (s_iload_n dX5_digestHour_30 rfl) ?_
  refine And.intro (s_iload dX5_digestHour_31) ?_
  refine And.intro (s_callV (C := RX5) (T := TX5) (N := 16) rfl zf_X5_bag zg_X5_bag zl_759 ⟨rfl, rfl⟩ dX5_digestHour_33) ?_
  refine And.intro (s_i2l dX5_digestHour_36) ?_
  refine And.intro (s_ladd dX5_digestHour_37) ?_
  refine And.intro (s_lstore dX5_digestHour_38) ?_
  refine And.intro (s_iinc dX5_digestHour_40 (by decide)) ?_
  refine And.intro (s_gotob dX5_digestHour_43 (by decide)) ?_
  refine And.intro (s_lload dX5_digestHour_46) ?_
  refine And.intro (s_lreturn rfl dX5_digestHour_48) ?_
  exact trivial
def zp_X5_bestShut : List (Bool × Nat × zOp) := [
  (true, 0, o_ic 2147483647),
  (true, 2, o_is 2),
  (true, 3, o_ic 0),
  (true, 4, o_is 3),
  (false, 5, o_mark 5 []),
  (true, 5, o_il 3),
  (true, 6, o_al 0),
  (true, 7, o_gf 5 2),
  (true, 10, o_gf 4 0),
  (true, 13, o_gf 2 6),
  (true, 16, o_cmp (fun x y => y ≤ x) 67),
  (true, 19, o_il 3),
  (true, 20, o_il 1),
  (true, 21, o_cmp (fun x y => x = y) 61),
  (true, 24, o_al 0),
  (true, 25, o_gf 5 2),
  (true, 28, o_il 3),
  (true, 29, o_pi 4 15),
  (true, 32, o_al 0),
  (true, 33, o_gf 5 4),
  (true, 36, o_al 0),
  (true, 37, o_gf 5 2),
  (true, 40, o_cv zi_X0_follow 1 0),
  (true, 43, o_il 2),
  (true, 44, o_al 0),
  (true, 45, o_gf 5 4),
  (true, 48, o_il 1),
  (true, 49, o_cv zi_X0_shortHours 1 0),
  (true, 52, o_ic 64),
  (true, 54, o_ii (fun x y => x * y)),
  (true, 55, o_il 3),
  (true, 56, o_ii (fun x y => x + y)),
  (true, 57, o_mi 55 (fun x y => if y < x then y else x)),
  (true, 60, o_is 2),
  (true, 61, o_inc 3 1),
  (true, 64, o_gb 5 []),
  (true, 67, o_al 0),
  (true, 68, o_gf 5 2),
  (true, 71, o_ic (-1)),
  (true, 72, o_pi 4 15),
  (true, 75, o_il 2),
  (true, 76, o_ir)]
set_option maxRecDepth 100000 in
set_option maxHeartbeats 4000000 in
theorem zk_X5_bestShut (kc ks : Nat) : z_OK (zS RX5 cX5_bestShut 4 "bestShut" (some .int) 2 55 kc ks) zp_X5_bestShut := by
  unfold zp_X5_bestShut
  refine And.intro (s_ldc zl_554 dX5_bestShut_0) ?_
  refine And.intro (s_istore_n dX5_bestShut_2 rfl) ?_
  refine And.intro (s_iconst dX5_bestShut_3 (by decide)) ?_
  refine And.intro (s_istore_n dX5_bestShut_4 rfl) ?_
  refine And.intro (s_mark) ?_
  refine And.intro (s_iload_n dX5_bestShut_5 rfl) ?_
  refine And.intro (s_aload_n dX5_bestShut_6 rfl) ?_
  refine And.intro (s_getf (C := RX5) (T := TX5) (N := 16) rfl zin_X5 (by decide) zl_301 dX5_bestShut_7) ?_
  refine And.intro (s_getfN (C := RX4) (T := TX4) (N := 16) rfl zin_X4 (by decide) zl_189 dX5_bestShut_10) ?_
  refine And.intro (s_getfN (C := RX2) (T := TX2) (N := 7) rfl zin_X2 (by decide) zl_171 dX5_bestShut_13) ?_
  refine And.intro (s_icmp_ge dX5_bestShut_16 (by decide)) ?_
  refine And.intro (s_iload_n dX5_bestShut_19 rfl) ?_
  refine And.intro (s_iload_n dX5_bestShut_20 rfl) ?_
  refine And.intro (s_icmp_eq dX5_bestShut_21 (by decide)) ?_
  refine And.intro (s_aload_n dX5_bestShut_24 rfl) ?_
  refine And.intro (s_getf (C := RX5) (T := TX5) (N := 16) rfl zin_X5 (by decide) zl_301 dX5_bestShut_25) ?_
  refine And.intro (s_iload_n dX5_bestShut_28 rfl) ?_
  refine And.intro (s_putIN (C := RX4) (T := TX4) (N := 16) rfl zin_X4 (by decide) tyX4 tyX4_ok nmX4 zl_218 rfl (by decide +kernel) dX5_bestShut_29) ?_
  refine And.intro (s_aload_n dX5_bestShut_32 rfl) ?_
  refine And.intro (s_getf (C := RX5) (T := TX5) (N := 16) rfl zin_X5 (by decide) zl_303 dX5_bestShut_33) ?_
  refine And.intro (s_aload_n dX5_bestShut_36 rfl) ?_
  refine And.intro (s_getf (C := RX5) (T := TX5) (N := 16) rfl zin_X5 (by decide) zl_301 dX5_bestShut_37) ?_
  refine And.intro (s_callVN (C := RX0) (T := TX0) (N := 6) rfl zf_X0_follow zg_X0_follow zl_492 ⟨rfl, rfl⟩ dX5_bestShut_40) ?_
  refine And.intro (s_iload_n dX5_bestShut_43 rfl) ?_
  refine And.intro (s_aload_n dX5_bestShut_44 rfl) ?_
  refine And.intro (s_getf (C := RX5) (T := TX5) (N := 16) rfl zin_X5 (by decide) zl_303 dX5_bestShut_45) ?_
  refine And.intro (s_iload_n dX5_bestShut_48 rfl) ?_
  refine And.intro (s_callVN (C := RX0) (T := TX0) (N := 6) rfl zf_X0_shortHours zg_X0_shortHours zl_530 ⟨rfl, rfl⟩ dX5_bestShut_49) ?_
  refine And.intro (s_bipush dX5_bestShut_52 (by decide)) ?_
  refine And.intro (s_imul dX5_bestShut_54) ?_
  refine And.intro (s_iload_n dX5_bestShut_55 rfl) ?_
  refine And.intro (s_iadd dX5_bestShut_56) ?_
  refine And.intro (s_mmin zl_565 zl_120 zl_96 zl_121 (by decide) dX5_bestShut_57) ?_
  refine And.intro (s_istore_n dX5_bestShut_60 rfl) ?_
  refine And.intro (s_iinc dX5_bestShut_61 (by decide)) ?_
  refine And.intro (s_gotob dX5_bestShut_64 (by decide)) ?_
  refine And.intro (s_aload_n dX5_bestShut_67 rfl) ?_
  refine And.intro (s_getf (C := RX5) (T := TX5) (N := 16) rfl zin_X5 (by decide) zl_301 dX5_bestShut_68) ?_
  refine And.intro (s_iconst dX5_bestShut_71 (by decide)) ?_
  refine And.intro (s_putIN (C := RX4) (T := TX4) (N := 16) rfl zin_X4 (by decide) tyX4 tyX4_ok nmX4 zl_218 rfl (by decide +kernel) dX5_bestShut_72) ?_
  refine And.intro (s_iload_n dX5_bestShut_75 rfl) ?_
  refine And.intro (s_ireturn rfl (fun _ => rfl) dX5_bestShut_76) ?_
  exact trivial
def zp_X5_digestPlan : List (Bool × Nat × zOp) := [
  (true, 0, o_lc 31),
  (true, 3, o_lc 31),
  (true, 6, o_ll 0),
  (true, 7, o_jj (fun x y => x * y)),
  (true, 8, o_il 2),
  (true, 9, o_ic 0),
  (true, 10, o_cs zi_X5_partOf 2),
  (true, 13, o_i2l),
  (true, 14, o_jj (fun x y => x + y)),
  (true, 15, o_jj (fun x y => x * y)),
  (true, 16, o_il 2),
  (true, 17, o_ic 1),
  (true, 18, o_cs zi_X5_partOf 2),
  (true, 21, o_i2l),
  (true, 22, o_jj (fun x y => x + y)),
  (true, 23, o_lr)]
set_option maxRecDepth 100000 in
set_option maxHeartbeats 4000000 in
theorem zk_X5_digestPlan (kc ks : Nat) : z_OK (zS RX5 cX5_digestPlan 3 "digestPlan" (some .long) 1 21 kc ks) zp_X5_digestPlan := by
  unfold zp_X5_digestPlan
  refine And.intro (s_ldc2 zl_751 dX5_digestPlan_0) ?_
  refine And.intro (s_ldc2 zl_751 dX5_digestPlan_3) ?_
  refine And.intro (s_lload_n dX5_digestPlan_6 rfl) ?_
  refine And.intro (s_lmul dX5_digestPlan_7) ?_
  refine And.intro (s_iload_n dX5_digestPlan_8 rfl) ?_
  refine And.intro (s_iconst dX5_digestPlan_9 (by decide)) ?_
  refine And.intro (s_callS zf_X5_partOf zl_567 zl_566 ⟨rfl, rfl⟩ dX5_digestPlan_10) ?_
  refine And.intro (s_i2l dX5_digestPlan_13) ?_
  refine And.intro (s_ladd dX5_digestPlan_14) ?_
  refine And.intro (s_lmul dX5_digestPlan_15) ?_
  refine And.intro (s_iload_n dX5_digestPlan_16 rfl) ?_
  refine And.intro (s_iconst dX5_digestPlan_17 (by decide)) ?_
  refine And.intro (s_callS zf_X5_partOf zl_567 zl_566 ⟨rfl, rfl⟩ dX5_digestPlan_18) ?_
  refine And.intro (s_i2l dX5_digestPlan_21) ?_
  refine And.intro (s_ladd dX5_digestPlan_22) ?_
  refine And.intro (s_lreturn rfl dX5_digestPlan_23) ?_
  exact trivial
def zp_X5_got : List (Bool × Nat × zOp) := [
  (true, 0, o_il 1),
  (true, 1, o_cs zi_X5_isHour 1),
  (true, 4, o_if (fun x => x = 0) 24),
  (true, 7, o_al 0),
  (true, 8, o_il 2),
  (true, 9, o_cv zi_X5_isHouse 1 5),
  (true, 12, o_if (fun x => x = 0) 24),
  (true, 15, o_il 3),
  (true, 16, o_ic 0),
  (true, 17, o_ic 2),
  (true, 18, o_cs zi_X5_within 3),
  (true, 21, o_in (fun x => x = 0) 27),
  (true, 24, o_ic (-2)),
  (true, 26, o_ir),
  (true, 27, o_il 3),
  (true, 28, o_in (fun x => x = 0) 41),
  (true, 31, o_al 0),
  (true, 32, o_cv zi_X5_toldCourse 0 5),
  (true, 35, o_il 1),
  (true, 36, o_il 2),
  (true, 37, o_cv zi_X0_gotBy 2 0),
  (true, 40, o_ir),
  (true, 41, o_al 0),
  (true, 42, o_gf 5 2),
  (true, 45, o_gf 4 0),
  (true, 48, o_gf 2 5),
  (true, 51, o_il 1),
  (true, 52, o_ic 8),
  (true, 54, o_ii (fun x y => x * y)),
  (true, 55, o_il 2),
  (true, 56, o_ii (fun x y => x + y)),
  (true, 57, o_ia),
  (true, 58, o_is 4),
  (true, 60, o_il 3),
  (true, 61, o_ic 1),
  (true, 62, o_cn (fun x y => x = y) 73),
  (true, 65, o_il 4),
  (true, 67, o_cs zi_X5_needOf 1),
  (true, 70, o_go 75),
  (true, 73, o_il 4),
  (true, 75, o_ir)]
set_option maxRecDepth 100000 in
set_option maxHeartbeats 4000000 in
theorem zk_X5_got (kc ks : Nat) : z_OK (zS RX5 cX5_got 5 "got" (some .int) 3 75 kc ks) zp_X5_got := by
  unfold zp_X5_got
  refine And.intro (s_iload_n dX5_got_0 rfl) ?_
  refine And.intro (s_callS zf_X5_isHour zl_432 zl_431 ⟨rfl, rfl⟩ dX5_got_1) ?_
  refine And.intro (s_if_eq dX5_got_4 (by decide)) ?_
  refine And.intro (s_aload_n dX5_got_7 rfl) ?_
  refine And.intro (s_iload_n dX5_got_8 rfl) ?_
  refine And.intro (s_callV (C := RX5) (T := TX5) (N := 16) rfl zf_X5_isHouse zg_X5_isHouse zl_419 ⟨rfl, rfl⟩ dX5_got_9) ?_
  refine And.intro (s_if_eq dX5_got_12 (by decide)) ?_
  refine And.intro (s_iload_n dX5_got_15 rfl) ?_
  refine And.intro (s_iconst dX5_got_16 (by decide)) ?_
  refine And.intro (s_iconst dX5_got_17 (by decide)) ?_
  refine And.intro (s_callS zf_X5_within zl_353 zl_352 ⟨rfl, rfl⟩ dX5_got_18) ?_
  refine And.intro (s_if_ne dX5_got_21 (by decide)) ?_
  refine And.intro (s_bipush dX5_got_24 (by decide)) ?_
  refine And.intro (s_ireturn rfl (fun _ => rfl) dX5_got_26) ?_
  refine And.intro (s_iload_n dX5_got_27 rfl) ?_
  refine And.intro (s_if_ne dX5_got_28 (by decide)) ?_
  refine And.intro (s_aload_n dX5_got_31 rfl) ?_
  refine And.intro (s_callV (C := RX5) (T := TX5) (N := 16) rfl zf_X5_toldCourse zg_X5_toldCourse zl_488 ⟨rfl, rfl⟩ dX5_got_32) ?_
  refine And.intro (s_iload_n dX5_got_35 rfl) ?_
  refine And.intro (s_iload_n dX5_got_36 rfl) ?_
  refine And.intro (s_callVN (C := RX0) (T := TX0) (N := 6) rfl zf_X0_gotBy zg_X0_gotBy zl_516 ⟨rfl, rfl⟩ dX5_got_37) ?_
  refine And.intro (s_ireturn rfl (fun _ => rfl) dX5_got_40) ?_
  refine And.intro (s_aload_n dX5_got_41 rfl) ?_
  refine And.intro (s_getf (C := RX5) (T := TX5) (N := 16) rfl zin_X5 (by decide) zl_301 dX5_got_42) ?_
  refine And.intro (s_getfN (C := RX4) (T := TX4) (N := 16) rfl zin_X4 (by decide) zl_189 dX5_got_45) ?_
  refine And.intro (s_getfN (C := RX2) (T := TX2) (N := 7) rfl zin_X2 (by decide) zl_168 dX5_got_48) ?_
  refine And.intro (s_iload_n dX5_got_51 rfl) ?_
  refine And.intro (s_bipush dX5_got_52 (by decide)) ?_
  refine And.intro (s_imul dX5_got_54) ?_
  refine And.intro (s_iload_n dX5_got_55 rfl) ?_
  refine And.intro (s_iadd dX5_got_56) ?_
  refine And.intro (s_iaload dX5_got_57) ?_
  refine And.intro (s_istore dX5_got_58) ?_
  refine And.intro (s_iload_n dX5_got_60 rfl) ?_
  refine And.intro (s_iconst dX5_got_61 (by decide)) ?_
  refine And.intro (s_icmp_ne dX5_got_62 (by decide)) ?_
  refine And.intro (s_iload dX5_got_65) ?_
  refine And.intro (s_callS zf_X5_needOf zl_506 zl_521 ⟨rfl, rfl⟩ dX5_got_67) ?_
  refine And.intro (s_goto dX5_got_70 (by decide)) ?_
  refine And.intro (s_iload dX5_got_73) ?_
  refine And.intro (s_ireturn rfl (fun _ => rfl) dX5_got_75) ?_
  exact trivial
def zp_X5_held : List (Bool × Nat × zOp) := [
  (true, 0, o_al 0),
  (true, 1, o_il 1),
  (true, 2, o_cv zi_X5_isHouse 1 5),
  (true, 5, o_if (fun x => x = 0) 17),
  (true, 8, o_il 2),
  (true, 9, o_ic 0),
  (true, 10, o_ic 1),
  (true, 11, o_cs zi_X5_within 3),
  (true, 14, o_in (fun x => x = 0) 20),
  (true, 17, o_ic (-2)),
  (true, 19, o_ir),
  (true, 20, o_al 0),
  (true, 21, o_cv zi_X5_toldCourse 0 5),
  (true, 24, o_as 3),
  (true, 25, o_il 2),
  (true, 26, o_in (fun x => x = 0) 39),
  (true, 29, o_al 3),
  (true, 30, o_ic 1),
  (true, 31, o_il 1),
  (true, 32, o_ii (fun x y => x <<< (y &&& 31))),
  (true, 33, o_cv zi_X0_firstShort 1 0),
  (true, 36, o_go 44),
  (true, 39, o_al 3),
  (true, 40, o_il 1),
  (true, 41, o_cv zi_X0_shortHours 1 0),
  (true, 44, o_ir)]
set_option maxRecDepth 100000 in
set_option maxHeartbeats 4000000 in
theorem zk_X5_held (kc ks : Nat) : z_OK (zS RX5 cX5_held 4 "held" (some .int) 3 75 kc ks) zp_X5_held := by
  unfold zp_X5_held
  refine And.intro (s_aload_n dX5_held_0 rfl) ?_
  refine And.intro (s_iload_n dX5_held_1 rfl) ?_
  refine And.intro (s_callV (C := RX5) (T := TX5) (N := 16) rfl zf_X5_isHouse zg_X5_isHouse zl_419 ⟨rfl, rfl⟩ dX5_held_2) ?_
  refine And.intro (s_if_eq dX5_held_5 (by decide)) ?_
  refine And.intro (s_iload_n dX5_held_8 rfl) ?_
  refine And.intro (s_iconst dX5_held_9 (by decide)) ?_
  refine And.intro (s_iconst dX5_held_10 (by decide)) ?_
  refine And.intro (s_callS zf_X5_within zl_353 zl_352 ⟨rfl, rfl⟩ dX5_held_11) ?_
  refine And.intro (s_if_ne dX5_held_14 (by decide)) ?_
  refine And.intro (s_bipush dX5_held_17 (by decide)) ?_
  refine And.intro (s_ireturn rfl (fun _ => rfl) dX5_held_19) ?_
  refine And.intro (s_aload_n dX5_held_20 rfl) ?_
  refine And.intro (s_callV (C := RX5) (T := TX5) (N := 16) rfl zf_X5_toldCourse zg_X5_toldCourse zl_488 ⟨rfl, rfl⟩ dX5_held_21) ?_
  refine And.intro (s_astore_n dX5_held_24 rfl) ?_
  refine And.intro (s_iload_n dX5_held_25 rfl) ?_
  refine And.intro (s_if_ne dX5_held_26 (by decide)) ?_
  refine And.intro (s_aload_n dX5_held_29 rfl) ?_
  refine And.intro (s_iconst dX5_held_30 (by decide)) ?_
  refine And.intro (s_iload_n dX5_held_31 rfl) ?_
  refine And.intro (s_ishl dX5_held_32) ?_
  refine And.intro (s_callVN (C := RX0) (T := TX0) (N := 6) rfl zf_X0_firstShort zg_X0_firstShort zl_526 ⟨rfl, rfl⟩ dX5_held_33) ?_
  refine And.intro (s_goto dX5_held_36 (by decide)) ?_
  refine And.intro (s_aload_n dX5_held_39 rfl) ?_
  refine And.intro (s_iload_n dX5_held_40 rfl) ?_
  refine And.intro (s_callVN (C := RX0) (T := TX0) (N := 6) rfl zf_X0_shortHours zg_X0_shortHours zl_530 ⟨rfl, rfl⟩ dX5_held_41) ?_
  refine And.intro (s_ireturn rfl (fun _ => rfl) dX5_held_44) ?_
  exact trivial
def zp_X5_house : List (Bool × Nat × zOp) := [
  (true, 0, o_al 0),
  (true, 1, o_il 1),
  (true, 2, o_cv zi_X5_isHouse 1 5),
  (true, 5, o_if (fun x => x = 0) 18),
  (true, 8, o_il 2),
  (true, 9, o_ic 0),
  (true, 10, o_ic 6),
  (true, 12, o_cs zi_X5_within 3),
  (true, 15, o_in (fun x => x = 0) 21),
  (true, 18, o_ic (-2)),
  (true, 20, o_ir),
  (true, 21, o_il 2),
  (true, 22, o_sw 0 [52, 65, 78, 91] 104),
  (true, 52, o_al 0),
  (true, 53, o_gf 5 2),
  (true, 56, o_gf 4 0),
  (true, 59, o_gf 2 0),
  (true, 62, o_il 1),
  (true, 63, o_ia),
  (true, 64, o_ir),
  (true, 65, o_al 0),
  (true, 66, o_gf 5 2),
  (true, 69, o_gf 4 0),
  (true, 72, o_gf 2 1),
  (true, 75, o_il 1),
  (true, 76, o_ia),
  (true, 77, o_ir),
  (true, 78, o_al 0),
  (true, 79, o_gf 5 2),
  (true, 82, o_gf 4 0),
  (true, 85, o_gf 2 2),
  (true, 88, o_il 1),
  (true, 89, o_ia),
  (true, 90, o_ir),
  (true, 91, o_al 0),
  (true, 92, o_gf 5 2),
  (true, 95, o_gf 4 0),
  (true, 98, o_gf 2 3),
  (true, 101, o_il 1),
  (true, 102, o_ia),
  (true, 103, o_ir),
  (true, 104, o_al 0),
  (true, 105, o_gf 5 2),
  (true, 108, o_gf 4 0),
  (true, 111, o_il 1),
  (true, 112, o_il 2),
  (true, 113, o_ic 4),
  (true, 114, o_ii (fun x y => x - y)),
  (true, 115, o_cv zi_X2_letter 2 2),
  (true, 118, o_ir)]
set_option maxRecDepth 100000 in
set_option maxHeartbeats 4000000 in
theorem zk_X5_house (kc ks : Nat) : z_OK (zS RX5 cX5_house 3 "house" (some .int) 2 44 kc ks) zp_X5_house := by
  unfold zp_X5_house
  refine And.intro (s_aload_n dX5_house_0 rfl) ?_
  refine And.intro (s_iload_n dX5_house_1 rfl) ?_
  refine And.intro (s_callV (C := RX5) (T := TX5) (N := 16) rfl zf_X5_isHouse zg_X5_isHouse zl_419 ⟨rfl, rfl⟩ dX5_house_2) ?_
  refine And.intro (s_if_eq dX5_house_5 (by decide)) ?_
  refine And.intro (s_iload_n dX5_house_8 rfl) ?_
  refine And.intro (s_iconst dX5_house_9 (by decide)) ?_
  refine And.intro (s_bipush dX5_house_10 (by decide)) ?_
  refine And.intro (s_callS zf_X5_within zl_353 zl_352 ⟨rfl, rfl⟩ dX5_house_12) ?_
  refine And.intro (s_if_ne dX5_house_15 (by decide)) ?_
  refine And.intro (s_bipush dX5_house_18 (by decide)) ?_
  refine And.intro (s_ireturn rfl (fun _ => rfl) dX5_house_20) ?_
  refine And.intro (s_iload_n dX5_house_21 rfl) ?_
  refine And.intro (s_tsw dX5_house_22 (by decide) (by decide) (by decide)) ?_
  refine And.intro (s_aload_n dX5_house_52 rfl) ?_
  refine And.intro (s_getf (C := RX5) (T := TX5) (N := 16) rfl zin_X5 (by decide) zl_301 dX5_house_53) ?_
  refine And.intro (s_getfN (C := RX4) (T := TX4) (N := 16) rfl zin_X4 (by decide) zl_189 dX5_house_56) ?_
  refine And.intro (s_getfN (C := RX2) (T := TX2) (N := 7) rfl zin_X2 (by decide) zl_156 dX5_house_59) ?_
  refine And.intro (s_iload_n dX5_house_62 rfl) ?_
  refine And.intro (s_iaload dX5_house_63) ?_
  refine And.intro (s_ireturn rfl (fun _ => rfl) dX5_house_64) ?_
  refine And.intro (s_aload_n dX5_house_65 rfl) ?_
  refine And.intro (s_getf (C := RX5) (T := TX5) (N := 16) rfl zin_X5 (by decide) zl_301 dX5_house_66) ?_
  refine And.intro (s_getfN (C := RX4) (T := TX4) (N := 16) rfl zin_X4 (by decide) zl_189 dX5_house_69) ?_
  refine And.intro (s_getfN (C := RX2) (T := TX2) (N := 7) rfl zin_X2 (by decide) zl_159 dX5_house_72) ?_
  refine And.intro (s_iload_n dX5_house_75 rfl) ?_
  refine And.intro (s_iaload dX5_house_76) ?_
  refine And.intro (s_ireturn rfl (fun _ => rfl) dX5_house_77) ?_
  refine And.intro (s_aload_n dX5_house_78 rfl) ?_
  refine And.intro (s_getf (C := RX5) (T := TX5) (N := 16) rfl zin_X5 (by decide) zl_301 dX5_house_79) ?_
  refine And.intro (s_getfN (C := RX4) (T := TX4) (N := 16) rfl zin_X4 (by decide) zl_189 dX5_house_82) ?_
  refine And.intro (s_getfN (C := RX2) (T := TX2) (N := 7) rfl zin_X2 (by decide) zl_162 dX5_house_85) ?_
  refine And.intro (s_iload_n dX5_house_88 rfl) ?_
  refine And.intro (s_iaload dX5_house_89) ?_
  refine And.intro (s_ireturn rfl (fun _ => rfl) dX5_house_90) ?_
  refine And.intro (s_aload_n dX5_house_91 rfl) ?_
  refine And.intro (s_getf (C := RX5) (T := TX5) (N := 16) rfl zin_X5 (by decide) zl_301 dX5_house_92) ?_
  refine And.intro (s_getfN (C := RX4) (T := TX4) (N := 16) rfl zin_X4 (by decide) zl_189 dX5_house_95) ?_
  refine And.intro (s_getfN (C := RX2) (T := TX2) (N := 7) rfl zin_X2 (by decide) zl_164 dX5_house_98) ?_
  refine And.intro (s_iload_n dX5_house_101 rfl) ?_
  refine And.intro (s_iaload dX5_house_102) ?_
  refine And.intro (s_ireturn rfl (fun _ => rfl) dX5_house_103) ?_
  refine And.intro (s_aload_n dX5_house_104 rfl) ?_
  refine And.intro (s_getf (C := RX5) (T := TX5) (N := 16) rfl zin_X5 (by decide) zl_301 dX5_house_105) ?_
  refine And.intro (s_getfN (C := RX4) (T := TX4) (N := 16) rfl zin_X4 (by decide) zl_189 dX5_house_108) ?_
  refine And.intro (s_iload_n dX5_house_111 rfl) ?_
  refine And.intro (s_iload_n dX5_house_112 rfl) ?_
  refine And.intro (s_iconst dX5_house_113 (by decide)) ?_
  refine And.intro (s_isub dX5_house_114) ?_
  refine And.intro (s_callVN (C := RX2) (T := TX2) (N := 7) rfl zf_X2_letter zg_X2_letter zl_423 ⟨rfl, rfl⟩ dX5_house_115) ?_
  refine And.intro (s_ireturn rfl (fun _ => rfl) dX5_house_118) ?_
  exact trivial
def zp_X5_tryEachChoiceOfLeaks : List (Bool × Nat × zOp) := [
  (true, 0, o_ic 1),
  (true, 1, o_al 0),
  (true, 2, o_gf 5 2),
  (true, 5, o_gf 4 9),
  (true, 8, o_ii (fun x y => x <<< (y &&& 31))),
  (true, 9, o_is 1),
  (true, 10, o_ic 0),
  (true, 11, o_is 2),
  (false, 12, o_mark 12 []),
  (true, 12, o_il 2),
  (true, 13, o_il 1),
  (true, 14, o_cmp (fun x y => y ≤ x) 64),
  (true, 17, o_il 2),
  (true, 18, o_al 0),
  (true, 19, o_gf 5 6),
  (true, 22, o_len),
  (true, 23, o_cmp (fun x y => y ≤ x) 64),
  (true, 26, o_al 0),
  (true, 27, o_gf 5 2),
  (true, 30, o_il 2),
  (true, 31, o_pi 4 10),
  (true, 34, o_al 0),
  (true, 35, o_gf 5 4),
  (true, 38, o_al 0),
  (true, 39, o_gf 5 2),
  (true, 42, o_cv zi_X0_follow 1 0),
  (true, 45, o_al 0),
  (true, 46, o_gf 5 6),
  (true, 49, o_il 2),
  (true, 50, o_al 0),
  (true, 51, o_gf 5 4),
  (true, 54, o_cv zi_X0_everShort 0 0),
  (true, 57, o_iw),
  (true, 58, o_inc 2 1),
  (true, 61, o_gb 12 []),
  (true, 64, o_al 0),
  (true, 65, o_gf 5 2),
  (true, 68, o_ic (-1)),
  (true, 69, o_pi 4 10),
  (true, 72, o_al 0),
  (true, 73, o_ic 1),
  (true, 74, o_pz 5 7),
  (true, 77, o_vr)]
set_option maxRecDepth 100000 in
set_option maxHeartbeats 4000000 in
theorem zk_X5_tryEachChoiceOfLeaks (kc ks : Nat) : z_OK (zS RX5 cX5_tryEachChoiceOfLeaks 3 "tryEachChoiceOfLeaks" none 2 55 kc ks) zp_X5_tryEachChoiceOfLeaks := by
  unfold zp_X5_tryEachChoiceOfLeaks
  refine And.intro (s_iconst dX5_tryEachChoiceOfLeaks_0 (by decide)) ?_
  refine And.intro (s_aload_n dX5_tryEachChoiceOfLeaks_1 rfl) ?_
  refine And.intro (s_getf (C := RX5) (T := TX5) (N := 16) rfl zin_X5 (by decide) zl_301 dX5_tryEachChoiceOfLeaks_2) ?_
  refine And.intro (s_getfN (C := RX4) (T := TX4) (N := 16) rfl zin_X4 (by decide) zl_208 dX5_tryEachChoiceOfLeaks_5) ?_
  refine And.intro (s_ishl dX5_tryEachChoiceOfLeaks_8) ?_
  refine And.intro (s_istore_n dX5_tryEachChoiceOfLeaks_9 rfl) ?_
  refine And.intro (s_iconst dX5_tryEachChoiceOfLeaks_10 (by decide)) ?_
  refine And.intro (s_istore_n dX5_tryEachChoiceOfLeaks_11 rfl) ?_
  refine And.intro (s_mark) ?_
  refine And.intro (s_iload_n dX5_tryEachChoiceOfLeaks_12 rfl) ?_
  refine And.intro (s_iload_n dX5_tryEachChoiceOfLeaks_13 rfl) ?_
  refine And.intro (s_icmp_ge dX5_tryEachChoiceOfLeaks_14 (by decide)) ?_
  refine And.intro (s_iload_n dX5_tryEachChoiceOfLeaks_17 rfl) ?_
  refine And.intro (s_aload_n dX5_tryEachChoiceOfLeaks_18 rfl) ?_
  refine And.intro (s_getf (C := RX5) (T := TX5) (N := 16) rfl zin_X5 (by decide) zl_305 dX5_tryEachChoiceOfLeaks_19) ?_
  refine And.intro (s_alen dX5_tryEachChoiceOfLeaks_22) ?_
  refine And.intro (s_icmp_ge dX5_tryEachChoiceOfLeaks_23 (by decide)) ?_
  refine And.intro (s_aload_n dX5_tryEachChoiceOfLeaks_26 rfl) ?_
  refine And.intro (s_getf (C := RX5) (T := TX5) (N := 16) rfl zin_X5 (by decide) zl_301 dX5_tryEachChoiceOfLeaks_27) ?_
  refine And.intro (s_iload_n dX5_tryEachChoiceOfLeaks_30 rfl) ?_
  refine And.intro (s_putIN (C := RX4) (T := TX4) (N := 16) rfl zin_X4 (by decide) tyX4 tyX4_ok nmX4 zl_210 rfl (by decide +kernel) dX5_tryEachChoiceOfLeaks_31) ?_
  refine And.intro (s_aload_n dX5_tryEachChoiceOfLeaks_34 rfl) ?_
  refine And.intro (s_getf (C := RX5) (T := TX5) (N := 16) rfl zin_X5 (by decide) zl_303 dX5_tryEachChoiceOfLeaks_35) ?_
  refine And.intro (s_aload_n dX5_tryEachChoiceOfLeaks_38 rfl) ?_
  refine And.intro (s_getf (C := RX5) (T := TX5) (N := 16) rfl zin_X5 (by decide) zl_301 dX5_tryEachChoiceOfLeaks_39) ?_
  refine And.intro (s_callVN (C := RX0) (T := TX0) (N := 6) rfl zf_X0_follow zg_X0_follow zl_492 ⟨rfl, rfl⟩ dX5_tryEachChoiceOfLeaks_42) ?_
  refine And.intro (s_aload_n dX5_tryEachChoiceOfLeaks_45 rfl) ?_
  refine And.intro (s_getf (C := RX5) (T := TX5) (N := 16) rfl zin_X5 (by decide) zl_305 dX5_tryEachChoiceOfLeaks_46) ?_
  refine And.intro (s_iload_n dX5_tryEachChoiceOfLeaks_49 rfl) ?_
  refine And.intro (s_aload_n dX5_tryEachChoiceOfLeaks_50 rfl) ?_
  refine And.intro (s_getf (C := RX5) (T := TX5) (N := 16) rfl zin_X5 (by decide) zl_303 dX5_tryEachChoiceOfLeaks_51) ?_
  refine And.intro (s_callVN (C := RX0) (T := TX0) (N := 6) rfl zf_X0_everShort zg_X0_everShort zl_673 ⟨rfl, rfl⟩ dX5_tryEachChoiceOfLeaks_54) ?_
  refine And.intro (s_iastore dX5_tryEachChoiceOfLeaks_57) ?_
  refine And.intro (s_iinc dX5_tryEachChoiceOfLeaks_58 (by decide)) ?_
  refine And.intro (s_gotob dX5_tryEachChoiceOfLeaks_61 (by decide)) ?_
  refine And.intro (s_aload_n dX5_tryEachChoiceOfLeaks_64 rfl) ?_
  refine And.intro (s_getf (C := RX5) (T := TX5) (N := 16) rfl zin_X5 (by decide) zl_301 dX5_tryEachChoiceOfLeaks_65) ?_
  refine And.intro (s_iconst dX5_tryEachChoiceOfLeaks_68 (by decide)) ?_
  refine And.intro (s_putIN (C := RX4) (T := TX4) (N := 16) rfl zin_X4 (by decide) tyX4 tyX4_ok nmX4 zl_210 rfl (by decide +kernel) dX5_tryEachChoiceOfLeaks_69) ?_
  refine And.intro (s_aload_n dX5_tryEachChoiceOfLeaks_72 rfl) ?_
  refine And.intro (s_iconst dX5_tryEachChoiceOfLeaks_73 (by decide)) ?_
  refine And.intro (s_putZ (C := RX5) (T := TX5) (N := 16) rfl zin_X5 (by decide) tyX5 tyX5_ok nmX5 zl_306 rfl (by decide +kernel) dX5_tryEachChoiceOfLeaks_74) ?_
  refine And.intro (s_vreturn rfl dX5_tryEachChoiceOfLeaks_77) ?_
  exact trivial
def zp_X5_weightOf : List (Bool × Nat × zOp) := [
  (true, 0, o_lc 1),
  (true, 1, o_ls 3),
  (true, 2, o_ic 0),
  (true, 3, o_is 5),
  (false, 5, o_mark 5 []),
  (true, 5, o_il 5),
  (true, 7, o_al 0),
  (true, 8, o_gf 5 2),
  (true, 11, o_gf 4 9),
  (true, 14, o_cmp (fun x y => y ≤ x) 46),
  (true, 17, o_ll 3),
  (true, 18, o_il 1),
  (true, 19, o_il 5),
  (true, 21, o_ii (fun x y => x >>> (y &&& 31))),
  (true, 22, o_ic 1),
  (true, 23, o_ii (fun x y => x &&& y)),
  (true, 24, o_ic 1),
  (true, 25, o_cn (fun x y => x = y) 33),
  (true, 28, o_il 2),
  (true, 29, o_i2l),
  (true, 30, o_go 38),
  (true, 33, o_ic 16),
  (true, 35, o_il 2),
  (true, 36, o_ii (fun x y => x - y)),
  (true, 37, o_i2l),
  (true, 38, o_jj (fun x y => x * y)),
  (true, 39, o_ls 3),
  (true, 40, o_inc 5 1),
  (true, 43, o_gb 5 []),
  (true, 46, o_ll 3),
  (true, 47, o_lr)]
set_option maxRecDepth 100000 in
set_option maxHeartbeats 4000000 in
theorem zk_X5_weightOf (kc ks : Nat) : z_OK (zS RX5 cX5_weightOf 6 "weightOf" (some .long) 0 0 kc ks) zp_X5_weightOf := by
  unfold zp_X5_weightOf
  refine And.intro (s_lconst dX5_weightOf_0 (by decide)) ?_
  refine And.intro (s_lstore_n dX5_weightOf_1 rfl) ?_
  refine And.intro (s_iconst dX5_weightOf_2 (by decide)) ?_
  refine And.intro (s_istore dX5_weightOf_3) ?_
  refine And.intro (s_mark) ?_
  refine And.intro (s_iload dX5_weightOf_5) ?_
  refine And.intro (s_aload_n dX5_weightOf_7 rfl) ?_
  refine And.intro (s_getf (C := RX5) (T := TX5) (N := 16) rfl zin_X5 (by decide) zl_301 dX5_weightOf_8) ?_
  refine And.intro (s_getfN (C := RX4) (T := TX4) (N := 16) rfl zin_X4 (by decide) zl_208 dX5_weightOf_11) ?_
  refine And.intro (s_icmp_ge dX5_weightOf_14 (by decide)) ?_
  refine And.intro (s_lload_n dX5_weightOf_17 rfl) ?_
  refine And.intro (s_iload_n dX5_weightOf_18 rfl) ?_
  refine And.intro (s_iload dX5_weightOf_19) ?_
  refine And.intro (s_ishr dX5_weightOf_21) ?_
  refine And.intro (s_iconst dX5_weightOf_22 (by decide)) ?_
  refine And.intro (s_iand dX5_weightOf_23) ?_
  refine And.intro (s_iconst dX5_weightOf_24 (by decide)) ?_
  refine And.intro (s_icmp_ne dX5_weightOf_25 (by decide)) ?_
  refine And.intro (s_iload_n dX5_weightOf_28 rfl) ?_
  refine And.intro (s_i2l dX5_weightOf_29) ?_
  refine And.intro (s_goto dX5_weightOf_30 (by decide)) ?_
  refine And.intro (s_bipush dX5_weightOf_33 (by decide)) ?_
  refine And.intro (s_iload_n dX5_weightOf_35 rfl) ?_
  refine And.intro (s_isub dX5_weightOf_36) ?_
  refine And.intro (s_i2l dX5_weightOf_37) ?_
  refine And.intro (s_lmul dX5_weightOf_38) ?_
  refine And.intro (s_lstore_n dX5_weightOf_39 rfl) ?_
  refine And.intro (s_iinc dX5_weightOf_40 (by decide)) ?_
  refine And.intro (s_gotob dX5_weightOf_43 (by decide)) ?_
  refine And.intro (s_lload_n dX5_weightOf_46 rfl) ?_
  refine And.intro (s_lreturn rfl dX5_weightOf_47) ?_
  exact trivial
def zp_X5_chanceOfNeverShort : List (Bool × Nat × zOp) := [
  (true, 0, o_al 0),
  (true, 1, o_gf 5 7),
  (true, 4, o_in (fun x => x = 0) 11),
  (true, 7, o_al 0),
  (true, 8, o_cv zi_X5_tryEachChoiceOfLeaks 0 5),
  (true, 11, o_lc 0),
  (true, 12, o_ls 3),
  (true, 13, o_ic 1),
  (true, 14, o_al 0),
  (true, 15, o_gf 5 2),
  (true, 18, o_gf 4 9),
  (true, 21, o_ii (fun x y => x <<< (y &&& 31))),
  (true, 22, o_is 5),
  (true, 24, o_ic 0),
  (true, 25, o_is 6),
  (false, 27, o_mark 27 []),
  (true, 27, o_il 6),
  (true, 29, o_il 5),
  (true, 31, o_cmp (fun x y => y ≤ x) 74),
  (true, 34, o_il 6),
  (true, 36, o_al 0),
  (true, 37, o_gf 5 6),
  (true, 40, o_len),
  (true, 41, o_cmp (fun x y => y ≤ x) 74),
  (true, 44, o_al 0),
  (true, 45, o_gf 5 6),
  (true, 48, o_il 6),
  (true, 50, o_ia),
  (true, 51, o_il 2),
  (true, 52, o_ii (fun x y => x >>> (y &&& 31))),
  (true, 53, o_ic 1),
  (true, 54, o_ii (fun x y => x &&& y)),
  (true, 55, o_in (fun x => x = 0) 68),
  (true, 58, o_ll 3),
  (true, 59, o_al 0),
  (true, 60, o_il 6),
  (true, 62, o_il 1),
  (true, 63, o_cv zi_X5_weightOf 2 5),
  (true, 66, o_jj (fun x y => x + y)),
  (true, 67, o_ls 3),
  (true, 68, o_inc 6 1),
  (true, 71, o_gb 27 []),
  (true, 74, o_ll 3),
  (true, 75, o_lr)]
set_option maxRecDepth 100000 in
set_option maxHeartbeats 4000000 in
theorem zk_X5_chanceOfNeverShort (kc ks : Nat) : z_OK (zS RX5 cX5_chanceOfNeverShort 7 "chanceOfNeverShort" (some .long) 3 77 kc ks) zp_X5_chanceOfNeverShort := by
  unfold zp_X5_chanceOfNeverShort
  refine And.intro (s_aload_n dX5_chanceOfNeverShort_0 rfl) ?_
  refine And.intro (s_getf (C := RX5) (T := TX5) (N := 16) rfl zin_X5 (by decide) zl_306 dX5_chanceOfNeverShort_1) ?_
  refine And.intro (s_if_ne dX5_chanceOfNeverShort_4 (by decide)) ?_
  refine And.intro (s_aload_n dX5_chanceOfNeverShort_7 rfl) ?_
  refine And.intro (s_callV (C := RX5) (T := TX5) (N := 16) rfl zf_X5_tryEachChoiceOfLeaks zg_X5_tryEachChoiceOfLeaks zl_669 ⟨rfl, rfl⟩ dX5_chanceOfNeverShort_8) ?_
  refine And.intro (s_lconst dX5_chanceOfNeverShort_11 (by decide)) ?_
  refine And.intro (s_lstore_n dX5_chanceOfNeverShort_12 rfl) ?_
  refine And.intro (s_iconst dX5_chanceOfNeverShort_13 (by decide)) ?_
  refine And.intro (s_aload_n dX5_chanceOfNeverShort_14 rfl) ?_
  refine And.intro (s_getf (C := RX5) (T := TX5) (N := 16) rfl zin_X5 (by decide) zl_301 dX5_chanceOfNeverShort_15) ?_
  refine And.intro (s_getfN (C := RX4) (T := TX4) (N := 16) rfl zin_X4 (by decide) zl_208 dX5_chanceOfNeverShort_18) ?_
  refine And.intro (s_ishl dX5_chanceOfNeverShort_21) ?_
  refine And.intro (s_istore dX5_chanceOfNeverShort_22) ?_
  refine And.intro (s_iconst dX5_chanceOfNeverShort_24 (by decide)) ?_
  refine And.intro (s_istore dX5_chanceOfNeverShort_25) ?_
  refine And.intro (s_mark) ?_
  refine And.intro (s_iload dX5_chanceOfNeverShort_27) ?_
  refine And.intro (s_iload dX5_chanceOfNeverShort_29) ?_
  refine And.intro (s_icmp_ge dX5_chanceOfNeverShort_31 (by decide)) ?_
  refine And.intro (s_iload dX5_chanceOfNeverShort_34) ?_
  refine And.intro (s_aload_n dX5_chanceOfNeverShort_36 rfl) ?_
  refine And.intro (s_getf (C := RX5) (T := TX5) (N := 16) rfl zin_X5 (by decide) zl_305 dX5_chanceOfNeverShort_37) ?_
  refine And.intro (s_alen dX5_chanceOfNeverShort_40) ?_
  refine And.intro (s_icmp_ge dX5_chanceOfNeverShort_41 (by decide)) ?_
  refine And.intro (s_aload_n dX5_chanceOfNeverShort_44 rfl) ?_
  refine And.intro (s_getf (C := RX5) (T := TX5) (N := 16) rfl zin_X5 (by decide) zl_305 dX5_chanceOfNeverShort_45) ?_
  refine And.intro (s_iload dX5_chanceOfNeverShort_48) ?_
  refine And.intro (s_iaload dX5_chanceOfNeverShort_50) ?_
  refine And.intro (s_iload_n dX5_chanceOfNeverShort_51 rfl) ?_
  refine And.intro (s_ishr dX5_chanceOfNeverShort_52) ?_
  refine And.intro (s_iconst dX5_chanceOfNeverShort_53 (by decide)) ?_
  refine And.intro (s_iand dX5_chanceOfNeverShort_54) ?_
  refine And.intro (s_if_ne dX5_chanceOfNeverShort_55 (by decide)) ?_
  refine And.intro (s_lload_n dX5_chanceOfNeverShort_58 rfl) ?_
  refine And.intro (s_aload_n dX5_chanceOfNeverShort_59 rfl) ?_
  refine And.intro (s_iload dX5_chanceOfNeverShort_60) ?_
  refine And.intro (s_iload_n dX5_chanceOfNeverShort_62 rfl) ?_
  refine And.intro (s_callV (C := RX5) (T := TX5) (N := 16) rfl zf_X5_weightOf zg_X5_weightOf zl_677 ⟨rfl, rfl⟩ dX5_chanceOfNeverShort_63) ?_
  refine And.intro (s_ladd dX5_chanceOfNeverShort_66) ?_
  refine And.intro (s_lstore_n dX5_chanceOfNeverShort_67 rfl) ?_
  refine And.intro (s_iinc dX5_chanceOfNeverShort_68 (by decide)) ?_
  refine And.intro (s_gotob dX5_chanceOfNeverShort_71 (by decide)) ?_
  refine And.intro (s_lload_n dX5_chanceOfNeverShort_74 rfl) ?_
  refine And.intro (s_lreturn rfl dX5_chanceOfNeverShort_75) ?_
  exact trivial
def zp_X5_moth : List (Bool × Nat × zOp) := [
  (true, 0, o_il 1),
  (true, 1, o_ic 0),
  (true, 2, o_ic 16),
  (true, 4, o_cs zi_X5_within 3),
  (true, 7, o_if (fun x => x = 0) 27),
  (true, 10, o_al 0),
  (true, 11, o_il 2),
  (true, 12, o_cv zi_X5_isHouse 1 5),
  (true, 15, o_if (fun x => x = 0) 27),
  (true, 18, o_il 3),
  (true, 19, o_ic 0),
  (true, 20, o_ic 1),
  (true, 21, o_cs zi_X5_within 3),
  (true, 24, o_in (fun x => x = 0) 31),
  (true, 27, o_lc (-9223372036854775806)),
  (true, 30, o_lr),
  (true, 31, o_al 0),
  (true, 32, o_il 1),
  (true, 33, o_il 2),
  (true, 34, o_cv zi_X5_chanceOfNeverShort 2 5),
  (true, 37, o_ls 4),
  (true, 39, o_lc 1),
  (true, 40, o_ic 4),
  (true, 41, o_al 0),
  (true, 42, o_gf 5 2),
  (true, 45, o_gf 4 9),
  (true, 48, o_ii (fun x y => x * y)),
  (true, 49, o_js (fun x y => x <<< (y.toInt64 &&& 63))),
  (true, 50, o_ls 6),
  (true, 52, o_ic 0),
  (true, 53, o_is 8),
  (false, 55, o_mark 55 [0, 1, 2]),
  (true, 55, o_il 8),
  (true, 57, o_ic 24),
  (true, 59, o_cmp (fun x y => y ≤ x) 96),
  (true, 62, o_ll 4),
  (true, 64, o_lc 1),
  (true, 65, o_jj (fun x y => x &&& y)),
  (true, 66, o_lc 0),
  (true, 67, o_jc lg_cmp),
  (true, 68, o_in (fun x => x = 0) 96),
  (true, 71, o_ll 6),
  (true, 73, o_lc 1),
  (true, 74, o_jc lg_cmp),
  (true, 75, o_if (fun x => x ≤ 0) 96),
  (true, 78, o_ll 4),
  (true, 80, o_ic 1),
  (true, 81, o_js (fun x y => x >>> (y.toInt64 &&& 63))),
  (true, 82, o_ls 4),
  (true, 84, o_ll 6),
  (true, 86, o_ic 1),
  (true, 87, o_js (fun x y => x >>> (y.toInt64 &&& 63))),
  (true, 88, o_ls 6),
  (true, 90, o_inc 8 1),
  (true, 93, o_gb 55 [0, 1, 2]),
  (true, 96, o_il 3),
  (true, 97, o_in (fun x => x = 0) 105),
  (true, 100, o_ll 4),
  (true, 102, o_go 107),
  (true, 105, o_ll 6),
  (true, 107, o_lr)]
set_option maxRecDepth 100000 in
set_option maxHeartbeats 4000000 in
theorem zk_X5_moth (kc ks : Nat) : z_OK (zS RX5 cX5_moth 9 "moth" (some .long) 4 103 kc ks) zp_X5_moth := by
  unfold zp_X5_moth
  refine And.intro (s_iload_n dX5_moth_0 rfl) ?_
  refine And.intro (s_iconst dX5_moth_1 (by decide)) ?_
  refine And.intro (s_bipush dX5_moth_2 (by decide)) ?_
  refine And.intro (s_callS zf_X5_within zl_353 zl_352 ⟨rfl, rfl⟩ dX5_moth_4) ?_
  refine And.intro (s_if_eq dX5_moth_7 (by decide)) ?_
  refine And.intro (s_aload_n dX5_moth_10 rfl) ?_
  refine And.intro (s_iload_n dX5_moth_11 rfl) ?_
  refine And.intro (s_callV (C := RX5) (T := TX5) (N := 16) rfl zf_X5_isHouse zg_X5_isHouse zl_419 ⟨rfl, rfl⟩ dX5_moth_12) ?_
  refine And.intro (s_if_eq dX5_moth_15 (by decide)) ?_
  refine And.intro (s_iload_n dX5_moth_18 rfl) ?_
  refine And.intro (s_iconst dX5_moth_19 (by decide)) ?_
  refine And.intro (s_iconst dX5_moth_20 (by decide)) ?_
  refine And.intro (s_callS zf_X5_within zl_353 zl_352 ⟨rfl, rfl⟩ dX5_moth_21) ?_
  refine And.intro (s_if_ne dX5_moth_24 (by decide)) ?_
  refine And.intro (s_ldc2 zl_664 dX5_moth_27) ?_
  refine And.intro (s_lreturn rfl dX5_moth_30) ?_
  refine And.intro (s_aload_n dX5_moth_31 rfl) ?_
  refine And.intro (s_iload_n dX5_moth_32 rfl) ?_
  refine And.intro (s_iload_n dX5_moth_33 rfl) ?_
  refine And.intro (s_callV (C := RX5) (T := TX5) (N := 16) rfl zf_X5_chanceOfNeverShort zg_X5_chanceOfNeverShort zl_665 ⟨rfl, rfl⟩ dX5_moth_34) ?_
  refine And.intro (s_lstore dX5_moth_37) ?_
  refine And.intro (s_lconst dX5_moth_39 (by decide)) ?_
  refine And.intro (s_iconst dX5_moth_40 (by decide)) ?_
  refine And.intro (s_aload_n dX5_moth_41 rfl) ?_
  refine And.intro (s_getf (C := RX5) (T := TX5) (N := 16) rfl zin_X5 (by decide) zl_301 dX5_moth_42) ?_
  refine And.intro (s_getfN (C := RX4) (T := TX4) (N := 16) rfl zin_X4 (by decide) zl_208 dX5_moth_45) ?_
  refine And.intro (s_imul dX5_moth_48) ?_
  refine And.intro (s_lshl dX5_moth_49) ?_
  refine And.intro (s_lstore dX5_moth_50) ?_
  refine And.intro (s_iconst dX5_moth_52 (by decide)) ?_
  refine And.intro (s_istore dX5_moth_53) ?_
  refine And.intro (s_mark) ?_
  refine And.intro (s_iload dX5_moth_55) ?_
  refine And.intro (s_bipush dX5_moth_57 (by decide)) ?_
  refine And.intro (s_icmp_ge dX5_moth_59 (by decide)) ?_
  refine And.intro (s_lload dX5_moth_62) ?_
  refine And.intro (s_lconst dX5_moth_64 (by decide)) ?_
  refine And.intro (s_land dX5_moth_65) ?_
  refine And.intro (s_lconst dX5_moth_66 (by decide)) ?_
  refine And.intro (s_lcmp dX5_moth_67) ?_
  refine And.intro (s_if_ne dX5_moth_68 (by decide)) ?_
  refine And.intro (s_lload dX5_moth_71) ?_
  refine And.intro (s_lconst dX5_moth_73 (by decide)) ?_
  refine And.intro (s_lcmp dX5_moth_74) ?_
  refine And.intro (s_if_le dX5_moth_75 (by decide)) ?_
  refine And.intro (s_lload dX5_moth_78) ?_
  refine And.intro (s_iconst dX5_moth_80 (by decide)) ?_
  refine And.intro (s_lshr dX5_moth_81) ?_
  refine And.intro (s_lstore dX5_moth_82) ?_
  refine And.intro (s_lload dX5_moth_84) ?_
  refine And.intro (s_iconst dX5_moth_86 (by decide)) ?_
  refine And.intro (s_lshr dX5_moth_87) ?_
  refine And.intro (s_lstore dX5_moth_88) ?_
  refine And.intro (s_iinc dX5_moth_90 (by decide)) ?_
  refine And.intro (s_gotob dX5_moth_93 (by decide)) ?_
  refine And.intro (s_iload_n dX5_moth_96 rfl) ?_
  refine And.intro (s_if_ne dX5_moth_97 (by decide)) ?_
  refine And.intro (s_lload dX5_moth_100) ?_
  refine And.intro (s_goto dX5_moth_102 (by decide)) ?_
  refine And.intro (s_lload dX5_moth_105) ?_
  refine And.intro (s_lreturn rfl dX5_moth_107) ?_
  exact trivial
def zp_X5_was : List (Bool × Nat × zOp) := [
  (true, 0, o_al 0),
  (true, 1, o_il 1),
  (true, 2, o_cv zi_X5_isHouse 1 5),
  (true, 5, o_in (fun x => x = 0) 11),
  (true, 8, o_ic (-2)),
  (true, 10, o_ir),
  (true, 11, o_ic 0),
  (true, 12, o_is 2),
  (true, 13, o_ic 1),
  (true, 14, o_is 3),
  (false, 15, o_mark 15 []),
  (true, 15, o_il 3),
  (true, 16, o_ic 9),
  (true, 18, o_cmp (fun x y => y < x) 50),
  (true, 21, o_al 0),
  (true, 22, o_il 1),
  (true, 23, o_il 3),
  (true, 24, o_cv zi_X5_tryWide 2 5),
  (true, 27, o_al 0),
  (true, 28, o_al 0),
  (true, 29, o_gf 5 4),
  (true, 32, o_cv zi_X5_comesOut 1 5),
  (true, 35, o_if (fun x => x = 0) 44),
  (true, 38, o_il 2),
  (true, 39, o_ic 1),
  (true, 40, o_il 3),
  (true, 41, o_ii (fun x y => x <<< (y &&& 31))),
  (true, 42, o_ii (fun x y => x ||| y)),
  (true, 43, o_is 2),
  (true, 44, o_inc 3 1),
  (true, 47, o_gb 15 []),
  (true, 50, o_il 2),
  (true, 51, o_ir)]
set_option maxRecDepth 100000 in
set_option maxHeartbeats 4000000 in
theorem zk_X5_was (kc ks : Nat) : z_OK (zS RX5 cX5_was 4 "was" (some .int) 3 78 kc ks) zp_X5_was := by
  unfold zp_X5_was
  refine And.intro (s_aload_n dX5_was_0 rfl) ?_
  refine And.intro (s_iload_n dX5_was_1 rfl) ?_
  refine And.intro (s_callV (C := RX5) (T := TX5) (N := 16) rfl zf_X5_isHouse zg_X5_isHouse zl_419 ⟨rfl, rfl⟩ dX5_was_2) ?_
  refine And.intro (s_if_ne dX5_was_5 (by decide)) ?_
  refine And.intro (s_bipush dX5_was_8 (by decide)) ?_
  refine And.intro (s_ireturn rfl (fun _ => rfl) dX5_was_10) ?_
  refine And.intro (s_iconst dX5_was_11 (by decide)) ?_
  refine And.intro (s_istore_n dX5_was_12 rfl) ?_
  refine And.intro (s_iconst dX5_was_13 (by decide)) ?_
  refine And.intro (s_istore_n dX5_was_14 rfl) ?_
  refine And.intro (s_mark) ?_
  refine And.intro (s_iload_n dX5_was_15 rfl) ?_
  refine And.intro (s_bipush dX5_was_16 (by decide)) ?_
  refine And.intro (s_icmp_gt dX5_was_18 (by decide)) ?_
  refine And.intro (s_aload_n dX5_was_21 rfl) ?_
  refine And.intro (s_iload_n dX5_was_22 rfl) ?_
  refine And.intro (s_iload_n dX5_was_23 rfl) ?_
  refine And.intro (s_callV (C := RX5) (T := TX5) (N := 16) rfl zf_X5_tryWide zg_X5_tryWide zl_609 ⟨rfl, rfl⟩ dX5_was_24) ?_
  refine And.intro (s_aload_n dX5_was_27 rfl) ?_
  refine And.intro (s_aload_n dX5_was_28 rfl) ?_
  refine And.intro (s_getf (C := RX5) (T := TX5) (N := 16) rfl zin_X5 (by decide) zl_303 dX5_was_29) ?_
  refine And.intro (s_callV (C := RX5) (T := TX5) (N := 16) rfl zf_X5_comesOut zg_X5_comesOut zl_601 ⟨rfl, rfl⟩ dX5_was_32) ?_
  refine And.intro (s_if_eq dX5_was_35 (by decide)) ?_
  refine And.intro (s_iload_n dX5_was_38 rfl) ?_
  refine And.intro (s_iconst dX5_was_39 (by decide)) ?_
  refine And.intro (s_iload_n dX5_was_40 rfl) ?_
  refine And.intro (s_ishl dX5_was_41) ?_
  refine And.intro (s_ior dX5_was_42) ?_
  refine And.intro (s_istore_n dX5_was_43 rfl) ?_
  refine And.intro (s_iinc dX5_was_44 (by decide)) ?_
  refine And.intro (s_gotob dX5_was_47 (by decide)) ?_
  refine And.intro (s_iload_n dX5_was_50 rfl) ?_
  refine And.intro (s_ireturn rfl (fun _ => rfl) dX5_was_51) ?_
  exact trivial
def zp_X5_digestHouse : List (Bool × Nat × zOp) := [
  (true, 0, o_ll 1),
  (true, 1, o_ls 4),
  (true, 3, o_ic 0),
  (true, 4, o_is 6),
  (false, 6, o_mark 6 [1, 2, 7, 8, 9, 10]),
  (true, 6, o_il 6),
  (true, 8, o_ic 6),
  (true, 10, o_cmp (fun x y => y < x) 36),
  (true, 13, o_lc 31),
  (true, 16, o_ll 4),
  (true, 18, o_jj (fun x y => x * y)),
  (true, 19, o_al 0),
  (true, 20, o_il 3),
  (true, 21, o_il 6),
  (true, 23, o_cv zi_X5_house 2 5),
  (true, 26, o_i2l),
  (true, 27, o_jj (fun x y => x + y)),
  (true, 28, o_ls 4),
  (true, 30, o_inc 6 1),
  (true, 33, o_gb 6 [1, 2, 7, 8, 9, 10]),
  (true, 36, o_gs),
  (true, 39, o_as 6),
  (true, 41, o_al 6),
  (true, 43, o_len),
  (true, 44, o_is 7),
  (true, 46, o_ic 0),
  (true, 47, o_is 8),
  (false, 49, o_mark 49 [1, 2, 9, 10]),
  (true, 49, o_il 8),
  (true, 51, o_il 7),
  (true, 53, o_cmp (fun x y => y ≤ x) 103),
  (true, 56, o_al 6),
  (true, 58, o_il 8),
  (true, 60, o_ia),
  (true, 61, o_is 9),
  (true, 63, o_ic 0),
  (true, 64, o_is 10),
  (false, 66, o_mark 66 [1, 2]),
  (true, 66, o_il 10),
  (true, 68, o_ic 2),
  (true, 69, o_cmp (fun x y => y < x) 97),
  (true, 72, o_lc 31),
  (true, 75, o_ll 4),
  (true, 77, o_jj (fun x y => x * y)),
  (true, 78, o_al 0),
  (true, 79, o_il 9),
  (true, 81, o_il 3),
  (true, 82, o_il 10),
  (true, 84, o_cv zi_X5_got 3 5),
  (true, 87, o_i2l),
  (true, 88, o_jj (fun x y => x + y)),
  (true, 89, o_ls 4),
  (true, 91, o_inc 10 1),
  (true, 94, o_gb 66 [1, 2]),
  (true, 97, o_inc 8 1),
  (true, 100, o_gb 49 [1, 2, 9, 10]),
  (true, 103, o_lc 31),
  (true, 106, o_ll 4),
  (true, 108, o_jj (fun x y => x * y)),
  (true, 109, o_al 0),
  (true, 110, o_il 3),
  (true, 111, o_ic 0),
  (true, 112, o_cv zi_X5_held 2 5),
  (true, 115, o_i2l),
  (true, 116, o_jj (fun x y => x + y)),
  (true, 117, o_ls 4),
  (true, 119, o_lc 31),
  (true, 122, o_ll 4),
  (true, 124, o_jj (fun x y => x * y)),
  (true, 125, o_al 0),
  (true, 126, o_il 3),
  (true, 127, o_ic 1),
  (true, 128, o_cv zi_X5_held 2 5),
  (true, 131, o_i2l),
  (true, 132, o_jj (fun x y => x + y)),
  (true, 133, o_ls 4),
  (true, 135, o_ll 4),
  (true, 137, o_al 0),
  (true, 138, o_il 3),
  (true, 139, o_cv zi_X5_bestShut 1 5),
  (true, 142, o_cs zi_X5_digestPlan 2),
  (true, 145, o_ls 4),
  (true, 147, o_lc 31),
  (true, 150, o_ll 4),
  (true, 152, o_jj (fun x y => x * y)),
  (true, 153, o_al 0),
  (true, 154, o_il 3),
  (true, 155, o_cv zi_X5_was 1 5),
  (true, 158, o_i2l),
  (true, 159, o_jj (fun x y => x + y)),
  (true, 160, o_ls 4),
  (true, 162, o_lc 31),
  (true, 165, o_ll 4),
  (true, 167, o_jj (fun x y => x * y)),
  (true, 168, o_al 0),
  (true, 169, o_il 3),
  (true, 170, o_cv zi_X5_ask 1 5),
  (true, 173, o_i2l),
  (true, 174, o_jj (fun x y => x + y)),
  (true, 175, o_ls 4),
  (true, 177, o_lc 31),
  (true, 180, o_ll 4),
  (true, 182, o_jj (fun x y => x * y)),
  (true, 183, o_al 0),
  (true, 184, o_ic 5),
  (true, 185, o_il 3),
  (true, 186, o_ic 0),
  (true, 187, o_cv zi_X5_moth 3 5),
  (true, 190, o_jj (fun x y => x + y)),
  (true, 191, o_ls 4),
  (true, 193, o_lc 31),
  (true, 196, o_ll 4),
  (true, 198, o_jj (fun x y => x * y)),
  (true, 199, o_al 0),
  (true, 200, o_ic 5),
  (true, 201, o_il 3),
  (true, 202, o_ic 1),
  (true, 203, o_cv zi_X5_moth 3 5),
  (true, 206, o_jj (fun x y => x + y)),
  (true, 207, o_lr)]
set_option maxRecDepth 100000 in
set_option maxHeartbeats 4000000 in
theorem zk_X5_digestHouse (kc ks : Nat) : z_OK (zS RX5 cX5_digestHouse 11 "digestHouse" (some .long) 5 131 kc ks) zp_X5_digestHouse := by
  unfold zp_X5_digestHouse
  refine And.intro (s_lload_n dX5_digestHouse_0 rfl) ?_
  refine And.intro (s_lstore dX5_digestHouse_1) ?_
  refine And.intro (s_iconst dX5_digestHouse_3 (by decide)) ?_
  refine And.intro (s_istore dX5_digestHouse_4) ?_
  refine And.intro (s_mark) ?_
  refine And.intro (s_iload dX5_digestHouse_6) ?_
  refine And.intro (s_bipush dX5_digestHouse_8 (by decide)) ?_
  refine And.intro (s_icmp_gt dX5_digestHouse_10 (by decide)) ?_
  refine And.intro (s_ldc2 zl_751 dX5_digestHouse_13) ?_
  refine And.intro (s_lload dX5_digestHouse_16) ?_
  refine And.intro (s_lmul dX5_digestHouse_18) ?_
  refine And.intro (s_aload_n dX5_digestHouse_19 rfl) ?_
  refine And.intro (s_iload_n dX5_digestHouse_20 rfl) ?_
  refine And.intro (s_iload dX5_digestHouse_21) ?_
  refine And.intro (s_callV (C := RX5) (T := TX5) (N := 16) rfl zf_X5_house zg_X5_house zl_764 ⟨rfl, rfl⟩ dX5_digestHouse_23) ?_
  refine And.intro (s_i2l dX5_digestHouse_26) ?_
  refine And.intro (s_ladd dX5_digestHouse_27) ?_
  refine And.intro (s_lstore dX5_digestHouse_28) ?_
  refine And.intro (s_iinc dX5_digestHouse_30 (by decide)) ?_
  refine And.intro (s_gotob dX5_digestHouse_33 (by decide)) ?_
  refine And.intro (s_gets zl_765 dX5_digestHouse_36) ?_
  refine And.intro (s_astore dX5_digestHouse_39) ?_
  refine And.intro (s_aload dX5_digestHouse_41) ?_
  refine And.intro (s_alen dX5_digestHouse_43) ?_
  refine And.intro (s_istore dX5_digestHouse_44) ?_
  refine And.intro (s_iconst dX5_digestHouse_46 (by decide)) ?_
  refine And.intro (s_istore dX5_digestHouse_47) ?_
  refine And.intro (s_mark) ?_
  refine And.intro (s_iload dX5_digestHouse_49) ?_
  refine And.intro (s_iload dX5_digestHouse_51) ?_
  refine And.intro (s_icmp_ge dX5_digestHouse_53 (by decide)) ?_
  refine And.intro (s_aload dX5_digestHouse_56) ?_
  refine And.intro (s_iload dX5_digestHouse_58) ?_
  refine And.intro (s_iaload dX5_digestHouse_60) ?_
  refine And.intro (s_istore dX5_digestHouse_61) ?_
  refine And.intro (s_iconst dX5_digestHouse_63 (by decide)) ?_
  refine And.intro (s_istore dX5_digestHouse_64) ?_
  refine And.intro (s_mark) ?_
  refine And.intro (s_iload dX5_digestHouse_66) ?_
  refine And.intro (s_iconst dX5_digestHouse_68 (by decide)) ?_
  refine And.intro (s_icmp_gt dX5_digestHouse_69 (by decide)) ?_
  refine And.intro (s_ldc2 zl_751 dX5_digestHouse_72) ?_
  refine And.intro (s_lload dX5_digestHouse_75) ?_
  refine And.intro (s_lmul dX5_digestHouse_77) ?_
  refine And.intro (s_aload_n dX5_digestHouse_78 rfl) ?_
  refine And.intro (s_iload dX5_digestHouse_79) ?_
  refine And.intro (s_iload_n dX5_digestHouse_81 rfl) ?_
  refine And.intro (s_iload dX5_digestHouse_82) ?_
  refine And.intro (s_callV (C := RX5) (T := TX5) (N := 16) rfl zf_X5_got zg_X5_got zl_767 ⟨rfl, rfl⟩ dX5_digestHouse_84) ?_
  refine And.intro (s_i2l dX5_digestHouse_87) ?_
  refine And.intro (s_ladd dX5_digestHouse_88) ?_
  refine And.intro (s_lstore dX5_digestHouse_89) ?_
  refine And.intro (s_iinc dX5_digestHouse_91 (by decide)) ?_
  refine And.intro (s_gotob dX5_digestHouse_94 (by decide)) ?_
  refine And.intro (s_iinc dX5_digestHouse_97 (by decide)) ?_
  refine And.intro (s_gotob dX5_digestHouse_100 (by decide)) ?_
  refine And.intro (s_ldc2 zl_751 dX5_digestHouse_103) ?_
  refine And.intro (s_lload dX5_digestHouse_106) ?_
  refine And.intro (s_lmul dX5_digestHouse_108) ?_
  refine And.intro (s_aload_n dX5_digestHouse_109 rfl) ?_
  refine And.intro (s_iload_n dX5_digestHouse_110 rfl) ?_
  refine And.intro (s_iconst dX5_digestHouse_111 (by decide)) ?_
  refine And.intro (s_callV (C := RX5) (T := TX5) (N := 16) rfl zf_X5_held zg_X5_held zl_768 ⟨rfl, rfl⟩ dX5_digestHouse_112) ?_
  refine And.intro (s_i2l dX5_digestHouse_115) ?_
  refine And.intro (s_ladd dX5_digestHouse_116) ?_
  refine And.intro (s_lstore dX5_digestHouse_117) ?_
  refine And.intro (s_ldc2 zl_751 dX5_digestHouse_119) ?_
  refine And.intro (s_lload dX5_digestHouse_122) ?_
  refine And.intro (s_lmul dX5_digestHouse_124) ?_
  refine And.intro (s_aload_n dX5_digestHouse_125 rfl) ?_
  refine And.intro (s_iload_n dX5_digestHouse_126 rfl) ?_
  refine And.intro (s_iconst dX5_digestHouse_127 (by decide)) ?_
  refine And.intro (s_callV (C := RX5) (T := TX5) (N := 16) rfl zf_X5_held zg_X5_held zl_768 ⟨rfl, rfl⟩ dX5_digestHouse_128) ?_
  refine And.intro (s_i2l dX5_digestHouse_131) ?_
  refine And.intro (s_ladd dX5_digestHouse_132) ?_
  refine And.intro (s_lstore dX5_digestHouse_133) ?_
  refine And.intro (s_lload dX5_digestHouse_135) ?_
  refine And.intro (s_aload_n dX5_digestHouse_137 rfl) ?_
  refine And.intro (s_iload_n dX5_digestHouse_138 rfl) ?_
  refine And.intro (s_callV (C := RX5) (T := TX5) (N := 16) rfl zf_X5_bestShut zg_X5_bestShut zl_573 ⟨rfl, rfl⟩ dX5_digestHouse_139) ?_
  refine And.intro (s_callS zf_X5_digestPlan zl_770 zl_769 ⟨rfl, rfl⟩ dX5_digestHouse_142) ?_
  refine And.intro (s_lstore dX5_digestHouse_145) ?_
  refine And.intro (s_ldc2 zl_751 dX5_digestHouse_147) ?_
  refine And.intro (s_lload dX5_digestHouse_150) ?_
  refine And.intro (s_lmul dX5_digestHouse_152) ?_
  refine And.intro (s_aload_n dX5_digestHouse_153 rfl) ?_
  refine And.intro (s_iload_n dX5_digestHouse_154 rfl) ?_
  refine And.intro (s_callV (C := RX5) (T := TX5) (N := 16) rfl zf_X5_was zg_X5_was zl_772 ⟨rfl, rfl⟩ dX5_digestHouse_155) ?_
  refine And.intro (s_i2l dX5_digestHouse_158) ?_
  refine And.intro (s_ladd dX5_digestHouse_159) ?_
  refine And.intro (s_lstore dX5_digestHouse_160) ?_
  refine And.intro (s_ldc2 zl_751 dX5_digestHouse_162) ?_
  refine And.intro (s_lload dX5_digestHouse_165) ?_
  refine And.intro (s_lmul dX5_digestHouse_167) ?_
  refine And.intro (s_aload_n dX5_digestHouse_168 rfl) ?_
  refine And.intro (s_iload_n dX5_digestHouse_169 rfl) ?_
  refine And.intro (s_callV (C := RX5) (T := TX5) (N := 16) rfl zf_X5_ask zg_X5_ask zl_773 ⟨rfl, rfl⟩ dX5_digestHouse_170) ?_
  refine And.intro (s_i2l dX5_digestHouse_173) ?_
  refine And.intro (s_ladd dX5_digestHouse_174) ?_
  refine And.intro (s_lstore dX5_digestHouse_175) ?_
  refine And.intro (s_ldc2 zl_751 dX5_digestHouse_177) ?_
  refine And.intro (s_lload dX5_digestHouse_180) ?_
  refine And.intro (s_lmul dX5_digestHouse_182) ?_
  refine And.intro (s_aload_n dX5_digestHouse_183 rfl) ?_
  refine And.intro (s_iconst dX5_digestHouse_184 (by decide)) ?_
  refine And.intro (s_iload_n dX5_digestHouse_185 rfl) ?_
  refine And.intro (s_iconst dX5_digestHouse_186 (by decide)) ?_
  refine And.intro (s_callV (C := RX5) (T := TX5) (N := 16) rfl zf_X5_moth zg_X5_moth zl_774 ⟨rfl, rfl⟩ dX5_digestHouse_187) ?_
  refine And.intro (s_ladd dX5_digestHouse_190) ?_
  refine And.intro (s_lstore dX5_digestHouse_191) ?_
  refine And.intro (s_ldc2 zl_751 dX5_digestHouse_193) ?_
  refine And.intro (s_lload dX5_digestHouse_196) ?_
  refine And.intro (s_lmul dX5_digestHouse_198) ?_
  refine And.intro (s_aload_n dX5_digestHouse_199 rfl) ?_
  refine And.intro (s_iconst dX5_digestHouse_200 (by decide)) ?_
  refine And.intro (s_iload_n dX5_digestHouse_201 rfl) ?_
  refine And.intro (s_iconst dX5_digestHouse_202 (by decide)) ?_
  refine And.intro (s_callV (C := RX5) (T := TX5) (N := 16) rfl zf_X5_moth zg_X5_moth zl_774 ⟨rfl, rfl⟩ dX5_digestHouse_203) ?_
  refine And.intro (s_ladd dX5_digestHouse_206) ?_
  refine And.intro (s_lreturn rfl dX5_digestHouse_207) ?_
  exact trivial
def zp_X5_bestElbow : List (Bool × Nat × zOp) := [
  (true, 0, o_ic 2147483647),
  (true, 2, o_is 1),
  (true, 3, o_ic 0),
  (true, 4, o_is 2),
  (false, 5, o_mark 5 []),
  (true, 5, o_il 2),
  (true, 6, o_ic 40),
  (true, 8, o_cmp (fun x y => y ≤ x) 71),
  (true, 11, o_al 0),
  (true, 12, o_gf 5 2),
  (true, 15, o_gf 4 1),
  (true, 18, o_il 2),
  (true, 19, o_dup2),
  (true, 20, o_ia),
  (true, 21, o_ic 1),
  (true, 22, o_ii (fun x y => x + y)),
  (true, 23, o_iw),
  (true, 24, o_al 0),
  (true, 25, o_gf 5 4),
  (true, 28, o_al 0),
  (true, 29, o_gf 5 2),
  (true, 32, o_cv zi_X0_follow 1 0),
  (true, 35, o_al 0),
  (true, 36, o_gf 5 2),
  (true, 39, o_gf 4 1),
  (true, 42, o_il 2),
  (true, 43, o_dup2),
  (true, 44, o_ia),
  (true, 45, o_ic 1),
  (true, 46, o_ii (fun x y => x - y)),
  (true, 47, o_iw),
  (true, 48, o_il 1),
  (true, 49, o_al 0),
  (true, 50, o_gf 5 4),
  (true, 53, o_cv zi_X0_shortsInAll 0 0),
  (true, 56, o_ic 64),
  (true, 58, o_ii (fun x y => x * y)),
  (true, 59, o_il 2),
  (true, 60, o_ii (fun x y => x + y)),
  (true, 61, o_mi 55 (fun x y => if y < x then y else x)),
  (true, 64, o_is 1),
  (true, 65, o_inc 2 1),
  (true, 68, o_gb 5 []),
  (true, 71, o_il 1),
  (true, 72, o_ir)]
set_option maxRecDepth 100000 in
set_option maxHeartbeats 4000000 in
theorem zk_X5_bestElbow (kc ks : Nat) : z_OK (zS RX5 cX5_bestElbow 3 "bestElbow" (some .int) 2 55 kc ks) zp_X5_bestElbow := by
  unfold zp_X5_bestElbow
  refine And.intro (s_ldc zl_554 dX5_bestElbow_0) ?_
  refine And.intro (s_istore_n dX5_bestElbow_2 rfl) ?_
  refine And.intro (s_iconst dX5_bestElbow_3 (by decide)) ?_
  refine And.intro (s_istore_n dX5_bestElbow_4 rfl) ?_
  refine And.intro (s_mark) ?_
  refine And.intro (s_iload_n dX5_bestElbow_5 rfl) ?_
  refine And.intro (s_bipush dX5_bestElbow_6 (by decide)) ?_
  refine And.intro (s_icmp_ge dX5_bestElbow_8 (by decide)) ?_
  refine And.intro (s_aload_n dX5_bestElbow_11 rfl) ?_
  refine And.intro (s_getf (C := RX5) (T := TX5) (N := 16) rfl zin_X5 (by decide) zl_301 dX5_bestElbow_12) ?_
  refine And.intro (s_getfN (C := RX4) (T := TX4) (N := 16) rfl zin_X4 (by decide) zl_192 dX5_bestElbow_15) ?_
  refine And.intro (s_iload_n dX5_bestElbow_18 rfl) ?_
  refine And.intro (s_dup2 dX5_bestElbow_19) ?_
  refine And.intro (s_iaload dX5_bestElbow_20) ?_
  refine And.intro (s_iconst dX5_bestElbow_21 (by decide)) ?_
  refine And.intro (s_iadd dX5_bestElbow_22) ?_
  refine And.intro (s_iastore dX5_bestElbow_23) ?_
  refine And.intro (s_aload_n dX5_bestElbow_24 rfl) ?_
  refine And.intro (s_getf (C := RX5) (T := TX5) (N := 16) rfl zin_X5 (by decide) zl_303 dX5_bestElbow_25) ?_
  refine And.intro (s_aload_n dX5_bestElbow_28 rfl) ?_
  refine And.intro (s_getf (C := RX5) (T := TX5) (N := 16) rfl zin_X5 (by decide) zl_301 dX5_bestElbow_29) ?_
  refine And.intro (s_callVN (C := RX0) (T := TX0) (N := 6) rfl zf_X0_follow zg_X0_follow zl_492 ⟨rfl, rfl⟩ dX5_bestElbow_32) ?_
  refine And.intro (s_aload_n dX5_bestElbow_35 rfl) ?_
  refine And.intro (s_getf (C := RX5) (T := TX5) (N := 16) rfl zin_X5 (by decide) zl_301 dX5_bestElbow_36) ?_
  refine And.intro (s_getfN (C := RX4) (T := TX4) (N := 16) rfl zin_X4 (by decide) zl_192 dX5_bestElbow_39) ?_
  refine And.intro (s_iload_n dX5_bestElbow_42 rfl) ?_
  refine And.intro (s_dup2 dX5_bestElbow_43) ?_
  refine And.intro (s_iaload dX5_bestElbow_44) ?_
  refine And.intro (s_iconst dX5_bestElbow_45 (by decide)) ?_
  refine And.intro (s_isub dX5_bestElbow_46) ?_
  refine And.intro (s_iastore dX5_bestElbow_47) ?_
  refine And.intro (s_iload_n dX5_bestElbow_48 rfl) ?_
  refine And.intro (s_aload_n dX5_bestElbow_49 rfl) ?_
  refine And.intro (s_getf (C := RX5) (T := TX5) (N := 16) rfl zin_X5 (by decide) zl_303 dX5_bestElbow_50) ?_
  refine And.intro (s_callVN (C := RX0) (T := TX0) (N := 6) rfl zf_X0_shortsInAll zg_X0_shortsInAll zl_555 ⟨rfl, rfl⟩ dX5_bestElbow_53) ?_
  refine And.intro (s_bipush dX5_bestElbow_56 (by decide)) ?_
  refine And.intro (s_imul dX5_bestElbow_58) ?_
  refine And.intro (s_iload_n dX5_bestElbow_59 rfl) ?_
  refine And.intro (s_iadd dX5_bestElbow_60) ?_
  refine And.intro (s_mmin zl_565 zl_120 zl_96 zl_121 (by decide) dX5_bestElbow_61) ?_
  refine And.intro (s_istore_n dX5_bestElbow_64 rfl) ?_
  refine And.intro (s_iinc dX5_bestElbow_65 (by decide)) ?_
  refine And.intro (s_gotob dX5_bestElbow_68 (by decide)) ?_
  refine And.intro (s_iload_n dX5_bestElbow_71 rfl) ?_
  refine And.intro (s_ireturn rfl (fun _ => rfl) dX5_bestElbow_72) ?_
  exact trivial
def zp_X5_bestPatch : List (Bool × Nat × zOp) := [
  (true, 0, o_ic 2147483647),
  (true, 2, o_is 1),
  (true, 3, o_ic 0),
  (true, 4, o_is 2),
  (false, 5, o_mark 5 []),
  (true, 5, o_il 2),
  (true, 6, o_al 0),
  (true, 7, o_gf 5 2),
  (true, 10, o_gf 4 9),
  (true, 13, o_cmp (fun x y => y ≤ x) 62),
  (true, 16, o_al 0),
  (true, 17, o_gf 5 2),
  (true, 20, o_ic (-1)),
  (true, 21, o_ic 1),
  (true, 22, o_il 2),
  (true, 23, o_ii (fun x y => x <<< (y &&& 31))),
  (true, 24, o_ii (fun x y => x ^^^ y)),
  (true, 25, o_pi 4 10),
  (true, 28, o_al 0),
  (true, 29, o_gf 5 4),
  (true, 32, o_al 0),
  (true, 33, o_gf 5 2),
  (true, 36, o_cv zi_X0_follow 1 0),
  (true, 39, o_il 1),
  (true, 40, o_al 0),
  (true, 41, o_gf 5 4),
  (true, 44, o_cv zi_X0_shortsInAll 0 0),
  (true, 47, o_ic 64),
  (true, 49, o_ii (fun x y => x * y)),
  (true, 50, o_il 2),
  (true, 51, o_ii (fun x y => x + y)),
  (true, 52, o_mi 55 (fun x y => if y < x then y else x)),
  (true, 55, o_is 1),
  (true, 56, o_inc 2 1),
  (true, 59, o_gb 5 []),
  (true, 62, o_al 0),
  (true, 63, o_gf 5 2),
  (true, 66, o_ic (-1)),
  (true, 67, o_pi 4 10),
  (true, 70, o_il 1),
  (true, 71, o_ir)]
set_option maxRecDepth 100000 in
set_option maxHeartbeats 4000000 in
theorem zk_X5_bestPatch (kc ks : Nat) : z_OK (zS RX5 cX5_bestPatch 3 "bestPatch" (some .int) 2 55 kc ks) zp_X5_bestPatch := by
  unfold zp_X5_bestPatch
  refine And.intro (s_ldc zl_554 dX5_bestPatch_0) ?_
  refine And.intro (s_istore_n dX5_bestPatch_2 rfl) ?_
  refine And.intro (s_iconst dX5_bestPatch_3 (by decide)) ?_
  refine And.intro (s_istore_n dX5_bestPatch_4 rfl) ?_
  refine And.intro (s_mark) ?_
  refine And.intro (s_iload_n dX5_bestPatch_5 rfl) ?_
  refine And.intro (s_aload_n dX5_bestPatch_6 rfl) ?_
  refine And.intro (s_getf (C := RX5) (T := TX5) (N := 16) rfl zin_X5 (by decide) zl_301 dX5_bestPatch_7) ?_
  refine And.intro (s_getfN (C := RX4) (T := TX4) (N := 16) rfl zin_X4 (by decide) zl_208 dX5_bestPatch_10) ?_
  refine And.intro (s_icmp_ge dX5_bestPatch_13 (by decide)) ?_
  refine And.intro (s_aload_n dX5_bestPatch_16 rfl) ?_
  refine And.intro (s_getf (C := RX5) (T := TX5) (N := 16) rfl zin_X5 (by decide) zl_301 dX5_bestPatch_17) ?_
  refine And.intro (s_iconst dX5_bestPatch_20 (by decide)) ?_
  refine And.intro (s_iconst dX5_bestPatch_21 (by decide)) ?_
  refine And.intro (s_iload_n dX5_bestPatch_22 rfl) ?_
  refine And.intro (s_ishl dX5_bestPatch_23) ?_
  refine And.intro (s_ixor dX5_bestPatch_24) ?_
  refine And.intro (s_putIN (C := RX4) (T := TX4) (N := 16) rfl zin_X4 (by decide) tyX4 tyX4_ok nmX4 zl_210 rfl (by decide +kernel) dX5_bestPatch_25) ?_
  refine And.intro (s_aload_n dX5_bestPatch_28 rfl) ?_
  refine And.intro (s_getf (C := RX5) (T := TX5) (N := 16) rfl zin_X5 (by decide) zl_303 dX5_bestPatch_29) ?_
  refine And.intro (s_aload_n dX5_bestPatch_32 rfl) ?_
  refine And.intro (s_getf (C := RX5) (T := TX5) (N := 16) rfl zin_X5 (by decide) zl_301 dX5_bestPatch_33) ?_
  refine And.intro (s_callVN (C := RX0) (T := TX0) (N := 6) rfl zf_X0_follow zg_X0_follow zl_492 ⟨rfl, rfl⟩ dX5_bestPatch_36) ?_
  refine And.intro (s_iload_n dX5_bestPatch_39 rfl) ?_
  refine And.intro (s_aload_n dX5_bestPatch_40 rfl) ?_
  refine And.intro (s_getf (C := RX5) (T := TX5) (N := 16) rfl zin_X5 (by decide) zl_303 dX5_bestPatch_41) ?_
  refine And.intro (s_callVN (C := RX0) (T := TX0) (N := 6) rfl zf_X0_shortsInAll zg_X0_shortsInAll zl_555 ⟨rfl, rfl⟩ dX5_bestPatch_44) ?_
  refine And.intro (s_bipush dX5_bestPatch_47 (by decide)) ?_
  refine And.intro (s_imul dX5_bestPatch_49) ?_
  refine And.intro (s_iload_n dX5_bestPatch_50 rfl) ?_
  refine And.intro (s_iadd dX5_bestPatch_51) ?_
  refine And.intro (s_mmin zl_565 zl_120 zl_96 zl_121 (by decide) dX5_bestPatch_52) ?_
  refine And.intro (s_istore_n dX5_bestPatch_55 rfl) ?_
  refine And.intro (s_iinc dX5_bestPatch_56 (by decide)) ?_
  refine And.intro (s_gotob dX5_bestPatch_59 (by decide)) ?_
  refine And.intro (s_aload_n dX5_bestPatch_62 rfl) ?_
  refine And.intro (s_getf (C := RX5) (T := TX5) (N := 16) rfl zin_X5 (by decide) zl_301 dX5_bestPatch_63) ?_
  refine And.intro (s_iconst dX5_bestPatch_66 (by decide)) ?_
  refine And.intro (s_putIN (C := RX4) (T := TX4) (N := 16) rfl zin_X4 (by decide) tyX4 tyX4_ok nmX4 zl_210 rfl (by decide +kernel) dX5_bestPatch_67) ?_
  refine And.intro (s_iload_n dX5_bestPatch_70 rfl) ?_
  refine And.intro (s_ireturn rfl (fun _ => rfl) dX5_bestPatch_71) ?_
  exact trivial
def zp_X5_first : List (Bool × Nat × zOp) := [
  (true, 0, o_al 0),
  (true, 1, o_cv zi_X5_toldCourse 0 5),
  (true, 4, o_ic (-1)),
  (true, 5, o_cv zi_X0_firstShort 1 0),
  (true, 8, o_ir)]
set_option maxRecDepth 100000 in
set_option maxHeartbeats 4000000 in
theorem zk_X5_first (kc ks : Nat) : z_OK (zS RX5 cX5_first 1 "first" (some .int) 3 75 kc ks) zp_X5_first := by
  unfold zp_X5_first
  refine And.intro (s_aload_n dX5_first_0 rfl) ?_
  refine And.intro (s_callV (C := RX5) (T := TX5) (N := 16) rfl zf_X5_toldCourse zg_X5_toldCourse zl_488 ⟨rfl, rfl⟩ dX5_first_1) ?_
  refine And.intro (s_iconst dX5_first_4 (by decide)) ?_
  refine And.intro (s_callVN (C := RX0) (T := TX0) (N := 6) rfl zf_X0_firstShort zg_X0_firstShort zl_526 ⟨rfl, rfl⟩ dX5_first_5) ?_
  refine And.intro (s_ireturn rfl (fun _ => rfl) dX5_first_8) ?_
  exact trivial
def zp_X5_least : List (Bool × Nat × zOp) := [
  (true, 0, o_al 0),
  (true, 1, o_gf 5 2),
  (true, 4, o_gf 4 3),
  (true, 7, o_is 1),
  (true, 8, o_ic (-1)),
  (true, 9, o_is 2),
  (true, 10, o_ic 0),
  (true, 11, o_is 3),
  (false, 12, o_mark 12 []),
  (true, 12, o_il 3),
  (true, 13, o_ic 60),
  (true, 15, o_cmp (fun x y => y < x) 62),
  (true, 18, o_il 2),
  (true, 19, o_ic (-1)),
  (true, 20, o_cn (fun x y => x = y) 62),
  (true, 23, o_al 0),
  (true, 24, o_gf 5 2),
  (true, 27, o_il 3),
  (true, 28, o_pi 4 3),
  (true, 31, o_al 0),
  (true, 32, o_gf 5 4),
  (true, 35, o_al 0),
  (true, 36, o_gf 5 2),
  (true, 39, o_cv zi_X0_follow 1 0),
  (true, 42, o_al 0),
  (true, 43, o_gf 5 4),
  (true, 46, o_ic (-1)),
  (true, 47, o_cv zi_X0_firstShort 1 0),
  (true, 50, o_ic (-1)),
  (true, 51, o_cn (fun x y => x = y) 56),
  (true, 54, o_il 3),
  (true, 55, o_is 2),
  (true, 56, o_inc 3 1),
  (true, 59, o_gb 12 []),
  (true, 62, o_al 0),
  (true, 63, o_gf 5 2),
  (true, 66, o_il 1),
  (true, 67, o_pi 4 3),
  (true, 70, o_il 2),
  (true, 71, o_ir)]
set_option maxRecDepth 100000 in
set_option maxHeartbeats 4000000 in
theorem zk_X5_least (kc ks : Nat) : z_OK (zS RX5 cX5_least 4 "least" (some .int) 2 55 kc ks) zp_X5_least := by
  unfold zp_X5_least
  refine And.intro (s_aload_n dX5_least_0 rfl) ?_
  refine And.intro (s_getf (C := RX5) (T := TX5) (N := 16) rfl zin_X5 (by decide) zl_301 dX5_least_1) ?_
  refine And.intro (s_getfN (C := RX4) (T := TX4) (N := 16) rfl zin_X4 (by decide) zl_197 dX5_least_4) ?_
  refine And.intro (s_istore_n dX5_least_7 rfl) ?_
  refine And.intro (s_iconst dX5_least_8 (by decide)) ?_
  refine And.intro (s_istore_n dX5_least_9 rfl) ?_
  refine And.intro (s_iconst dX5_least_10 (by decide)) ?_
  refine And.intro (s_istore_n dX5_least_11 rfl) ?_
  refine And.intro (s_mark) ?_
  refine And.intro (s_iload_n dX5_least_12 rfl) ?_
  refine And.intro (s_bipush dX5_least_13 (by decide)) ?_
  refine And.intro (s_icmp_gt dX5_least_15 (by decide)) ?_
  refine And.intro (s_iload_n dX5_least_18 rfl) ?_
  refine And.intro (s_iconst dX5_least_19 (by decide)) ?_
  refine And.intro (s_icmp_ne dX5_least_20 (by decide)) ?_
  refine And.intro (s_aload_n dX5_least_23 rfl) ?_
  refine And.intro (s_getf (C := RX5) (T := TX5) (N := 16) rfl zin_X5 (by decide) zl_301 dX5_least_24) ?_
  refine And.intro (s_iload_n dX5_least_27 rfl) ?_
  refine And.intro (s_putIN (C := RX4) (T := TX4) (N := 16) rfl zin_X4 (by decide) tyX4 tyX4_ok nmX4 zl_197 rfl (by decide +kernel) dX5_least_28) ?_
  refine And.intro (s_aload_n dX5_least_31 rfl) ?_
  refine And.intro (s_getf (C := RX5) (T := TX5) (N := 16) rfl zin_X5 (by decide) zl_303 dX5_least_32) ?_
  refine And.intro (s_aload_n dX5_least_35 rfl) ?_
  refine And.intro (s_getf (C := RX5) (T := TX5) (N := 16) rfl zin_X5 (by decide) zl_301 dX5_least_36) ?_
  refine And.intro (s_callVN (C := RX0) (T := TX0) (N := 6) rfl zf_X0_follow zg_X0_follow zl_492 ⟨rfl, rfl⟩ dX5_least_39) ?_
  refine And.intro (s_aload_n dX5_least_42 rfl) ?_
  refine And.intro (s_getf (C := RX5) (T := TX5) (N := 16) rfl zin_X5 (by decide) zl_303 dX5_least_43) ?_
  refine And.intro (s_iconst dX5_least_46 (by decide)) ?_
  refine And.intro (s_callVN (C := RX0) (T := TX0) (N := 6) rfl zf_X0_firstShort zg_X0_firstShort zl_526 ⟨rfl, rfl⟩ dX5_least_47) ?_
  refine And.intro (s_iconst dX5_least_50 (by decide)) ?_
  refine And.intro (s_icmp_ne dX5_least_51 (by decide)) ?_
  refine And.intro (s_iload_n dX5_least_54 rfl) ?_
  refine And.intro (s_istore_n dX5_least_55 rfl) ?_
  refine And.intro (s_iinc dX5_least_56 (by decide)) ?_
  refine And.intro (s_gotob dX5_least_59 (by decide)) ?_
  refine And.intro (s_aload_n dX5_least_62 rfl) ?_
  refine And.intro (s_getf (C := RX5) (T := TX5) (N := 16) rfl zin_X5 (by decide) zl_301 dX5_least_63) ?_
  refine And.intro (s_iload_n dX5_least_66 rfl) ?_
  refine And.intro (s_putIN (C := RX4) (T := TX4) (N := 16) rfl zin_X4 (by decide) tyX4 tyX4_ok nmX4 zl_197 rfl (by decide +kernel) dX5_least_67) ?_
  refine And.intro (s_iload_n dX5_least_70 rfl) ?_
  refine And.intro (s_ireturn rfl (fun _ => rfl) dX5_least_71) ?_
  exact trivial
def zp_X5_never : List (Bool × Nat × zOp) := [
  (true, 0, o_ic 0),
  (true, 1, o_is 1),
  (true, 2, o_ic 0),
  (true, 3, o_is 2),
  (false, 4, o_mark 4 []),
  (true, 4, o_il 2),
  (true, 5, o_al 0),
  (true, 6, o_gf 5 2),
  (true, 9, o_gf 4 13),
  (true, 12, o_cmp (fun x y => y ≤ x) 61),
  (true, 15, o_al 0),
  (true, 16, o_gf 5 2),
  (true, 19, o_ic (-1)),
  (true, 20, o_ic 1),
  (true, 21, o_il 2),
  (true, 22, o_ii (fun x y => x <<< (y &&& 31))),
  (true, 23, o_ii (fun x y => x ^^^ y)),
  (true, 24, o_pi 4 14),
  (true, 27, o_al 0),
  (true, 28, o_gf 5 4),
  (true, 31, o_al 0),
  (true, 32, o_gf 5 2),
  (true, 35, o_cv zi_X0_follow 1 0),
  (true, 38, o_al 0),
  (true, 39, o_al 0),
  (true, 40, o_gf 5 4),
  (true, 43, o_cv zi_X5_comesOut 1 5),
  (true, 46, o_if (fun x => x = 0) 55),
  (true, 49, o_il 1),
  (true, 50, o_ic 1),
  (true, 51, o_il 2),
  (true, 52, o_ii (fun x y => x <<< (y &&& 31))),
  (true, 53, o_ii (fun x y => x ||| y)),
  (true, 54, o_is 1),
  (true, 55, o_inc 2 1),
  (true, 58, o_gb 4 []),
  (true, 61, o_al 0),
  (true, 62, o_gf 5 2),
  (true, 65, o_ic (-1)),
  (true, 66, o_pi 4 14),
  (true, 69, o_il 1),
  (true, 70, o_ir)]
set_option maxRecDepth 100000 in
set_option maxHeartbeats 4000000 in
theorem zk_X5_never (kc ks : Nat) : z_OK (zS RX5 cX5_never 3 "never" (some .int) 3 66 kc ks) zp_X5_never := by
  unfold zp_X5_never
  refine And.intro (s_iconst dX5_never_0 (by decide)) ?_
  refine And.intro (s_istore_n dX5_never_1 rfl) ?_
  refine And.intro (s_iconst dX5_never_2 (by decide)) ?_
  refine And.intro (s_istore_n dX5_never_3 rfl) ?_
  refine And.intro (s_mark) ?_
  refine And.intro (s_iload_n dX5_never_4 rfl) ?_
  refine And.intro (s_aload_n dX5_never_5 rfl) ?_
  refine And.intro (s_getf (C := RX5) (T := TX5) (N := 16) rfl zin_X5 (by decide) zl_301 dX5_never_6) ?_
  refine And.intro (s_getfN (C := RX4) (T := TX4) (N := 16) rfl zin_X4 (by decide) zl_214 dX5_never_9) ?_
  refine And.intro (s_icmp_ge dX5_never_12 (by decide)) ?_
  refine And.intro (s_aload_n dX5_never_15 rfl) ?_
  refine And.intro (s_getf (C := RX5) (T := TX5) (N := 16) rfl zin_X5 (by decide) zl_301 dX5_never_16) ?_
  refine And.intro (s_iconst dX5_never_19 (by decide)) ?_
  refine And.intro (s_iconst dX5_never_20 (by decide)) ?_
  refine And.intro (s_iload_n dX5_never_21 rfl) ?_
  refine And.intro (s_ishl dX5_never_22) ?_
  refine And.intro (s_ixor dX5_never_23) ?_
  refine And.intro (s_putIN (C := RX4) (T := TX4) (N := 16) rfl zin_X4 (by decide) tyX4 tyX4_ok nmX4 zl_216 rfl (by decide +kernel) dX5_never_24) ?_
  refine And.intro (s_aload_n dX5_never_27 rfl) ?_
  refine And.intro (s_getf (C := RX5) (T := TX5) (N := 16) rfl zin_X5 (by decide) zl_303 dX5_never_28) ?_
  refine And.intro (s_aload_n dX5_never_31 rfl) ?_
  refine And.intro (s_getf (C := RX5) (T := TX5) (N := 16) rfl zin_X5 (by decide) zl_301 dX5_never_32) ?_
  refine And.intro (s_callVN (C := RX0) (T := TX0) (N := 6) rfl zf_X0_follow zg_X0_follow zl_492 ⟨rfl, rfl⟩ dX5_never_35) ?_
  refine And.intro (s_aload_n dX5_never_38 rfl) ?_
  refine And.intro (s_aload_n dX5_never_39 rfl) ?_
  refine And.intro (s_getf (C := RX5) (T := TX5) (N := 16) rfl zin_X5 (by decide) zl_303 dX5_never_40) ?_
  refine And.intro (s_callV (C := RX5) (T := TX5) (N := 16) rfl zf_X5_comesOut zg_X5_comesOut zl_601 ⟨rfl, rfl⟩ dX5_never_43) ?_
  refine And.intro (s_if_eq dX5_never_46 (by decide)) ?_
  refine And.intro (s_iload_n dX5_never_49 rfl) ?_
  refine And.intro (s_iconst dX5_never_50 (by decide)) ?_
  refine And.intro (s_iload_n dX5_never_51 rfl) ?_
  refine And.intro (s_ishl dX5_never_52) ?_
  refine And.intro (s_ior dX5_never_53) ?_
  refine And.intro (s_istore_n dX5_never_54 rfl) ?_
  refine And.intro (s_iinc dX5_never_55 (by decide)) ?_
  refine And.intro (s_gotob dX5_never_58 (by decide)) ?_
  refine And.intro (s_aload_n dX5_never_61 rfl) ?_
  refine And.intro (s_getf (C := RX5) (T := TX5) (N := 16) rfl zin_X5 (by decide) zl_301 dX5_never_62) ?_
  refine And.intro (s_iconst dX5_never_65 (by decide)) ?_
  refine And.intro (s_putIN (C := RX4) (T := TX4) (N := 16) rfl zin_X4 (by decide) tyX4 tyX4_ok nmX4 zl_216 rfl (by decide +kernel) dX5_never_66) ?_
  refine And.intro (s_iload_n dX5_never_69 rfl) ?_
  refine And.intro (s_ireturn rfl (fun _ => rfl) dX5_never_70) ?_
  exact trivial
def zp_X5_possibleStarts : List (Bool × Nat × zOp) := [
  (true, 0, o_al 0),
  (true, 1, o_gf 5 2),
  (true, 4, o_gf 4 3),
  (true, 7, o_is 1),
  (true, 8, o_lc 0),
  (true, 9, o_ls 2),
  (true, 10, o_ic 0),
  (true, 11, o_is 4),
  (false, 13, o_mark 13 []),
  (true, 13, o_il 4),
  (true, 15, o_ic 60),
  (true, 17, o_cmp (fun x y => y < x) 64),
  (true, 20, o_al 0),
  (true, 21, o_gf 5 2),
  (true, 24, o_il 4),
  (true, 26, o_pi 4 3),
  (true, 29, o_al 0),
  (true, 30, o_gf 5 4),
  (true, 33, o_al 0),
  (true, 34, o_gf 5 2),
  (true, 37, o_cv zi_X0_follow 1 0),
  (true, 40, o_al 0),
  (true, 41, o_al 0),
  (true, 42, o_gf 5 4),
  (true, 45, o_cv zi_X5_comesOut 1 5),
  (true, 48, o_if (fun x => x = 0) 58),
  (true, 51, o_ll 2),
  (true, 52, o_lc 1),
  (true, 53, o_il 4),
  (true, 55, o_js (fun x y => x <<< (y.toInt64 &&& 63))),
  (true, 56, o_jj (fun x y => x ||| y)),
  (true, 57, o_ls 2),
  (true, 58, o_inc 4 1),
  (true, 61, o_gb 13 []),
  (true, 64, o_al 0),
  (true, 65, o_gf 5 2),
  (true, 68, o_il 1),
  (true, 69, o_pi 4 3),
  (true, 72, o_ll 2),
  (true, 73, o_lr)]
set_option maxRecDepth 100000 in
set_option maxHeartbeats 4000000 in
theorem zk_X5_possibleStarts (kc ks : Nat) : z_OK (zS RX5 cX5_possibleStarts 5 "possibleStarts" (some .long) 3 66 kc ks) zp_X5_possibleStarts := by
  unfold zp_X5_possibleStarts
  refine And.intro (s_aload_n dX5_possibleStarts_0 rfl) ?_
  refine And.intro (s_getf (C := RX5) (T := TX5) (N := 16) rfl zin_X5 (by decide) zl_301 dX5_possibleStarts_1) ?_
  refine And.intro (s_getfN (C := RX4) (T := TX4) (N := 16) rfl zin_X4 (by decide) zl_197 dX5_possibleStarts_4) ?_
  refine And.intro (s_istore_n dX5_possibleStarts_7 rfl) ?_
  refine And.intro (s_lconst dX5_possibleStarts_8 (by decide)) ?_
  refine And.intro (s_lstore_n dX5_possibleStarts_9 rfl) ?_
  refine And.intro (s_iconst dX5_possibleStarts_10 (by decide)) ?_
  refine And.intro (s_istore dX5_possibleStarts_11) ?_
  refine And.intro (s_mark) ?_
  refine And.intro (s_iload dX5_possibleStarts_13) ?_
  refine And.intro (s_bipush dX5_possibleStarts_15 (by decide)) ?_
  refine And.intro (s_icmp_gt dX5_possibleStarts_17 (by decide)) ?_
  refine And.intro (s_aload_n dX5_possibleStarts_20 rfl) ?_
  refine And.intro (s_getf (C := RX5) (T := TX5) (N := 16) rfl zin_X5 (by decide) zl_301 dX5_possibleStarts_21) ?_
  refine And.intro (s_iload dX5_possibleStarts_24) ?_
  refine And.intro (s_putIN (C := RX4) (T := TX4) (N := 16) rfl zin_X4 (by decide) tyX4 tyX4_ok nmX4 zl_197 rfl (by decide +kernel) dX5_possibleStarts_26) ?_
  refine And.intro (s_aload_n dX5_possibleStarts_29 rfl) ?_
  refine And.intro (s_getf (C := RX5) (T := TX5) (N := 16) rfl zin_X5 (by decide) zl_303 dX5_possibleStarts_30) ?_
  refine And.intro (s_aload_n dX5_possibleStarts_33 rfl) ?_
  refine And.intro (s_getf (C := RX5) (T := TX5) (N := 16) rfl zin_X5 (by decide) zl_301 dX5_possibleStarts_34) ?_
  refine And.intro (s_callVN (C := RX0) (T := TX0) (N := 6) rfl zf_X0_follow zg_X0_follow zl_492 ⟨rfl, rfl⟩ dX5_possibleStarts_37) ?_
  refine And.intro (s_aload_n dX5_possibleStarts_40 rfl) ?_
  refine And.intro (s_aload_n dX5_possibleStarts_41 rfl) ?_
  refine And.intro (s_getf (C := RX5) (T := TX5) (N := 16) rfl zin_X5 (by decide) zl_303 dX5_possibleStarts_42) ?_
  refine And.intro (s_callV (C := RX5) (T := TX5) (N := 16) rfl zf_X5_comesOut zg_X5_comesOut zl_601 ⟨rfl, rfl⟩ dX5_possibleStarts_45) ?_
  refine And.intro (s_if_eq dX5_possibleStarts_48 (by decide)) ?_
  refine And.intro (s_lload_n dX5_possibleStarts_51 rfl) ?_
  refine And.intro (s_lconst dX5_possibleStarts_52 (by decide)) ?_
  refine And.intro (s_iload dX5_possibleStarts_53) ?_
  refine And.intro (s_lshl dX5_possibleStarts_55) ?_
  refine And.intro (s_lor dX5_possibleStarts_56) ?_
  refine And.intro (s_lstore_n dX5_possibleStarts_57 rfl) ?_
  refine And.intro (s_iinc dX5_possibleStarts_58 (by decide)) ?_
  refine And.intro (s_gotob dX5_possibleStarts_61 (by decide)) ?_
  refine And.intro (s_aload_n dX5_possibleStarts_64 rfl) ?_
  refine And.intro (s_getf (C := RX5) (T := TX5) (N := 16) rfl zin_X5 (by decide) zl_301 dX5_possibleStarts_65) ?_
  refine And.intro (s_iload_n dX5_possibleStarts_68 rfl) ?_
  refine And.intro (s_putIN (C := RX4) (T := TX4) (N := 16) rfl zin_X4 (by decide) tyX4 tyX4_ok nmX4 zl_197 rfl (by decide +kernel) dX5_possibleStarts_69) ?_
  refine And.intro (s_lload_n dX5_possibleStarts_72 rfl) ?_
  refine And.intro (s_lreturn rfl dX5_possibleStarts_73) ?_
  exact trivial
def zp_X5_quiet : List (Bool × Nat × zOp) := [
  (true, 0, o_al 0),
  (true, 1, o_cv zi_X5_toldCourse 0 5),
  (true, 4, o_as 1),
  (true, 5, o_ic 0),
  (true, 6, o_is 2),
  (false, 7, o_mark 7 [0]),
  (true, 7, o_il 2),
  (true, 8, o_ic 40),
  (true, 10, o_cmp (fun x y => y ≤ x) 30),
  (true, 13, o_al 1),
  (true, 14, o_gf 0 0),
  (true, 17, o_il 2),
  (true, 18, o_ia),
  (true, 19, o_in (fun x => x = 0) 24),
  (true, 22, o_il 2),
  (true, 23, o_ir),
  (true, 24, o_inc 2 1),
  (true, 27, o_gb 7 [0]),
  (true, 30, o_ic (-1)),
  (true, 31, o_ir)]
set_option maxRecDepth 100000 in
set_option maxHeartbeats 4000000 in
theorem zk_X5_quiet (kc ks : Nat) : z_OK (zS RX5 cX5_quiet 3 "quiet" (some .int) 3 75 kc ks) zp_X5_quiet := by
  unfold zp_X5_quiet
  refine And.intro (s_aload_n dX5_quiet_0 rfl) ?_
  refine And.intro (s_callV (C := RX5) (T := TX5) (N := 16) rfl zf_X5_toldCourse zg_X5_toldCourse zl_488 ⟨rfl, rfl⟩ dX5_quiet_1) ?_
  refine And.intro (s_astore_n dX5_quiet_4 rfl) ?_
  refine And.intro (s_iconst dX5_quiet_5 (by decide)) ?_
  refine And.intro (s_istore_n dX5_quiet_6 rfl) ?_
  refine And.intro (s_mark) ?_
  refine And.intro (s_iload_n dX5_quiet_7 rfl) ?_
  refine And.intro (s_bipush dX5_quiet_8 (by decide)) ?_
  refine And.intro (s_icmp_ge dX5_quiet_10 (by decide)) ?_
  refine And.intro (s_aload_n dX5_quiet_13 rfl) ?_
  refine And.intro (s_getfN (C := RX0) (T := TX0) (N := 6) rfl zin_X0 (by decide) zl_259 dX5_quiet_14) ?_
  refine And.intro (s_iload_n dX5_quiet_17 rfl) ?_
  refine And.intro (s_iaload dX5_quiet_18) ?_
  refine And.intro (s_if_ne dX5_quiet_19 (by decide)) ?_
  refine And.intro (s_iload_n dX5_quiet_22 rfl) ?_
  refine And.intro (s_ireturn rfl (fun _ => rfl) dX5_quiet_23) ?_
  refine And.intro (s_iinc dX5_quiet_24 (by decide)) ?_
  refine And.intro (s_gotob dX5_quiet_27 (by decide)) ?_
  refine And.intro (s_iconst dX5_quiet_30 (by decide)) ?_
  refine And.intro (s_ireturn rfl (fun _ => rfl) dX5_quiet_31) ?_
  exact trivial
def zp_X5_startsPart : List (Bool × Nat × zOp) := [
  (true, 0, o_il 2),
  (true, 1, o_in (fun x => x = 0) 9),
  (true, 4, o_ll 0),
  (true, 5, o_cs zi_J13_bitCount_95d88 1),
  (true, 8, o_ir),
  (true, 9, o_ll 0),
  (true, 10, o_lc 0),
  (true, 11, o_jc lg_cmp),
  (true, 12, o_in (fun x => x = 0) 17),
  (true, 15, o_ic (-1)),
  (true, 16, o_ir),
  (true, 17, o_il 2),
  (true, 18, o_ic 1),
  (true, 19, o_cn (fun x y => x = y) 29),
  (true, 22, o_ll 0),
  (true, 23, o_cs zi_J13_numberOfTrailingZeros_95d88 1),
  (true, 26, o_go 36),
  (true, 29, o_ic 63),
  (true, 31, o_ll 0),
  (true, 32, o_cs zi_J13_numberOfLeadingZeros_95d88 1),
  (true, 35, o_ii (fun x y => x - y)),
  (true, 36, o_ir)]
set_option maxRecDepth 100000 in
set_option maxHeartbeats 4000000 in
theorem zk_X5_startsPart (kc ks : Nat) : z_OK (zS RX5 cX5_startsPart 3 "startsPart" (some .int) 2 43 kc ks) zp_X5_startsPart := by
  unfold zp_X5_startsPart
  refine And.intro (s_iload_n dX5_startsPart_0 rfl) ?_
  refine And.intro (s_if_ne dX5_startsPart_1 (by decide)) ?_
  refine And.intro (s_lload_n dX5_startsPart_4 rfl) ?_
  refine And.intro (s_callS zf_J13_bitCount_95d88 zl_625 zl_624 ⟨rfl, rfl⟩ dX5_startsPart_5) ?_
  refine And.intro (s_ireturn rfl (fun _ => rfl) dX5_startsPart_8) ?_
  refine And.intro (s_lload_n dX5_startsPart_9 rfl) ?_
  refine And.intro (s_lconst dX5_startsPart_10 (by decide)) ?_
  refine And.intro (s_lcmp dX5_startsPart_11) ?_
  refine And.intro (s_if_ne dX5_startsPart_12 (by decide)) ?_
  refine And.intro (s_iconst dX5_startsPart_15 (by decide)) ?_
  refine And.intro (s_ireturn rfl (fun _ => rfl) dX5_startsPart_16) ?_
  refine And.intro (s_iload_n dX5_startsPart_17 rfl) ?_
  refine And.intro (s_iconst dX5_startsPart_18 (by decide)) ?_
  refine And.intro (s_icmp_ne dX5_startsPart_19 (by decide)) ?_
  refine And.intro (s_lload_n dX5_startsPart_22 rfl) ?_
  refine And.intro (s_callS zf_J13_numberOfTrailingZeros_95d88 zl_631 zl_630 ⟨rfl, rfl⟩ dX5_startsPart_23) ?_
  refine And.intro (s_goto dX5_startsPart_26 (by decide)) ?_
  refine And.intro (s_bipush dX5_startsPart_29 (by decide)) ?_
  refine And.intro (s_lload_n dX5_startsPart_31 rfl) ?_
  refine And.intro (s_callS zf_J13_numberOfLeadingZeros_95d88 zl_638 zl_637 ⟨rfl, rfl⟩ dX5_startsPart_32) ?_
  refine And.intro (s_isub dX5_startsPart_35) ?_
  refine And.intro (s_ireturn rfl (fun _ => rfl) dX5_startsPart_36) ?_
  exact trivial
def zp_X5_well : List (Bool × Nat × zOp) := [
  (true, 0, o_al 0),
  (true, 1, o_cv zi_X5_toldCourse 0 5),
  (true, 4, o_as 1),
  (true, 5, o_ic 0),
  (true, 6, o_is 2),
  (true, 7, o_ic 0),
  (true, 8, o_is 3),
  (false, 9, o_mark 9 [0]),
  (true, 9, o_il 3),
  (true, 10, o_ic 40),
  (true, 12, o_cmp (fun x y => y ≤ x) 33),
  (true, 15, o_al 1),
  (true, 16, o_gf 0 3),
  (true, 19, o_il 3),
  (true, 20, o_ia),
  (true, 21, o_in (fun x => x = 0) 27),
  (true, 24, o_inc 2 1),
  (true, 27, o_inc 3 1),
  (true, 30, o_gb 9 [0]),
  (true, 33, o_il 2),
  (true, 34, o_ir)]
set_option maxRecDepth 100000 in
set_option maxHeartbeats 4000000 in
theorem zk_X5_well (kc ks : Nat) : z_OK (zS RX5 cX5_well 4 "well" (some .int) 3 75 kc ks) zp_X5_well := by
  unfold zp_X5_well
  refine And.intro (s_aload_n dX5_well_0 rfl) ?_
  refine And.intro (s_callV (C := RX5) (T := TX5) (N := 16) rfl zf_X5_toldCourse zg_X5_toldCourse zl_488 ⟨rfl, rfl⟩ dX5_well_1) ?_
  refine And.intro (s_astore_n dX5_well_4 rfl) ?_
  refine And.intro (s_iconst dX5_well_5 (by decide)) ?_
  refine And.intro (s_istore_n dX5_well_6 rfl) ?_
  refine And.intro (s_iconst dX5_well_7 (by decide)) ?_
  refine And.intro (s_istore_n dX5_well_8 rfl) ?_
  refine And.intro (s_mark) ?_
  refine And.intro (s_iload_n dX5_well_9 rfl) ?_
  refine And.intro (s_bipush dX5_well_10 (by decide)) ?_
  refine And.intro (s_icmp_ge dX5_well_12 (by decide)) ?_
  refine And.intro (s_aload_n dX5_well_15 rfl) ?_
  refine And.intro (s_getfN (C := RX0) (T := TX0) (N := 6) rfl zin_X0 (by decide) zl_265 dX5_well_16) ?_
  refine And.intro (s_iload_n dX5_well_19 rfl) ?_
  refine And.intro (s_iaload dX5_well_20) ?_
  refine And.intro (s_if_ne dX5_well_21 (by decide)) ?_
  refine And.intro (s_iinc dX5_well_24 (by decide)) ?_
  refine And.intro (s_iinc dX5_well_27 (by decide)) ?_
  refine And.intro (s_gotob dX5_well_30 (by decide)) ?_
  refine And.intro (s_iload_n dX5_well_33 rfl) ?_
  refine And.intro (s_ireturn rfl (fun _ => rfl) dX5_well_34) ?_
  exact trivial
def zp_X5_drawLots : List (Bool × Nat × zOp) := [
  (true, 0, o_il 1),
  (true, 1, o_is 3),
  (true, 2, o_ic 0),
  (true, 3, o_is 4),
  (false, 5, o_mark 5 [1]),
  (true, 5, o_il 4),
  (true, 7, o_ic 40),
  (true, 9, o_cmp (fun x y => y ≤ x) 59),
  (true, 12, o_il 4),
  (true, 14, o_il 2),
  (true, 15, o_cmp (fun x y => y ≤ x) 45),
  (true, 18, o_ic 1103515245),
  (true, 21, o_il 3),
  (true, 22, o_ii (fun x y => x * y)),
  (true, 23, o_ic 12345),
  (true, 26, o_ii (fun x y => x + y)),
  (true, 27, o_is 3),
  (true, 28, o_al 0),
  (true, 29, o_gf 5 8),
  (true, 32, o_il 4),
  (true, 34, o_il 3),
  (true, 35, o_ic 16),
  (true, 37, o_ii (fun x y => (x.toUInt32 >>> (y.toUInt32 &&& Int32.toUInt32 31)).toInt32)),
  (true, 38, o_ic 10),
  (true, 40, o_iz (fun x y => x - x / y * y)),
  (true, 41, o_iw),
  (true, 42, o_go 53),
  (true, 45, o_al 0),
  (true, 46, o_gf 5 8),
  (true, 49, o_il 4),
  (true, 51, o_ic 3),
  (true, 52, o_iw),
  (true, 53, o_inc 4 1),
  (true, 56, o_gb 5 [1]),
  (true, 59, o_vr)]
set_option maxRecDepth 100000 in
set_option maxHeartbeats 4000000 in
theorem zk_X5_drawLots (kc ks : Nat) : z_OK (zS RX5 cX5_drawLots 5 "drawLots" none 0 0 kc ks) zp_X5_drawLots := by
  unfold zp_X5_drawLots
  refine And.intro (s_iload_n dX5_drawLots_0 rfl) ?_
  refine And.intro (s_istore_n dX5_drawLots_1 rfl) ?_
  refine And.intro (s_iconst dX5_drawLots_2 (by decide)) ?_
  refine And.intro (s_istore dX5_drawLots_3) ?_
  refine And.intro (s_mark) ?_
  refine And.intro (s_iload dX5_drawLots_5) ?_
  refine And.intro (s_bipush dX5_drawLots_7 (by decide)) ?_
  refine And.intro (s_icmp_ge dX5_drawLots_9 (by decide)) ?_
  refine And.intro (s_iload dX5_drawLots_12) ?_
  refine And.intro (s_iload_n dX5_drawLots_14 rfl) ?_
  refine And.intro (s_icmp_ge dX5_drawLots_15 (by decide)) ?_
  refine And.intro (s_ldcw zl_689 dX5_drawLots_18) ?_
  refine And.intro (s_iload_n dX5_drawLots_21 rfl) ?_
  refine And.intro (s_imul dX5_drawLots_22) ?_
  refine And.intro (s_sipush dX5_drawLots_23 (by decide)) ?_
  refine And.intro (s_iadd dX5_drawLots_26) ?_
  refine And.intro (s_istore_n dX5_drawLots_27 rfl) ?_
  refine And.intro (s_aload_n dX5_drawLots_28 rfl) ?_
  refine And.intro (s_getf (C := RX5) (T := TX5) (N := 16) rfl zin_X5 (by decide) zl_307 dX5_drawLots_29) ?_
  refine And.intro (s_iload dX5_drawLots_32) ?_
  refine And.intro (s_iload_n dX5_drawLots_34 rfl) ?_
  refine And.intro (s_bipush dX5_drawLots_35 (by decide)) ?_
  refine And.intro (s_iushr dX5_drawLots_37) ?_
  refine And.intro (s_bipush dX5_drawLots_38 (by decide)) ?_
  refine And.intro (s_irem dX5_drawLots_40) ?_
  refine And.intro (s_iastore dX5_drawLots_41) ?_
  refine And.intro (s_goto dX5_drawLots_42 (by decide)) ?_
  refine And.intro (s_aload_n dX5_drawLots_45 rfl) ?_
  refine And.intro (s_getf (C := RX5) (T := TX5) (N := 16) rfl zin_X5 (by decide) zl_307 dX5_drawLots_46) ?_
  refine And.intro (s_iload dX5_drawLots_49) ?_
  refine And.intro (s_iconst dX5_drawLots_51 (by decide)) ?_
  refine And.intro (s_iastore dX5_drawLots_52) ?_
  refine And.intro (s_iinc dX5_drawLots_53 (by decide)) ?_
  refine And.intro (s_gotob dX5_drawLots_56 (by decide)) ?_
  refine And.intro (s_vreturn rfl dX5_drawLots_59) ?_
  exact trivial
def zp_X5_year : List (Bool × Nat × zOp) := [
  (true, 0, o_il 2),
  (true, 1, o_ic 0),
  (true, 2, o_ic 40),
  (true, 4, o_cs zi_X5_within 3),
  (true, 7, o_if (fun x => x = 0) 19),
  (true, 10, o_il 3),
  (true, 11, o_ic 0),
  (true, 12, o_ic 1),
  (true, 13, o_cs zi_X5_within 3),
  (true, 16, o_in (fun x => x = 0) 22),
  (true, 19, o_ic (-2)),
  (true, 21, o_ir),
  (true, 22, o_al 0),
  (true, 23, o_il 1),
  (true, 24, o_il 2),
  (true, 25, o_cv zi_X5_drawLots 2 5),
  (true, 28, o_al 0),
  (true, 29, o_gf 5 2),
  (true, 32, o_gf 4 1),
  (true, 35, o_as 4),
  (true, 37, o_al 0),
  (true, 38, o_gf 5 2),
  (true, 41, o_al 0),
  (true, 42, o_gf 5 8),
  (true, 45, o_pr 4 1),
  (true, 48, o_al 0),
  (true, 49, o_gf 5 4),
  (true, 52, o_al 0),
  (true, 53, o_gf 5 2),
  (true, 56, o_cv zi_X0_follow 1 0),
  (true, 59, o_al 0),
  (true, 60, o_gf 5 2),
  (true, 63, o_al 4),
  (true, 65, o_pr 4 1),
  (true, 68, o_il 3),
  (true, 69, o_in (fun x => x = 0) 82),
  (true, 72, o_al 0),
  (true, 73, o_gf 5 4),
  (true, 76, o_cv zi_X0_shortsInAll 0 0),
  (true, 79, o_go 92),
  (true, 82, o_al 0),
  (true, 83, o_gf 5 4),
  (true, 86, o_gf 0 0),
  (true, 89, o_ic 39),
  (true, 91, o_ia),
  (true, 92, o_ir)]
set_option maxRecDepth 100000 in
set_option maxHeartbeats 4000000 in
theorem zk_X5_year (kc ks : Nat) : z_OK (zS RX5 cX5_year 5 "year" (some .int) 2 55 kc ks) zp_X5_year := by
  unfold zp_X5_year
  refine And.intro (s_iload_n dX5_year_0 rfl) ?_
  refine And.intro (s_iconst dX5_year_1 (by decide)) ?_
  refine And.intro (s_bipush dX5_year_2 (by decide)) ?_
  refine And.intro (s_callS zf_X5_within zl_353 zl_352 ⟨rfl, rfl⟩ dX5_year_4) ?_
  refine And.intro (s_if_eq dX5_year_7 (by decide)) ?_
  refine And.intro (s_iload_n dX5_year_10 rfl) ?_
  refine And.intro (s_iconst dX5_year_11 (by decide)) ?_
  refine And.intro (s_iconst dX5_year_12 (by decide)) ?_
  refine And.intro (s_callS zf_X5_within zl_353 zl_352 ⟨rfl, rfl⟩ dX5_year_13) ?_
  refine And.intro (s_if_ne dX5_year_16 (by decide)) ?_
  refine And.intro (s_bipush dX5_year_19 (by decide)) ?_
  refine And.intro (s_ireturn rfl (fun _ => rfl) dX5_year_21) ?_
  refine And.intro (s_aload_n dX5_year_22 rfl) ?_
  refine And.intro (s_iload_n dX5_year_23 rfl) ?_
  refine And.intro (s_iload_n dX5_year_24 rfl) ?_
  refine And.intro (s_callV (C := RX5) (T := TX5) (N := 16) rfl zf_X5_drawLots zg_X5_drawLots zl_685 ⟨rfl, rfl⟩ dX5_year_25) ?_
  refine And.intro (s_aload_n dX5_year_28 rfl) ?_
  refine And.intro (s_getf (C := RX5) (T := TX5) (N := 16) rfl zin_X5 (by decide) zl_301 dX5_year_29) ?_
  refine And.intro (s_getfN (C := RX4) (T := TX4) (N := 16) rfl zin_X4 (by decide) zl_192 dX5_year_32) ?_
  refine And.intro (s_astore dX5_year_35) ?_
  refine And.intro (s_aload_n dX5_year_37 rfl) ?_
  refine And.intro (s_getf (C := RX5) (T := TX5) (N := 16) rfl zin_X5 (by decide) zl_301 dX5_year_38) ?_
  refine And.intro (s_aload_n dX5_year_41 rfl) ?_
  refine And.intro (s_getf (C := RX5) (T := TX5) (N := 16) rfl zin_X5 (by decide) zl_307 dX5_year_42) ?_
  refine And.intro (s_putRN (ty := tyX4 1) (C := RX4) (T := TX4) (N := 16) rfl zin_X4 (by decide) tyX4 tyX4_ok nmX4 zl_192 rfl (tyX4_ok 1 (by decide)) (fun _ => ⟨rfl, rfl⟩) dX5_year_45) ?_
  refine And.intro (s_aload_n dX5_year_48 rfl) ?_
  refine And.intro (s_getf (C := RX5) (T := TX5) (N := 16) rfl zin_X5 (by decide) zl_303 dX5_year_49) ?_
  refine And.intro (s_aload_n dX5_year_52 rfl) ?_
  refine And.intro (s_getf (C := RX5) (T := TX5) (N := 16) rfl zin_X5 (by decide) zl_301 dX5_year_53) ?_
  refine And.intro (s_callVN (C := RX0) (T := TX0) (N := 6) rfl zf_X0_follow zg_X0_follow zl_492 ⟨rfl, rfl⟩ dX5_year_56) ?_
  refine And.intro (s_aload_n dX5_year_59 rfl) ?_
  refine And.intro (s_getf (C := RX5) (T := TX5) (N := 16) rfl zin_X5 (by decide) zl_301 dX5_year_60) ?_
  refine And.intro (s_aload dX5_year_63) ?_
  refine And.intro (s_putRN (ty := tyX4 1) (C := RX4) (T := TX4) (N := 16) rfl zin_X4 (by decide) tyX4 tyX4_ok nmX4 zl_192 rfl (tyX4_ok 1 (by decide)) (fun _ => ⟨rfl, rfl⟩) dX5_year_65) ?_
  refine And.intro (s_iload_n dX5_year_68 rfl) ?_
  refine And.intro (s_if_ne dX5_year_69 (by decide)) ?_
  refine And.intro (s_aload_n dX5_year_72 rfl) ?_
  refine And.intro (s_getf (C := RX5) (T := TX5) (N := 16) rfl zin_X5 (by decide) zl_303 dX5_year_73) ?_
  refine And.intro (s_callVN (C := RX0) (T := TX0) (N := 6) rfl zf_X0_shortsInAll zg_X0_shortsInAll zl_555 ⟨rfl, rfl⟩ dX5_year_76) ?_
  refine And.intro (s_goto dX5_year_79 (by decide)) ?_
  refine And.intro (s_aload_n dX5_year_82 rfl) ?_
  refine And.intro (s_getf (C := RX5) (T := TX5) (N := 16) rfl zin_X5 (by decide) zl_303 dX5_year_83) ?_
  refine And.intro (s_getfN (C := RX0) (T := TX0) (N := 6) rfl zin_X0 (by decide) zl_259 dX5_year_86) ?_
  refine And.intro (s_bipush dX5_year_89 (by decide)) ?_
  refine And.intro (s_iaload dX5_year_91) ?_
  refine And.intro (s_ireturn rfl (fun _ => rfl) dX5_year_92) ?_
  exact trivial
def zp_X5_digestTown : List (Bool × Nat × zOp) := [
  (true, 0, o_lc 31),
  (true, 3, o_ll 1),
  (true, 4, o_jj (fun x y => x * y)),
  (true, 5, o_al 0),
  (true, 6, o_cv zi_X5_first 0 5),
  (true, 9, o_i2l),
  (true, 10, o_jj (fun x y => x + y)),
  (true, 11, o_ls 3),
  (true, 12, o_lc 31),
  (true, 15, o_ll 3),
  (true, 16, o_jj (fun x y => x * y)),
  (true, 17, o_al 0),
  (true, 18, o_cv zi_X5_quiet 0 5),
  (true, 21, o_i2l),
  (true, 22, o_jj (fun x y => x + y)),
  (true, 23, o_ls 3),
  (true, 24, o_lc 31),
  (true, 27, o_ll 3),
  (true, 28, o_jj (fun x y => x * y)),
  (true, 29, o_al 0),
  (true, 30, o_cv zi_X5_well 0 5),
  (true, 33, o_i2l),
  (true, 34, o_jj (fun x y => x + y)),
  (true, 35, o_ls 3),
  (true, 36, o_ll 3),
  (true, 37, o_al 0),
  (true, 38, o_cv zi_X5_bestElbow 0 5),
  (true, 41, o_cs zi_X5_digestPlan 2),
  (true, 44, o_ls 3),
  (true, 45, o_lc 31),
  (true, 48, o_ll 3),
  (true, 49, o_jj (fun x y => x * y)),
  (true, 50, o_al 0),
  (true, 51, o_cv zi_X5_least 0 5),
  (true, 54, o_i2l),
  (true, 55, o_jj (fun x y => x + y)),
  (true, 56, o_ls 3),
  (true, 57, o_ll 3),
  (true, 58, o_al 0),
  (true, 59, o_cv zi_X5_bestPatch 0 5),
  (true, 62, o_cs zi_X5_digestPlan 2),
  (true, 65, o_ls 3),
  (true, 66, o_lc 31),
  (true, 69, o_ll 3),
  (true, 70, o_jj (fun x y => x * y)),
  (true, 71, o_al 0),
  (true, 72, o_cv zi_X5_never 0 5),
  (true, 75, o_i2l),
  (true, 76, o_jj (fun x y => x + y)),
  (true, 77, o_ls 3),
  (true, 78, o_al 0),
  (true, 79, o_cv zi_X5_possibleStarts 0 5),
  (true, 82, o_ls 5),
  (true, 84, o_ic 0),
  (true, 85, o_is 7),
  (false, 87, o_mark 87 [1, 2]),
  (true, 87, o_il 7),
  (true, 89, o_ic 2),
  (true, 90, o_cmp (fun x y => y < x) 114),
  (true, 93, o_lc 31),
  (true, 96, o_ll 3),
  (true, 97, o_jj (fun x y => x * y)),
  (true, 98, o_ll 5),
  (true, 100, o_il 7),
  (true, 102, o_cs zi_X5_startsPart 2),
  (true, 105, o_i2l),
  (true, 106, o_jj (fun x y => x + y)),
  (true, 107, o_ls 3),
  (true, 108, o_inc 7 1),
  (true, 111, o_gb 87 [1, 2]),
  (true, 114, o_lc 31),
  (true, 117, o_ll 3),
  (true, 118, o_jj (fun x y => x * y)),
  (true, 119, o_al 0),
  (true, 120, o_ic 7),
  (true, 122, o_ic 25),
  (true, 124, o_ic 0),
  (true, 125, o_cv zi_X5_year 3 5),
  (true, 128, o_i2l),
  (true, 129, o_jj (fun x y => x + y)),
  (true, 130, o_ls 3),
  (true, 131, o_lc 31),
  (true, 134, o_ll 3),
  (true, 135, o_jj (fun x y => x * y)),
  (true, 136, o_al 0),
  (true, 137, o_ic 7),
  (true, 139, o_ic 25),
  (true, 141, o_ic 1),
  (true, 142, o_cv zi_X5_year 3 5),
  (true, 145, o_i2l),
  (true, 146, o_jj (fun x y => x + y)),
  (true, 147, o_lr)]
set_option maxRecDepth 100000 in
set_option maxHeartbeats 4000000 in
theorem zk_X5_digestTown (kc ks : Nat) : z_OK (zS RX5 cX5_digestTown 8 "digestTown" (some .long) 4 98 kc ks) zp_X5_digestTown := by
  unfold zp_X5_digestTown
  refine And.intro (s_ldc2 zl_751 dX5_digestTown_0) ?_
  refine And.intro (s_lload_n dX5_digestTown_3 rfl) ?_
  refine And.intro (s_lmul dX5_digestTown_4) ?_
  refine And.intro (s_aload_n dX5_digestTown_5 rfl) ?_
  refine And.intro (s_callV (C := RX5) (T := TX5) (N := 16) rfl zf_X5_first zg_X5_first zl_779 ⟨rfl, rfl⟩ dX5_digestTown_6) ?_
  refine And.intro (s_i2l dX5_digestTown_9) ?_
  refine And.intro (s_ladd dX5_digestTown_10) ?_
  refine And.intro (s_lstore_n dX5_digestTown_11 rfl) ?_
  refine And.intro (s_ldc2 zl_751 dX5_digestTown_12) ?_
  refine And.intro (s_lload_n dX5_digestTown_15 rfl) ?_
  refine And.intro (s_lmul dX5_digestTown_16) ?_
  refine And.intro (s_aload_n dX5_digestTown_17 rfl) ?_
  refine And.intro (s_callV (C := RX5) (T := TX5) (N := 16) rfl zf_X5_quiet zg_X5_quiet zl_780 ⟨rfl, rfl⟩ dX5_digestTown_18) ?_
  refine And.intro (s_i2l dX5_digestTown_21) ?_
  refine And.intro (s_ladd dX5_digestTown_22) ?_
  refine And.intro (s_lstore_n dX5_digestTown_23 rfl) ?_
  refine And.intro (s_ldc2 zl_751 dX5_digestTown_24) ?_
  refine And.intro (s_lload_n dX5_digestTown_27 rfl) ?_
  refine And.intro (s_lmul dX5_digestTown_28) ?_
  refine And.intro (s_aload_n dX5_digestTown_29 rfl) ?_
  refine And.intro (s_callV (C := RX5) (T := TX5) (N := 16) rfl zf_X5_well zg_X5_well zl_781 ⟨rfl, rfl⟩ dX5_digestTown_30) ?_
  refine And.intro (s_i2l dX5_digestTown_33) ?_
  refine And.intro (s_ladd dX5_digestTown_34) ?_
  refine And.intro (s_lstore_n dX5_digestTown_35 rfl) ?_
  refine And.intro (s_lload_n dX5_digestTown_36 rfl) ?_
  refine And.intro (s_aload_n dX5_digestTown_37 rfl) ?_
  refine And.intro (s_callV (C := RX5) (T := TX5) (N := 16) rfl zf_X5_bestElbow zg_X5_bestElbow zl_550 ⟨rfl, rfl⟩ dX5_digestTown_38) ?_
  refine And.intro (s_callS zf_X5_digestPlan zl_770 zl_769 ⟨rfl, rfl⟩ dX5_digestTown_41) ?_
  refine And.intro (s_lstore_n dX5_digestTown_44 rfl) ?_
  refine And.intro (s_ldc2 zl_751 dX5_digestTown_45) ?_
  refine And.intro (s_lload_n dX5_digestTown_48 rfl) ?_
  refine And.intro (s_lmul dX5_digestTown_49) ?_
  refine And.intro (s_aload_n dX5_digestTown_50 rfl) ?_
  refine And.intro (s_callV (C := RX5) (T := TX5) (N := 16) rfl zf_X5_least zg_X5_least zl_782 ⟨rfl, rfl⟩ dX5_digestTown_51) ?_
  refine And.intro (s_i2l dX5_digestTown_54) ?_
  refine And.intro (s_ladd dX5_digestTown_55) ?_
  refine And.intro (s_lstore_n dX5_digestTown_56 rfl) ?_
  refine And.intro (s_lload_n dX5_digestTown_57 rfl) ?_
  refine And.intro (s_aload_n dX5_digestTown_58 rfl) ?_
  refine And.intro (s_callV (C := RX5) (T := TX5) (N := 16) rfl zf_X5_bestPatch zg_X5_bestPatch zl_585 ⟨rfl, rfl⟩ dX5_digestTown_59) ?_
  refine And.intro (s_callS zf_X5_digestPlan zl_770 zl_769 ⟨rfl, rfl⟩ dX5_digestTown_62) ?_
  refine And.intro (s_lstore_n dX5_digestTown_65 rfl) ?_
  refine And.intro (s_ldc2 zl_751 dX5_digestTown_66) ?_
  refine And.intro (s_lload_n dX5_digestTown_69 rfl) ?_
  refine And.intro (s_lmul dX5_digestTown_70) ?_
  refine And.intro (s_aload_n dX5_digestTown_71 rfl) ?_
  refine And.intro (s_callV (C := RX5) (T := TX5) (N := 16) rfl zf_X5_never zg_X5_never zl_783 ⟨rfl, rfl⟩ dX5_digestTown_72) ?_
  refine And.intro (s_i2l dX5_digestTown_75) ?_
  refine And.intro (s_ladd dX5_digestTown_76) ?_
  refine And.intro (s_lstore_n dX5_digestTown_77 rfl) ?_
  refine And.intro (s_aload_n dX5_digestTown_78 rfl) ?_
  refine And.intro (s_callV (C := RX5) (T := TX5) (N := 16) rfl zf_X5_possibleStarts zg_X5_possibleStarts zl_617 ⟨rfl, rfl⟩ dX5_digestTown_79) ?_
  refine And.intro (s_lstore dX5_digestTown_82) ?_
  refine And.intro (s_iconst dX5_digestTown_84 (by decide)) ?_
  refine And.intro (s_istore dX5_digestTown_85) ?_
  refine And.intro (s_mark) ?_
  refine And.intro (s_iload dX5_digestTown_87) ?_
  refine And.intro (s_iconst dX5_digestTown_89 (by decide)) ?_
  refine And.intro (s_icmp_gt dX5_digestTown_90 (by decide)) ?_
  refine And.intro (s_ldc2 zl_751 dX5_digestTown_93) ?_
  refine And.intro (s_lload_n dX5_digestTown_96 rfl) ?_
  refine And.intro (s_lmul dX5_digestTown_97) ?_
  refine And.intro (s_lload dX5_digestTown_98) ?_
  refine And.intro (s_iload dX5_digestTown_100) ?_
  refine And.intro (s_callS zf_X5_startsPart zl_622 zl_621 ⟨rfl, rfl⟩ dX5_digestTown_102) ?_
  refine And.intro (s_i2l dX5_digestTown_105) ?_
  refine And.intro (s_ladd dX5_digestTown_106) ?_
  refine And.intro (s_lstore_n dX5_digestTown_107 rfl) ?_
  refine And.intro (s_iinc dX5_digestTown_108 (by decide)) ?_
  refine And.intro (s_gotob dX5_digestTown_111 (by decide)) ?_
  refine And.intro (s_ldc2 zl_751 dX5_digestTown_114) ?_
  refine And.intro (s_lload_n dX5_digestTown_117 rfl) ?_
  refine And.intro (s_lmul dX5_digestTown_118) ?_
  refine And.intro (s_aload_n dX5_digestTown_119 rfl) ?_
  refine And.intro (s_bipush dX5_digestTown_120 (by decide)) ?_
  refine And.intro (s_bipush dX5_digestTown_122 (by decide)) ?_
  refine And.intro (s_iconst dX5_digestTown_124 (by decide)) ?_
  refine And.intro (s_callV (C := RX5) (T := TX5) (N := 16) rfl zf_X5_year zg_X5_year zl_784 ⟨rfl, rfl⟩ dX5_digestTown_125) ?_
  refine And.intro (s_i2l dX5_digestTown_128) ?_
  refine And.intro (s_ladd dX5_digestTown_129) ?_
  refine And.intro (s_lstore_n dX5_digestTown_130 rfl) ?_
  refine And.intro (s_ldc2 zl_751 dX5_digestTown_131) ?_
  refine And.intro (s_lload_n dX5_digestTown_134 rfl) ?_
  refine And.intro (s_lmul dX5_digestTown_135) ?_
  refine And.intro (s_aload_n dX5_digestTown_136 rfl) ?_
  refine And.intro (s_bipush dX5_digestTown_137 (by decide)) ?_
  refine And.intro (s_bipush dX5_digestTown_139 (by decide)) ?_
  refine And.intro (s_iconst dX5_digestTown_141 (by decide)) ?_
  refine And.intro (s_callV (C := RX5) (T := TX5) (N := 16) rfl zf_X5_year zg_X5_year zl_784 ⟨rfl, rfl⟩ dX5_digestTown_142) ?_
  refine And.intro (s_i2l dX5_digestTown_145) ?_
  refine And.intro (s_ladd dX5_digestTown_146) ?_
  refine And.intro (s_lreturn rfl dX5_digestTown_147) ?_
  exact trivial
def zp_X5_textOf : List (Bool × Nat × zOp) := [
  (true, 0, o_il 1),
  (true, 1, o_in (fun x => x = 0) 11),
  (true, 4, o_al 0),
  (true, 5, o_gf 5 0),
  (true, 8, o_go 15),
  (true, 11, o_al 0),
  (true, 12, o_gf 5 1),
  (true, 15, o_ar)]
set_option maxRecDepth 100000 in
set_option maxHeartbeats 4000000 in
theorem zk_X5_textOf (kc ks : Nat) : z_OK (zS RX5 cX5_textOf 2 "textOf" (some (.object "TownBagpipes$Text")) 0 0 kc ks) zp_X5_textOf := by
  unfold zp_X5_textOf
  refine And.intro (s_iload_n dX5_textOf_0 rfl) ?_
  refine And.intro (s_if_ne dX5_textOf_1 (by decide)) ?_
  refine And.intro (s_aload_n dX5_textOf_4 rfl) ?_
  refine And.intro (s_getf (C := RX5) (T := TX5) (N := 16) rfl zin_X5 (by decide) zl_299 dX5_textOf_5) ?_
  refine And.intro (s_goto dX5_textOf_8 (by decide)) ?_
  refine And.intro (s_aload_n dX5_textOf_11 rfl) ?_
  refine And.intro (s_getf (C := RX5) (T := TX5) (N := 16) rfl zin_X5 (by decide) zl_300 dX5_textOf_12) ?_
  refine And.intro (s_areturn rfl (Or.inl ⟨_, rfl⟩) dX5_textOf_15) ?_
  exact trivial
def zp_X5_fault : List (Bool × Nat × zOp) := [
  (true, 0, o_il 1),
  (true, 1, o_ic 0),
  (true, 2, o_ic 1),
  (true, 3, o_cs zi_X5_within 3),
  (true, 6, o_if (fun x => x = 0) 20),
  (true, 9, o_al 0),
  (true, 10, o_il 1),
  (true, 11, o_cv zi_X5_textOf 1 5),
  (true, 14, o_gf 3 3),
  (true, 17, o_go 22),
  (true, 20, o_ic (-2)),
  (true, 22, o_ir)]
set_option maxRecDepth 100000 in
set_option maxHeartbeats 4000000 in
theorem zk_X5_fault (kc ks : Nat) : z_OK (zS RX5 cX5_fault 2 "fault" (some .int) 1 22 kc ks) zp_X5_fault := by
  unfold zp_X5_fault
  refine And.intro (s_iload_n dX5_fault_0 rfl) ?_
  refine And.intro (s_iconst dX5_fault_1 (by decide)) ?_
  refine And.intro (s_iconst dX5_fault_2 (by decide)) ?_
  refine And.intro (s_callS zf_X5_within zl_353 zl_352 ⟨rfl, rfl⟩ dX5_fault_3) ?_
  refine And.intro (s_if_eq dX5_fault_6 (by decide)) ?_
  refine And.intro (s_aload_n dX5_fault_9 rfl) ?_
  refine And.intro (s_iload_n dX5_fault_10 rfl) ?_
  refine And.intro (s_callV (C := RX5) (T := TX5) (N := 16) rfl zf_X5_textOf zg_X5_textOf zl_355 ⟨rfl, rfl⟩ dX5_fault_11) ?_
  refine And.intro (s_getfN (C := RX3) (T := TX3) (N := 4) rfl zin_X3 (by decide) zl_131 dX5_fault_14) ?_
  refine And.intro (s_goto dX5_fault_17 (by decide)) ?_
  refine And.intro (s_bipush dX5_fault_20 (by decide)) ?_
  refine And.intro (s_ireturn rfl (fun _ => rfl) dX5_fault_22) ?_
  exact trivial
def zp_X5_digest : List (Bool × Nat × zOp) := [
  (true, 0, o_lc 17),
  (true, 3, o_ls 1),
  (true, 4, o_ic 0),
  (true, 5, o_is 3),
  (false, 6, o_mark 6 []),
  (true, 6, o_il 3),
  (true, 7, o_ic 7),
  (true, 9, o_cmp (fun x y => y < x) 31),
  (true, 12, o_lc 31),
  (true, 15, o_ll 1),
  (true, 16, o_jj (fun x y => x * y)),
  (true, 17, o_al 0),
  (true, 18, o_il 3),
  (true, 19, o_cv zi_X5_count 1 5),
  (true, 22, o_i2l),
  (true, 23, o_jj (fun x y => x + y)),
  (true, 24, o_ls 1),
  (true, 25, o_inc 3 1),
  (true, 28, o_gb 6 []),
  (true, 31, o_lc 31),
  (true, 34, o_ll 1),
  (true, 35, o_jj (fun x y => x * y)),
  (true, 36, o_al 0),
  (true, 37, o_ic 0),
  (true, 38, o_cv zi_X5_fault 1 5),
  (true, 41, o_i2l),
  (true, 42, o_jj (fun x y => x + y)),
  (true, 43, o_ls 1),
  (true, 44, o_lc 31),
  (true, 47, o_ll 1),
  (true, 48, o_jj (fun x y => x * y)),
  (true, 49, o_al 0),
  (true, 50, o_ic 1),
  (true, 51, o_cv zi_X5_fault 1 5),
  (true, 54, o_i2l),
  (true, 55, o_jj (fun x y => x + y)),
  (true, 56, o_ls 1),
  (true, 57, o_ic 0),
  (true, 58, o_is 3),
  (false, 59, o_mark 59 []),
  (true, 59, o_il 3),
  (true, 60, o_ic 40),
  (true, 62, o_cmp (fun x y => y ≤ x) 78),
  (true, 65, o_al 0),
  (true, 66, o_ll 1),
  (true, 67, o_il 3),
  (true, 68, o_cv zi_X5_digestHour 2 5),
  (true, 71, o_ls 1),
  (true, 72, o_inc 3 1),
  (true, 75, o_gb 59 []),
  (true, 78, o_ic 0),
  (true, 79, o_is 3),
  (false, 80, o_mark 80 []),
  (true, 80, o_il 3),
  (true, 81, o_al 0),
  (true, 82, o_gf 5 2),
  (true, 85, o_gf 4 0),
  (true, 88, o_gf 2 6),
  (true, 91, o_cmp (fun x y => y ≤ x) 107),
  (true, 94, o_al 0),
  (true, 95, o_ll 1),
  (true, 96, o_il 3),
  (true, 97, o_cv zi_X5_digestHouse 2 5),
  (true, 100, o_ls 1),
  (true, 101, o_inc 3 1),
  (true, 104, o_gb 80 []),
  (true, 107, o_al 0),
  (true, 108, o_ll 1),
  (true, 109, o_cv zi_X5_digestTown 1 5),
  (true, 112, o_lr)]
set_option maxRecDepth 100000 in
set_option maxHeartbeats 4000000 in
theorem zk_X5_digest (kc ks : Nat) : z_OK (zS RX5 cX5_digest 4 "digest" (some .long) 6 161 kc ks) zp_X5_digest := by
  unfold zp_X5_digest
  refine And.intro (s_ldc2 zl_750 dX5_digest_0) ?_
  refine And.intro (s_lstore_n dX5_digest_3 rfl) ?_
  refine And.intro (s_iconst dX5_digest_4 (by decide)) ?_
  refine And.intro (s_istore_n dX5_digest_5 rfl) ?_
  refine And.intro (s_mark) ?_
  refine And.intro (s_iload_n dX5_digest_6 rfl) ?_
  refine And.intro (s_bipush dX5_digest_7 (by decide)) ?_
  refine And.intro (s_icmp_gt dX5_digest_9 (by decide)) ?_
  refine And.intro (s_ldc2 zl_751 dX5_digest_12) ?_
  refine And.intro (s_lload_n dX5_digest_15 rfl) ?_
  refine And.intro (s_lmul dX5_digest_16) ?_
  refine And.intro (s_aload_n dX5_digest_17 rfl) ?_
  refine And.intro (s_iload_n dX5_digest_18 rfl) ?_
  refine And.intro (s_callV (C := RX5) (T := TX5) (N := 16) rfl zf_X5_count zg_X5_count zl_752 ⟨rfl, rfl⟩ dX5_digest_19) ?_
  refine And.intro (s_i2l dX5_digest_22) ?_
  refine And.intro (s_ladd dX5_digest_23) ?_
  refine And.intro (s_lstore_n dX5_digest_24 rfl) ?_
  refine And.intro (s_iinc dX5_digest_25 (by decide)) ?_
  refine And.intro (s_gotob dX5_digest_28 (by decide)) ?_
  refine And.intro (s_ldc2 zl_751 dX5_digest_31) ?_
  refine And.intro (s_lload_n dX5_digest_34 rfl) ?_
  refine And.intro (s_lmul dX5_digest_35) ?_
  refine And.intro (s_aload_n dX5_digest_36 rfl) ?_
  refine And.intro (s_iconst dX5_digest_37 (by decide)) ?_
  refine And.intro (s_callV (C := RX5) (T := TX5) (N := 16) rfl zf_X5_fault zg_X5_fault zl_753 ⟨rfl, rfl⟩ dX5_digest_38) ?_
  refine And.intro (s_i2l dX5_digest_41) ?_
  refine And.intro (s_ladd dX5_digest_42) ?_
  refine And.intro (s_lstore_n dX5_digest_43 rfl) ?_
  refine And.intro (s_ldc2 zl_751 dX5_digest_44) ?_
  refine And.intro (s_lload_n dX5_digest_47 rfl) ?_
  refine And.intro (s_lmul dX5_digest_48) ?_
  refine And.intro (s_aload_n dX5_digest_49 rfl) ?_
  refine And.intro (s_iconst dX5_digest_50 (by decide)) ?_
  refine And.intro (s_callV (C := RX5) (T := TX5) (N := 16) rfl zf_X5_fault zg_X5_fault zl_753 ⟨rfl, rfl⟩ dX5_digest_51) ?_
  refine And.intro (s_i2l dX5_digest_54) ?_
  refine And.intro (s_ladd dX5_digest_55) ?_
  refine And.intro (s_lstore_n dX5_digest_56 rfl) ?_
  refine And.intro (s_iconst dX5_digest_57 (by decide)) ?_
  refine And.intro (s_istore_n dX5_digest_58 rfl) ?_
  refine And.intro (s_mark) ?_
  refine And.intro (s_iload_n dX5_digest_59 rfl) ?_
  refine And.intro (s_bipush dX5_digest_60 (by decide)) ?_
  refine And.intro (s_icmp_ge dX5_digest_62 (by decide)) ?_
  refine And.intro (s_aload_n dX5_digest_65 rfl) ?_
  refine And.intro (s_lload_n dX5_digest_66 rfl) ?_
  refine And.intro (s_iload_n dX5_digest_67 rfl) ?_
  refine And.intro (s_callV (C := RX5) (T := TX5) (N := 16) rfl zf_X5_digestHour zg_X5_digestHour zl_754 ⟨rfl, rfl⟩ dX5_digest_68) ?_
  refine And.intro (s_lstore_n dX5_digest_71 rfl) ?_
  refine And.intro (s_iinc dX5_digest_72 (by decide)) ?_
  refine And.intro (s_gotob dX5_digest_75 (by decide)) ?_
  refine And.intro (s_iconst dX5_digest_78 (by decide)) ?_
  refine And.intro (s_istore_n dX5_digest_79 rfl) ?_
  refine And.intro (s_mark) ?_
  refine And.intro (s_iload_n dX5_digest_80 rfl) ?_
  refine And.intro (s_aload_n dX5_digest_81 rfl) ?_
  refine And.intro (s_getf (C := RX5) (T := TX5) (N := 16) rfl zin_X5 (by decide) zl_301 dX5_digest_82) ?_
  refine And.intro (s_getfN (C := RX4) (T := TX4) (N := 16) rfl zin_X4 (by decide) zl_189 dX5_digest_85) ?_
  refine And.intro (s_getfN (C := RX2) (T := TX2) (N := 7) rfl zin_X2 (by decide) zl_171 dX5_digest_88) ?_
  refine And.intro (s_icmp_ge dX5_digest_91 (by decide)) ?_
  refine And.intro (s_aload_n dX5_digest_94 rfl) ?_
  refine And.intro (s_lload_n dX5_digest_95 rfl) ?_
  refine And.intro (s_iload_n dX5_digest_96 rfl) ?_
  refine And.intro (s_callV (C := RX5) (T := TX5) (N := 16) rfl zf_X5_digestHouse zg_X5_digestHouse zl_760 ⟨rfl, rfl⟩ dX5_digest_97) ?_
  refine And.intro (s_lstore_n dX5_digest_100 rfl) ?_
  refine And.intro (s_iinc dX5_digest_101 (by decide)) ?_
  refine And.intro (s_gotob dX5_digest_104 (by decide)) ?_
  refine And.intro (s_aload_n dX5_digest_107 rfl) ?_
  refine And.intro (s_lload_n dX5_digest_108 rfl) ?_
  refine And.intro (s_callV (C := RX5) (T := TX5) (N := 16) rfl zf_X5_digestTown zg_X5_digestTown zl_775 ⟨rfl, rfl⟩ dX5_digest_109) ?_
  refine And.intro (s_lreturn rfl dX5_digest_112) ?_
  exact trivial
def zp_X5_elbow : List (Bool × Nat × zOp) := [
  (true, 0, o_il 1),
  (true, 1, o_ic 0),
  (true, 2, o_ic 1),
  (true, 3, o_cs zi_X5_within 3),
  (true, 6, o_if (fun x => x = 0) 20),
  (true, 9, o_al 0),
  (true, 10, o_cv zi_X5_bestElbow 0 5),
  (true, 13, o_il 1),
  (true, 14, o_cs zi_X5_partOf 2),
  (true, 17, o_go 22),
  (true, 20, o_ic (-2)),
  (true, 22, o_ir)]
set_option maxRecDepth 100000 in
set_option maxHeartbeats 4000000 in
theorem zk_X5_elbow (kc ks : Nat) : z_OK (zS RX5 cX5_elbow 2 "elbow" (some .int) 3 77 kc ks) zp_X5_elbow := by
  unfold zp_X5_elbow
  refine And.intro (s_iload_n dX5_elbow_0 rfl) ?_
  refine And.intro (s_iconst dX5_elbow_1 (by decide)) ?_
  refine And.intro (s_iconst dX5_elbow_2 (by decide)) ?_
  refine And.intro (s_callS zf_X5_within zl_353 zl_352 ⟨rfl, rfl⟩ dX5_elbow_3) ?_
  refine And.intro (s_if_eq dX5_elbow_6 (by decide)) ?_
  refine And.intro (s_aload_n dX5_elbow_9 rfl) ?_
  refine And.intro (s_callV (C := RX5) (T := TX5) (N := 16) rfl zf_X5_bestElbow zg_X5_bestElbow zl_550 ⟨rfl, rfl⟩ dX5_elbow_10) ?_
  refine And.intro (s_iload_n dX5_elbow_13 rfl) ?_
  refine And.intro (s_callS zf_X5_partOf zl_567 zl_566 ⟨rfl, rfl⟩ dX5_elbow_14) ?_
  refine And.intro (s_goto dX5_elbow_17 (by decide)) ?_
  refine And.intro (s_bipush dX5_elbow_20 (by decide)) ?_
  refine And.intro (s_ireturn rfl (fun _ => rfl) dX5_elbow_22) ?_
  exact trivial
def zp_X5_forget : List (Bool × Nat × zOp) := [
  (true, 0, o_al 0),
  (true, 1, o_gf 5 13),
  (true, 4, o_is 1),
  (true, 5, o_al 0),
  (true, 6, o_ic 0),
  (true, 7, o_pi 5 13),
  (true, 10, o_il 1),
  (true, 11, o_ir)]
set_option maxRecDepth 100000 in
set_option maxHeartbeats 4000000 in
theorem zk_X5_forget (kc ks : Nat) : z_OK (zS RX5 cX5_forget 2 "forget" (some .int) 0 0 kc ks) zp_X5_forget := by
  unfold zp_X5_forget
  refine And.intro (s_aload_n dX5_forget_0 rfl) ?_
  refine And.intro (s_getf (C := RX5) (T := TX5) (N := 16) rfl zin_X5 (by decide) zl_312 dX5_forget_1) ?_
  refine And.intro (s_istore_n dX5_forget_4 rfl) ?_
  refine And.intro (s_aload_n dX5_forget_5 rfl) ?_
  refine And.intro (s_iconst dX5_forget_6 (by decide)) ?_
  refine And.intro (s_putI (C := RX5) (T := TX5) (N := 16) rfl zin_X5 (by decide) tyX5 tyX5_ok nmX5 zl_312 rfl (by decide +kernel) dX5_forget_7) ?_
  refine And.intro (s_iload_n dX5_forget_10 rfl) ?_
  refine And.intro (s_ireturn rfl (fun _ => rfl) dX5_forget_11) ?_
  exact trivial
def zp_X5_isForm : List (Bool × Nat × zOp) := [
  (true, 0, o_il 0),
  (true, 1, o_ic 0),
  (true, 2, o_ic 2),
  (true, 3, o_cs zi_X5_within 3),
  (true, 6, o_zr)]
set_option maxRecDepth 100000 in
set_option maxHeartbeats 4000000 in
theorem zk_X5_isForm (kc ks : Nat) : z_OK (zS RX5 cX5_isForm 1 "isForm" (some .boolean) 1 22 kc ks) zp_X5_isForm := by
  unfold zp_X5_isForm
  refine And.intro (s_iload_n dX5_isForm_0 rfl) ?_
  refine And.intro (s_iconst dX5_isForm_1 (by decide)) ?_
  refine And.intro (s_iconst dX5_isForm_2 (by decide)) ?_
  refine And.intro (s_callS zf_X5_within zl_353 zl_352 ⟨rfl, rfl⟩ dX5_isForm_3) ?_
  refine And.intro (s_zreturn rfl dX5_isForm_6) ?_
  exact trivial
def zp_X5_refusalOfItem : List (Bool × Nat × zOp) := [
  (true, 0, o_il 1),
  (true, 1, o_cs zi_X5_isSheet 1),
  (true, 4, o_if (fun x => x = 0) 14),
  (true, 7, o_il 2),
  (true, 8, o_cs zi_X5_isForm 1),
  (true, 11, o_in (fun x => x = 0) 17),
  (true, 14, o_ic (-2)),
  (true, 16, o_ir),
  (true, 17, o_al 0),
  (true, 18, o_gf 5 14),
  (true, 21, o_il 1),
  (true, 22, o_cv zi_X1_isLost 1 1),
  (true, 25, o_if (fun x => x = 0) 34),
  (true, 28, o_al 0),
  (true, 29, o_ic 1),
  (true, 30, o_cv zi_X5_found 1 5),
  (true, 33, o_ir),
  (true, 34, o_al 0),
  (true, 35, o_gf 5 14),
  (true, 38, o_gf 1 0),
  (true, 41, o_il 1),
  (true, 42, o_ia),
  (true, 43, o_il 2),
  (true, 44, o_cmp (fun x y => x = y) 53),
  (true, 47, o_al 0),
  (true, 48, o_ic 3),
  (true, 49, o_cv zi_X5_found 1 5),
  (true, 52, o_ir),
  (true, 53, o_al 0),
  (true, 54, o_gf 5 14),
  (true, 57, o_il 1),
  (true, 58, o_il 3),
  (true, 59, o_ic 1),
  (true, 60, o_cv zi_X1_has 3 1),
  (true, 63, o_if (fun x => x = 0) 70),
  (true, 66, o_ic 0),
  (true, 67, o_go 75),
  (true, 70, o_al 0),
  (true, 71, o_ic 2),
  (true, 72, o_cv zi_X5_found 1 5),
  (true, 75, o_ir)]
set_option maxRecDepth 100000 in
set_option maxHeartbeats 4000000 in
theorem zk_X5_refusalOfItem (kc ks : Nat) : z_OK (zS RX5 cX5_refusalOfItem 4 "refusalOfItem" (some .int) 2 42 kc ks) zp_X5_refusalOfItem := by
  unfold zp_X5_refusalOfItem
  refine And.intro (s_iload_n dX5_refusalOfItem_0 rfl) ?_
  refine And.intro (s_callS zf_X5_isSheet zl_466 zl_465 ⟨rfl, rfl⟩ dX5_refusalOfItem_1) ?_
  refine And.intro (s_if_eq dX5_refusalOfItem_4 (by decide)) ?_
  refine And.intro (s_iload_n dX5_refusalOfItem_7 rfl) ?_
  refine And.intro (s_callS zf_X5_isForm zl_695 zl_694 ⟨rfl, rfl⟩ dX5_refusalOfItem_8) ?_
  refine And.intro (s_if_ne dX5_refusalOfItem_11 (by decide)) ?_
  refine And.intro (s_bipush dX5_refusalOfItem_14 (by decide)) ?_
  refine And.intro (s_ireturn rfl (fun _ => rfl) dX5_refusalOfItem_16) ?_
  refine And.intro (s_aload_n dX5_refusalOfItem_17 rfl) ?_
  refine And.intro (s_getf (C := RX5) (T := TX5) (N := 16) rfl zin_X5 (by decide) zl_313 dX5_refusalOfItem_18) ?_
  refine And.intro (s_iload_n dX5_refusalOfItem_21 rfl) ?_
  refine And.intro (s_callVN (C := RX1) (T := TX1) (N := 3) rfl zf_X1_isLost zg_X1_isLost zl_468 ⟨rfl, rfl⟩ dX5_refusalOfItem_22) ?_
  refine And.intro (s_if_eq dX5_refusalOfItem_25 (by decide)) ?_
  refine And.intro (s_aload_n dX5_refusalOfItem_28 rfl) ?_
  refine And.intro (s_iconst dX5_refusalOfItem_29 (by decide)) ?_
  refine And.intro (s_callV (C := RX5) (T := TX5) (N := 16) rfl zf_X5_found zg_X5_found zl_472 ⟨rfl, rfl⟩ dX5_refusalOfItem_30) ?_
  refine And.intro (s_ireturn rfl (fun _ => rfl) dX5_refusalOfItem_33) ?_
  refine And.intro (s_aload_n dX5_refusalOfItem_34 rfl) ?_
  refine And.intro (s_getf (C := RX5) (T := TX5) (N := 16) rfl zin_X5 (by decide) zl_313 dX5_refusalOfItem_35) ?_
  refine And.intro (s_getfN (C := RX1) (T := TX1) (N := 3) rfl zin_X1 (by decide) zl_288 dX5_refusalOfItem_38) ?_
  refine And.intro (s_iload_n dX5_refusalOfItem_41 rfl) ?_
  refine And.intro (s_iaload dX5_refusalOfItem_42) ?_
  refine And.intro (s_iload_n dX5_refusalOfItem_43 rfl) ?_
  refine And.intro (s_icmp_eq dX5_refusalOfItem_44 (by decide)) ?_
  refine And.intro (s_aload_n dX5_refusalOfItem_47 rfl) ?_
  refine And.intro (s_iconst dX5_refusalOfItem_48 (by decide)) ?_
  refine And.intro (s_callV (C := RX5) (T := TX5) (N := 16) rfl zf_X5_found zg_X5_found zl_472 ⟨rfl, rfl⟩ dX5_refusalOfItem_49) ?_
  refine And.intro (s_ireturn rfl (fun _ => rfl) dX5_refusalOfItem_52) ?_
  refine And.intro (s_aload_n dX5_refusalOfItem_53 rfl) ?_
  refine And.intro (s_getf (C := RX5) (T := TX5) (N := 16) rfl zin_X5 (by decide) zl_313 dX5_refusalOfItem_54) ?_
  refine And.intro (s_iload_n dX5_refusalOfItem_57 rfl) ?_
  refine And.intro (s_iload_n dX5_refusalOfItem_58 rfl) ?_
  refine And.intro (s_iconst dX5_refusalOfItem_59 (by decide)) ?_
  refine And.intro (s_callVN (C := RX1) (T := TX1) (N := 3) rfl zf_X1_has zg_X1_has zl_717 ⟨rfl, rfl⟩ dX5_refusalOfItem_60) ?_
  refine And.intro (s_if_eq dX5_refusalOfItem_63 (by decide)) ?_
  refine And.intro (s_iconst dX5_refusalOfItem_66 (by decide)) ?_
  refine And.intro (s_goto dX5_refusalOfItem_67 (by decide)) ?_
  refine And.intro (s_aload_n dX5_refusalOfItem_70 rfl) ?_
  refine And.intro (s_iconst dX5_refusalOfItem_71 (by decide)) ?_
  refine And.intro (s_callV (C := RX5) (T := TX5) (N := 16) rfl zf_X5_found zg_X5_found zl_472 ⟨rfl, rfl⟩ dX5_refusalOfItem_72) ?_
  refine And.intro (s_ireturn rfl (fun _ => rfl) dX5_refusalOfItem_75) ?_
  exact trivial
def zp_X5_get : List (Bool × Nat × zOp) := [
  (true, 0, o_al 0),
  (true, 1, o_il 1),
  (true, 2, o_il 2),
  (true, 3, o_il 3),
  (true, 4, o_cv zi_X5_refusalOfItem 3 5),
  (true, 7, o_in (fun x => x = 0) 22),
  (true, 10, o_al 0),
  (true, 11, o_gf 5 14),
  (true, 14, o_il 1),
  (true, 15, o_il 3),
  (true, 16, o_cv zi_X1_item 2 1),
  (true, 19, o_go 25),
  (true, 22, o_ic (-2147483648)),
  (true, 25, o_ir)]
set_option maxRecDepth 100000 in
set_option maxHeartbeats 4000000 in
theorem zk_X5_get (kc ks : Nat) : z_OK (zS RX5 cX5_get 4 "get" (some .int) 3 65 kc ks) zp_X5_get := by
  unfold zp_X5_get
  refine And.intro (s_aload_n dX5_get_0 rfl) ?_
  refine And.intro (s_iload_n dX5_get_1 rfl) ?_
  refine And.intro (s_iload_n dX5_get_2 rfl) ?_
  refine And.intro (s_iload_n dX5_get_3 rfl) ?_
  refine And.intro (s_callV (C := RX5) (T := TX5) (N := 16) rfl zf_X5_refusalOfItem zg_X5_refusalOfItem zl_713 ⟨rfl, rfl⟩ dX5_get_4) ?_
  refine And.intro (s_if_ne dX5_get_7 (by decide)) ?_
  refine And.intro (s_aload_n dX5_get_10 rfl) ?_
  refine And.intro (s_getf (C := RX5) (T := TX5) (N := 16) rfl zin_X5 (by decide) zl_313 dX5_get_11) ?_
  refine And.intro (s_iload_n dX5_get_14 rfl) ?_
  refine And.intro (s_iload_n dX5_get_15 rfl) ?_
  refine And.intro (s_callVN (C := RX1) (T := TX1) (N := 3) rfl zf_X1_item zg_X1_item zl_476 ⟨rfl, rfl⟩ dX5_get_16) ?_
  refine And.intro (s_goto dX5_get_19 (by decide)) ?_
  refine And.intro (s_ldcw zl_726 dX5_get_22) ?_
  refine And.intro (s_ireturn rfl (fun _ => rfl) dX5_get_25) ?_
  exact trivial
def zp_X5_leak : List (Bool × Nat × zOp) := [
  (true, 0, o_il 1),
  (true, 1, o_cs zi_X5_isHour 1),
  (true, 4, o_if (fun x => x = 0) 24),
  (true, 7, o_il 2),
  (true, 8, o_ic 1),
  (true, 9, o_ic 9),
  (true, 11, o_cs zi_X5_within 3),
  (true, 14, o_if (fun x => x = 0) 24),
  (true, 17, o_il 3),
  (true, 18, o_cs zi_X5_isHour 1),
  (true, 21, o_in (fun x => x = 0) 27),
  (true, 24, o_ic (-2)),
  (true, 26, o_ir),
  (true, 27, o_al 0),
  (true, 28, o_gf 5 2),
  (true, 31, o_gf 4 9),
  (true, 34, o_ic 6),
  (true, 36, o_cmp (fun x y => x < y) 42),
  (true, 39, o_ic (-4)),
  (true, 41, o_ir),
  (true, 42, o_al 0),
  (true, 43, o_gf 5 2),
  (true, 46, o_il 1),
  (true, 47, o_il 2),
  (true, 48, o_il 3),
  (true, 49, o_cv zi_X4_addLeak 3 4),
  (true, 52, o_al 0),
  (true, 53, o_cv zi_X5_changed 0 5),
  (true, 56, o_al 0),
  (true, 57, o_gf 5 2),
  (true, 60, o_gf 4 9),
  (true, 63, o_ir)]
set_option maxRecDepth 100000 in
set_option maxHeartbeats 4000000 in
theorem zk_X5_leak (kc ks : Nat) : z_OK (zS RX5 cX5_leak 4 "leak" (some .int) 2 42 kc ks) zp_X5_leak := by
  unfold zp_X5_leak
  refine And.intro (s_iload_n dX5_leak_0 rfl) ?_
  refine And.intro (s_callS zf_X5_isHour zl_432 zl_431 ⟨rfl, rfl⟩ dX5_leak_1) ?_
  refine And.intro (s_if_eq dX5_leak_4 (by decide)) ?_
  refine And.intro (s_iload_n dX5_leak_7 rfl) ?_
  refine And.intro (s_iconst dX5_leak_8 (by decide)) ?_
  refine And.intro (s_bipush dX5_leak_9 (by decide)) ?_
  refine And.intro (s_callS zf_X5_within zl_353 zl_352 ⟨rfl, rfl⟩ dX5_leak_11) ?_
  refine And.intro (s_if_eq dX5_leak_14 (by decide)) ?_
  refine And.intro (s_iload_n dX5_leak_17 rfl) ?_
  refine And.intro (s_callS zf_X5_isHour zl_432 zl_431 ⟨rfl, rfl⟩ dX5_leak_18) ?_
  refine And.intro (s_if_ne dX5_leak_21 (by decide)) ?_
  refine And.intro (s_bipush dX5_leak_24 (by decide)) ?_
  refine And.intro (s_ireturn rfl (fun _ => rfl) dX5_leak_26) ?_
  refine And.intro (s_aload_n dX5_leak_27 rfl) ?_
  refine And.intro (s_getf (C := RX5) (T := TX5) (N := 16) rfl zin_X5 (by decide) zl_301 dX5_leak_28) ?_
  refine And.intro (s_getfN (C := RX4) (T := TX4) (N := 16) rfl zin_X4 (by decide) zl_208 dX5_leak_31) ?_
  refine And.intro (s_bipush dX5_leak_34 (by decide)) ?_
  refine And.intro (s_icmp_lt dX5_leak_36 (by decide)) ?_
  refine And.intro (s_bipush dX5_leak_39 (by decide)) ?_
  refine And.intro (s_ireturn rfl (fun _ => rfl) dX5_leak_41) ?_
  refine And.intro (s_aload_n dX5_leak_42 rfl) ?_
  refine And.intro (s_getf (C := RX5) (T := TX5) (N := 16) rfl zin_X5 (by decide) zl_301 dX5_leak_43) ?_
  refine And.intro (s_iload_n dX5_leak_46 rfl) ?_
  refine And.intro (s_iload_n dX5_leak_47 rfl) ?_
  refine And.intro (s_iload_n dX5_leak_48 rfl) ?_
  refine And.intro (s_callVN (C := RX4) (T := TX4) (N := 16) rfl zf_X4_addLeak zg_X4_addLeak zl_442 ⟨rfl, rfl⟩ dX5_leak_49) ?_
  refine And.intro (s_aload_n dX5_leak_52 rfl) ?_
  refine And.intro (s_callV (C := RX5) (T := TX5) (N := 16) rfl zf_X5_changed zg_X5_changed zl_399 ⟨rfl, rfl⟩ dX5_leak_53) ?_
  refine And.intro (s_aload_n dX5_leak_56 rfl) ?_
  refine And.intro (s_getf (C := RX5) (T := TX5) (N := 16) rfl zin_X5 (by decide) zl_301 dX5_leak_57) ?_
  refine And.intro (s_getfN (C := RX4) (T := TX4) (N := 16) rfl zin_X4 (by decide) zl_208 dX5_leak_60) ?_
  refine And.intro (s_ireturn rfl (fun _ => rfl) dX5_leak_63) ?_
  exact trivial
def zp_X5_lose : List (Bool × Nat × zOp) := [
  (true, 0, o_il 1),
  (true, 1, o_cs zi_X5_isSheet 1),
  (true, 4, o_in (fun x => x = 0) 10),
  (true, 7, o_ic (-2)),
  (true, 9, o_ir),
  (true, 10, o_al 0),
  (true, 11, o_gf 5 14),
  (true, 14, o_il 1),
  (true, 15, o_cv zi_X1_isLost 1 1),
  (true, 18, o_if (fun x => x = 0) 27),
  (true, 21, o_al 0),
  (true, 22, o_ic 1),
  (true, 23, o_cv zi_X5_found 1 5),
  (true, 26, o_ir),
  (true, 27, o_al 0),
  (true, 28, o_gf 5 14),
  (true, 31, o_gf 1 1),
  (true, 34, o_il 1),
  (true, 35, o_ia),
  (true, 36, o_is 2),
  (true, 37, o_al 0),
  (true, 38, o_gf 5 14),
  (true, 41, o_il 1),
  (true, 42, o_cv zi_X1_drop 1 1),
  (true, 45, o_il 2),
  (true, 46, o_ir)]
set_option maxRecDepth 100000 in
set_option maxHeartbeats 4000000 in
theorem zk_X5_lose (kc ks : Nat) : z_OK (zS RX5 cX5_lose 3 "lose" (some .int) 2 42 kc ks) zp_X5_lose := by
  unfold zp_X5_lose
  refine And.intro (s_iload_n dX5_lose_0 rfl) ?_
  refine And.intro (s_callS zf_X5_isSheet zl_466 zl_465 ⟨rfl, rfl⟩ dX5_lose_1) ?_
  refine And.intro (s_if_ne dX5_lose_4 (by decide)) ?_
  refine And.intro (s_bipush dX5_lose_7 (by decide)) ?_
  refine And.intro (s_ireturn rfl (fun _ => rfl) dX5_lose_9) ?_
  refine And.intro (s_aload_n dX5_lose_10 rfl) ?_
  refine And.intro (s_getf (C := RX5) (T := TX5) (N := 16) rfl zin_X5 (by decide) zl_313 dX5_lose_11) ?_
  refine And.intro (s_iload_n dX5_lose_14 rfl) ?_
  refine And.intro (s_callVN (C := RX1) (T := TX1) (N := 3) rfl zf_X1_isLost zg_X1_isLost zl_468 ⟨rfl, rfl⟩ dX5_lose_15) ?_
  refine And.intro (s_if_eq dX5_lose_18 (by decide)) ?_
  refine And.intro (s_aload_n dX5_lose_21 rfl) ?_
  refine And.intro (s_iconst dX5_lose_22 (by decide)) ?_
  refine And.intro (s_callV (C := RX5) (T := TX5) (N := 16) rfl zf_X5_found zg_X5_found zl_472 ⟨rfl, rfl⟩ dX5_lose_23) ?_
  refine And.intro (s_ireturn rfl (fun _ => rfl) dX5_lose_26) ?_
  refine And.intro (s_aload_n dX5_lose_27 rfl) ?_
  refine And.intro (s_getf (C := RX5) (T := TX5) (N := 16) rfl zin_X5 (by decide) zl_313 dX5_lose_28) ?_
  refine And.intro (s_getfN (C := RX1) (T := TX1) (N := 3) rfl zin_X1 (by decide) zl_290 dX5_lose_31) ?_
  refine And.intro (s_iload_n dX5_lose_34 rfl) ?_
  refine And.intro (s_iaload dX5_lose_35) ?_
  refine And.intro (s_istore_n dX5_lose_36 rfl) ?_
  refine And.intro (s_aload_n dX5_lose_37 rfl) ?_
  refine And.intro (s_getf (C := RX5) (T := TX5) (N := 16) rfl zin_X5 (by decide) zl_313 dX5_lose_38) ?_
  refine And.intro (s_iload_n dX5_lose_41 rfl) ?_
  refine And.intro (s_callVN (C := RX1) (T := TX1) (N := 3) rfl zf_X1_drop zg_X1_drop zl_705 ⟨rfl, rfl⟩ dX5_lose_42) ?_
  refine And.intro (s_iload_n dX5_lose_45 rfl) ?_
  refine And.intro (s_ireturn rfl (fun _ => rfl) dX5_lose_46) ?_
  exact trivial
def zp_X5_patch : List (Bool × Nat × zOp) := [
  (true, 0, o_il 1),
  (true, 1, o_ic 0),
  (true, 2, o_ic 1),
  (true, 3, o_cs zi_X5_within 3),
  (true, 6, o_if (fun x => x = 0) 20),
  (true, 9, o_al 0),
  (true, 10, o_cv zi_X5_bestPatch 0 5),
  (true, 13, o_il 1),
  (true, 14, o_cs zi_X5_partOf 2),
  (true, 17, o_go 22),
  (true, 20, o_ic (-2)),
  (true, 22, o_ir)]
set_option maxRecDepth 100000 in
set_option maxHeartbeats 4000000 in
theorem zk_X5_patch (kc ks : Nat) : z_OK (zS RX5 cX5_patch 2 "patch" (some .int) 3 77 kc ks) zp_X5_patch := by
  unfold zp_X5_patch
  refine And.intro (s_iload_n dX5_patch_0 rfl) ?_
  refine And.intro (s_iconst dX5_patch_1 (by decide)) ?_
  refine And.intro (s_iconst dX5_patch_2 (by decide)) ?_
  refine And.intro (s_callS zf_X5_within zl_353 zl_352 ⟨rfl, rfl⟩ dX5_patch_3) ?_
  refine And.intro (s_if_eq dX5_patch_6 (by decide)) ?_
  refine And.intro (s_aload_n dX5_patch_9 rfl) ?_
  refine And.intro (s_callV (C := RX5) (T := TX5) (N := 16) rfl zf_X5_bestPatch zg_X5_bestPatch zl_585 ⟨rfl, rfl⟩ dX5_patch_10) ?_
  refine And.intro (s_iload_n dX5_patch_13 rfl) ?_
  refine And.intro (s_callS zf_X5_partOf zl_567 zl_566 ⟨rfl, rfl⟩ dX5_patch_14) ?_
  refine And.intro (s_goto dX5_patch_17 (by decide)) ?_
  refine And.intro (s_bipush dX5_patch_20 (by decide)) ?_
  refine And.intro (s_ireturn rfl (fun _ => rfl) dX5_patch_22) ?_
  exact trivial
def zp_X5_mayPinch : List (Bool × Nat × zOp) := [
  (true, 0, o_il 0),
  (true, 1, o_cs zi_X5_isHour 1),
  (true, 4, o_if (fun x => x = 0) 21),
  (true, 7, o_il 1),
  (true, 8, o_ic 0),
  (true, 9, o_ic 7),
  (true, 11, o_cs zi_X5_within 3),
  (true, 14, o_if (fun x => x = 0) 21),
  (true, 17, o_ic 1),
  (true, 18, o_go 22),
  (true, 21, o_ic 0),
  (true, 22, o_zr)]
set_option maxRecDepth 100000 in
set_option maxHeartbeats 4000000 in
theorem zk_X5_mayPinch (kc ks : Nat) : z_OK (zS RX5 cX5_mayPinch 2 "mayPinch" (some .boolean) 2 42 kc ks) zp_X5_mayPinch := by
  unfold zp_X5_mayPinch
  refine And.intro (s_iload_n dX5_mayPinch_0 rfl) ?_
  refine And.intro (s_callS zf_X5_isHour zl_432 zl_431 ⟨rfl, rfl⟩ dX5_mayPinch_1) ?_
  refine And.intro (s_if_eq dX5_mayPinch_4 (by decide)) ?_
  refine And.intro (s_iload_n dX5_mayPinch_7 rfl) ?_
  refine And.intro (s_iconst dX5_mayPinch_8 (by decide)) ?_
  refine And.intro (s_bipush dX5_mayPinch_9 (by decide)) ?_
  refine And.intro (s_callS zf_X5_within zl_353 zl_352 ⟨rfl, rfl⟩ dX5_mayPinch_11) ?_
  refine And.intro (s_if_eq dX5_mayPinch_14 (by decide)) ?_
  refine And.intro (s_iconst dX5_mayPinch_17 (by decide)) ?_
  refine And.intro (s_goto dX5_mayPinch_18 (by decide)) ?_
  refine And.intro (s_iconst dX5_mayPinch_21 (by decide)) ?_
  refine And.intro (s_zreturn rfl dX5_mayPinch_22) ?_
  exact trivial
def zp_X5_pinch : List (Bool × Nat × zOp) := [
  (true, 0, o_il 1),
  (true, 1, o_il 2),
  (true, 2, o_cs zi_X5_mayPinch 2),
  (true, 5, o_in (fun x => x = 0) 11),
  (true, 8, o_ic (-2)),
  (true, 10, o_ir),
  (true, 11, o_al 0),
  (true, 12, o_gf 5 2),
  (true, 15, o_gf 4 13),
  (true, 18, o_ic 6),
  (true, 20, o_cmp (fun x y => x < y) 26),
  (true, 23, o_ic (-4)),
  (true, 25, o_ir),
  (true, 26, o_al 0),
  (true, 27, o_gf 5 2),
  (true, 30, o_il 1),
  (true, 31, o_il 2),
  (true, 32, o_cv zi_X4_addPinch 2 4),
  (true, 35, o_al 0),
  (true, 36, o_cv zi_X5_changed 0 5),
  (true, 39, o_al 0),
  (true, 40, o_gf 5 2),
  (true, 43, o_gf 4 13),
  (true, 46, o_ir)]
set_option maxRecDepth 100000 in
set_option maxHeartbeats 4000000 in
theorem zk_X5_pinch (kc ks : Nat) : z_OK (zS RX5 cX5_pinch 3 "pinch" (some .int) 3 63 kc ks) zp_X5_pinch := by
  unfold zp_X5_pinch
  refine And.intro (s_iload_n dX5_pinch_0 rfl) ?_
  refine And.intro (s_iload_n dX5_pinch_1 rfl) ?_
  refine And.intro (s_callS zf_X5_mayPinch zl_451 zl_450 ⟨rfl, rfl⟩ dX5_pinch_2) ?_
  refine And.intro (s_if_ne dX5_pinch_5 (by decide)) ?_
  refine And.intro (s_bipush dX5_pinch_8 (by decide)) ?_
  refine And.intro (s_ireturn rfl (fun _ => rfl) dX5_pinch_10) ?_
  refine And.intro (s_aload_n dX5_pinch_11 rfl) ?_
  refine And.intro (s_getf (C := RX5) (T := TX5) (N := 16) rfl zin_X5 (by decide) zl_301 dX5_pinch_12) ?_
  refine And.intro (s_getfN (C := RX4) (T := TX4) (N := 16) rfl zin_X4 (by decide) zl_214 dX5_pinch_15) ?_
  refine And.intro (s_bipush dX5_pinch_18 (by decide)) ?_
  refine And.intro (s_icmp_lt dX5_pinch_20 (by decide)) ?_
  refine And.intro (s_bipush dX5_pinch_23 (by decide)) ?_
  refine And.intro (s_ireturn rfl (fun _ => rfl) dX5_pinch_25) ?_
  refine And.intro (s_aload_n dX5_pinch_26 rfl) ?_
  refine And.intro (s_getf (C := RX5) (T := TX5) (N := 16) rfl zin_X5 (by decide) zl_301 dX5_pinch_27) ?_
  refine And.intro (s_iload_n dX5_pinch_30 rfl) ?_
  refine And.intro (s_iload_n dX5_pinch_31 rfl) ?_
  refine And.intro (s_callVN (C := RX4) (T := TX4) (N := 16) rfl zf_X4_addPinch zg_X4_addPinch zl_453 ⟨rfl, rfl⟩ dX5_pinch_32) ?_
  refine And.intro (s_aload_n dX5_pinch_35 rfl) ?_
  refine And.intro (s_callV (C := RX5) (T := TX5) (N := 16) rfl zf_X5_changed zg_X5_changed zl_399 ⟨rfl, rfl⟩ dX5_pinch_36) ?_
  refine And.intro (s_aload_n dX5_pinch_39 rfl) ?_
  refine And.intro (s_getf (C := RX5) (T := TX5) (N := 16) rfl zin_X5 (by decide) zl_301 dX5_pinch_40) ?_
  refine And.intro (s_getfN (C := RX4) (T := TX4) (N := 16) rfl zin_X4 (by decide) zl_214 dX5_pinch_43) ?_
  refine And.intro (s_ireturn rfl (fun _ => rfl) dX5_pinch_46) ?_
  exact trivial
def zp_X5_put : List (Bool × Nat × zOp) := [
  (true, 0, o_al 0),
  (true, 1, o_il 1),
  (true, 2, o_il 2),
  (true, 3, o_il 3),
  (true, 4, o_cv zi_X5_refusalOfItem 3 5),
  (true, 7, o_is 5),
  (true, 9, o_il 5),
  (true, 11, o_if (fun x => x = 0) 17),
  (true, 14, o_il 5),
  (true, 16, o_ir),
  (true, 17, o_al 0),
  (true, 18, o_gf 5 14),
  (true, 21, o_il 1),
  (true, 22, o_il 3),
  (true, 23, o_il 4),
  (true, 25, o_cv zi_X1_store 3 1),
  (true, 28, o_ic 1),
  (true, 29, o_ir)]
set_option maxRecDepth 100000 in
set_option maxHeartbeats 4000000 in
theorem zk_X5_put (kc ks : Nat) : z_OK (zS RX5 cX5_put 6 "put" (some .int) 3 65 kc ks) zp_X5_put := by
  unfold zp_X5_put
  refine And.intro (s_aload_n dX5_put_0 rfl) ?_
  refine And.intro (s_iload_n dX5_put_1 rfl) ?_
  refine And.intro (s_iload_n dX5_put_2 rfl) ?_
  refine And.intro (s_iload_n dX5_put_3 rfl) ?_
  refine And.intro (s_callV (C := RX5) (T := TX5) (N := 16) rfl zf_X5_refusalOfItem zg_X5_refusalOfItem zl_713 ⟨rfl, rfl⟩ dX5_put_4) ?_
  refine And.intro (s_istore dX5_put_7) ?_
  refine And.intro (s_iload dX5_put_9) ?_
  refine And.intro (s_if_eq dX5_put_11 (by decide)) ?_
  refine And.intro (s_iload dX5_put_14) ?_
  refine And.intro (s_ireturn rfl (fun _ => rfl) dX5_put_16) ?_
  refine And.intro (s_aload_n dX5_put_17 rfl) ?_
  refine And.intro (s_getf (C := RX5) (T := TX5) (N := 16) rfl zin_X5 (by decide) zl_313 dX5_put_18) ?_
  refine And.intro (s_iload_n dX5_put_21 rfl) ?_
  refine And.intro (s_iload_n dX5_put_22 rfl) ?_
  refine And.intro (s_iload dX5_put_23) ?_
  refine And.intro (s_callVN (C := RX1) (T := TX1) (N := 3) rfl zf_X1_store zg_X1_store zl_718 ⟨rfl, rfl⟩ dX5_put_25) ?_
  refine And.intro (s_iconst dX5_put_28 (by decide)) ?_
  refine And.intro (s_ireturn rfl (fun _ => rfl) dX5_put_29) ?_
  exact trivial
def zp_X5_read : List (Bool × Nat × zOp) := [
  (true, 0, o_il 1),
  (true, 1, o_cs zi_X5_isSheet 1),
  (true, 4, o_in (fun x => x = 0) 10),
  (true, 7, o_ic (-2)),
  (true, 9, o_ir),
  (true, 10, o_al 0),
  (true, 11, o_gf 5 14),
  (true, 14, o_il 1),
  (true, 15, o_cv zi_X1_isLost 1 1),
  (true, 18, o_if (fun x => x = 0) 27),
  (true, 21, o_al 0),
  (true, 22, o_ic 1),
  (true, 23, o_cv zi_X5_found 1 5),
  (true, 26, o_ir),
  (true, 27, o_al 0),
  (true, 28, o_gf 5 2),
  (true, 31, o_gf 4 13),
  (true, 34, o_is 2),
  (true, 35, o_al 0),
  (true, 36, o_gf 5 14),
  (true, 39, o_gf 1 1),
  (true, 42, o_il 1),
  (true, 43, o_ia),
  (true, 44, o_ic 2),
  (true, 45, o_iz (fun x y => x / y)),
  (true, 46, o_is 3),
  (true, 47, o_ic 0),
  (true, 48, o_is 4),
  (false, 50, o_mark 50 [5, 6]),
  (true, 50, o_il 4),
  (true, 52, o_il 3),
  (true, 53, o_cmp (fun x y => y ≤ x) 128),
  (true, 56, o_al 0),
  (true, 57, o_gf 5 2),
  (true, 60, o_gf 4 13),
  (true, 63, o_ic 6),
  (true, 65, o_cmp (fun x y => y ≤ x) 128),
  (true, 68, o_al 0),
  (true, 69, o_gf 5 14),
  (true, 72, o_il 1),
  (true, 73, o_ic 2),
  (true, 74, o_il 4),
  (true, 76, o_ii (fun x y => x * y)),
  (true, 77, o_cv zi_X1_item 2 1),
  (true, 80, o_is 5),
  (true, 82, o_al 0),
  (true, 83, o_gf 5 14),
  (true, 86, o_il 1),
  (true, 87, o_ic 2),
  (true, 88, o_il 4),
  (true, 90, o_ii (fun x y => x * y)),
  (true, 91, o_ic 1),
  (true, 92, o_ii (fun x y => x + y)),
  (true, 93, o_cv zi_X1_item 2 1),
  (true, 96, o_is 6),
  (true, 98, o_il 5),
  (true, 100, o_il 6),
  (true, 102, o_cs zi_X5_mayPinch 2),
  (true, 105, o_in (fun x => x = 0) 111),
  (true, 108, o_go 128),
  (true, 111, o_al 0),
  (true, 112, o_gf 5 2),
  (true, 115, o_il 5),
  (true, 117, o_il 6),
  (true, 119, o_cv zi_X4_addPinch 2 4),
  (true, 122, o_inc 4 1),
  (true, 125, o_gb 50 [5, 6]),
  (true, 128, o_al 0),
  (true, 129, o_cv zi_X5_changed 0 5),
  (true, 132, o_al 0),
  (true, 133, o_gf 5 2),
  (true, 136, o_gf 4 13),
  (true, 139, o_il 2),
  (true, 140, o_ii (fun x y => x - y)),
  (true, 141, o_ir)]
set_option maxRecDepth 100000 in
set_option maxHeartbeats 4000000 in
theorem zk_X5_read (kc ks : Nat) : z_OK (zS RX5 cX5_read 7 "read" (some .int) 3 63 kc ks) zp_X5_read := by
  unfold zp_X5_read
  refine And.intro (s_iload_n dX5_read_0 rfl) ?_
  refine And.intro (s_callS zf_X5_isSheet zl_466 zl_465 ⟨rfl, rfl⟩ dX5_read_1) ?_
  refine And.intro (s_if_ne dX5_read_4 (by decide)) ?_
  refine And.intro (s_bipush dX5_read_7 (by decide)) ?_
  refine And.intro (s_ireturn rfl (fun _ => rfl) dX5_read_9) ?_
  refine And.intro (s_aload_n dX5_read_10 rfl) ?_
  refine And.intro (s_getf (C := RX5) (T := TX5) (N := 16) rfl zin_X5 (by decide) zl_313 dX5_read_11) ?_
  refine And.intro (s_iload_n dX5_read_14 rfl) ?_
  refine And.intro (s_callVN (C := RX1) (T := TX1) (N := 3) rfl zf_X1_isLost zg_X1_isLost zl_468 ⟨rfl, rfl⟩ dX5_read_15) ?_
  refine And.intro (s_if_eq dX5_read_18 (by decide)) ?_
  refine And.intro (s_aload_n dX5_read_21 rfl) ?_
  refine And.intro (s_iconst dX5_read_22 (by decide)) ?_
  refine And.intro (s_callV (C := RX5) (T := TX5) (N := 16) rfl zf_X5_found zg_X5_found zl_472 ⟨rfl, rfl⟩ dX5_read_23) ?_
  refine And.intro (s_ireturn rfl (fun _ => rfl) dX5_read_26) ?_
  refine And.intro (s_aload_n dX5_read_27 rfl) ?_
  refine And.intro (s_getf (C := RX5) (T := TX5) (N := 16) rfl zin_X5 (by decide) zl_301 dX5_read_28) ?_
  refine And.intro (s_getfN (C := RX4) (T := TX4) (N := 16) rfl zin_X4 (by decide) zl_214 dX5_read_31) ?_
  refine And.intro (s_istore_n dX5_read_34 rfl) ?_
  refine And.intro (s_aload_n dX5_read_35 rfl) ?_
  refine And.intro (s_getf (C := RX5) (T := TX5) (N := 16) rfl zin_X5 (by decide) zl_313 dX5_read_36) ?_
  refine And.intro (s_getfN (C := RX1) (T := TX1) (N := 3) rfl zin_X1 (by decide) zl_290 dX5_read_39) ?_
  refine And.intro (s_iload_n dX5_read_42 rfl) ?_
  refine And.intro (s_iaload dX5_read_43) ?_
  refine And.intro (s_iconst dX5_read_44 (by decide)) ?_
  refine And.intro (s_idiv dX5_read_45) ?_
  refine And.intro (s_istore_n dX5_read_46 rfl) ?_
  refine And.intro (s_iconst dX5_read_47 (by decide)) ?_
  refine And.intro (s_istore dX5_read_48) ?_
  refine And.intro (s_mark) ?_
  refine And.intro (s_iload dX5_read_50) ?_
  refine And.intro (s_iload_n dX5_read_52 rfl) ?_
  refine And.intro (s_icmp_ge dX5_read_53 (by decide)) ?_
  refine And.intro (s_aload_n dX5_read_56 rfl) ?_
  refine And.intro (s_getf (C := RX5) (T := TX5) (N := 16) rfl zin_X5 (by decide) zl_301 dX5_read_57) ?_
  refine And.intro (s_getfN (C := RX4) (T := TX4) (N := 16) rfl zin_X4 (by decide) zl_214 dX5_read_60) ?_
  refine And.intro (s_bipush dX5_read_63 (by decide)) ?_
  refine And.intro (s_icmp_ge dX5_read_65 (by decide)) ?_
  refine And.intro (s_aload_n dX5_read_68 rfl) ?_
  refine And.intro (s_getf (C := RX5) (T := TX5) (N := 16) rfl zin_X5 (by decide) zl_313 dX5_read_69) ?_
  refine And.intro (s_iload_n dX5_read_72 rfl) ?_
  refine And.intro (s_iconst dX5_read_73 (by decide)) ?_
  refine And.intro (s_iload dX5_read_74) ?_
  refine And.intro (s_imul dX5_read_76) ?_
  refine And.intro (s_callVN (C := RX1) (T := TX1) (N := 3) rfl zf_X1_item zg_X1_item zl_476 ⟨rfl, rfl⟩ dX5_read_77) ?_
  refine And.intro (s_istore dX5_read_80) ?_
  refine And.intro (s_aload_n dX5_read_82 rfl) ?_
  refine And.intro (s_getf (C := RX5) (T := TX5) (N := 16) rfl zin_X5 (by decide) zl_313 dX5_read_83) ?_
  refine And.intro (s_iload_n dX5_read_86 rfl) ?_
  refine And.intro (s_iconst dX5_read_87 (by decide)) ?_
  refine And.intro (s_iload dX5_read_88) ?_
  refine And.intro (s_imul dX5_read_90) ?_
  refine And.intro (s_iconst dX5_read_91 (by decide)) ?_
  refine And.intro (s_iadd dX5_read_92) ?_
  refine And.intro (s_callVN (C := RX1) (T := TX1) (N := 3) rfl zf_X1_item zg_X1_item zl_476 ⟨rfl, rfl⟩ dX5_read_93) ?_
  refine And.intro (s_istore dX5_read_96) ?_
  refine And.intro (s_iload dX5_read_98) ?_
  refine And.intro (s_iload dX5_read_100) ?_
  refine And.intro (s_callS zf_X5_mayPinch zl_451 zl_450 ⟨rfl, rfl⟩ dX5_read_102) ?_
  refine And.intro (s_if_ne dX5_read_105 (by decide)) ?_
  refine And.intro (s_goto dX5_read_108 (by decide)) ?_
  refine And.intro (s_aload_n dX5_read_111 rfl) ?_
  refine And.intro (s_getf (C := RX5) (T := TX5) (N := 16) rfl zin_X5 (by decide) zl_301 dX5_read_112) ?_
  refine And.intro (s_iload dX5_read_115) ?_
  refine And.intro (s_iload dX5_read_117) ?_
  refine And.intro (s_callVN (C := RX4) (T := TX4) (N := 16) rfl zf_X4_addPinch zg_X4_addPinch zl_453 ⟨rfl, rfl⟩ dX5_read_119) ?_
  refine And.intro (s_iinc dX5_read_122 (by decide)) ?_
  refine And.intro (s_gotob dX5_read_125 (by decide)) ?_
  refine And.intro (s_aload_n dX5_read_128 rfl) ?_
  refine And.intro (s_callV (C := RX5) (T := TX5) (N := 16) rfl zf_X5_changed zg_X5_changed zl_399 ⟨rfl, rfl⟩ dX5_read_129) ?_
  refine And.intro (s_aload_n dX5_read_132 rfl) ?_
  refine And.intro (s_getf (C := RX5) (T := TX5) (N := 16) rfl zin_X5 (by decide) zl_301 dX5_read_133) ?_
  refine And.intro (s_getfN (C := RX4) (T := TX4) (N := 16) rfl zin_X4 (by decide) zl_214 dX5_read_136) ?_
  refine And.intro (s_iload_n dX5_read_139 rfl) ?_
  refine And.intro (s_isub dX5_read_140) ?_
  refine And.intro (s_ireturn rfl (fun _ => rfl) dX5_read_141) ?_
  exact trivial
def zp_X5_seen : List (Bool × Nat × zOp) := [
  (true, 0, o_il 1),
  (true, 1, o_cs zi_X5_isHour 1),
  (true, 4, o_if (fun x => x = 0) 26),
  (true, 7, o_il 2),
  (true, 8, o_ic 0),
  (true, 9, o_ic 7),
  (true, 11, o_cs zi_X5_within 3),
  (true, 14, o_if (fun x => x = 0) 26),
  (true, 17, o_il 3),
  (true, 18, o_ic 0),
  (true, 19, o_ic 4),
  (true, 20, o_cs zi_X5_within 3),
  (true, 23, o_in (fun x => x = 0) 29),
  (true, 26, o_ic (-2)),
  (true, 28, o_ir),
  (true, 29, o_al 0),
  (true, 30, o_gf 5 13),
  (true, 33, o_ic 8),
  (true, 35, o_cmp (fun x y => x < y) 41),
  (true, 38, o_ic (-4)),
  (true, 40, o_ir),
  (true, 41, o_al 0),
  (true, 42, o_gf 5 10),
  (true, 45, o_al 0),
  (true, 46, o_gf 5 13),
  (true, 49, o_il 1),
  (true, 50, o_iw),
  (true, 51, o_al 0),
  (true, 52, o_gf 5 11),
  (true, 55, o_al 0),
  (true, 56, o_gf 5 13),
  (true, 59, o_il 2),
  (true, 60, o_iw),
  (true, 61, o_al 0),
  (true, 62, o_gf 5 12),
  (true, 65, o_al 0),
  (true, 66, o_gf 5 13),
  (true, 69, o_il 3),
  (true, 70, o_iw),
  (true, 71, o_al 0),
  (true, 72, o_dup),
  (true, 73, o_gf 5 13),
  (true, 76, o_ic 1),
  (true, 77, o_ii (fun x y => x + y)),
  (true, 78, o_pi 5 13),
  (true, 81, o_al 0),
  (true, 82, o_gf 5 13),
  (true, 85, o_ir)]
set_option maxRecDepth 100000 in
set_option maxHeartbeats 4000000 in
theorem zk_X5_seen (kc ks : Nat) : z_OK (zS RX5 cX5_seen 4 "seen" (some .int) 2 42 kc ks) zp_X5_seen := by
  unfold zp_X5_seen
  refine And.intro (s_iload_n dX5_seen_0 rfl) ?_
  refine And.intro (s_callS zf_X5_isHour zl_432 zl_431 ⟨rfl, rfl⟩ dX5_seen_1) ?_
  refine And.intro (s_if_eq dX5_seen_4 (by decide)) ?_
  refine And.intro (s_iload_n dX5_seen_7 rfl) ?_
  refine And.intro (s_iconst dX5_seen_8 (by decide)) ?_
  refine And.intro (s_bipush dX5_seen_9 (by decide)) ?_
  refine And.intro (s_callS zf_X5_within zl_353 zl_352 ⟨rfl, rfl⟩ dX5_seen_11) ?_
  refine And.intro (s_if_eq dX5_seen_14 (by decide)) ?_
  refine And.intro (s_iload_n dX5_seen_17 rfl) ?_
  refine And.intro (s_iconst dX5_seen_18 (by decide)) ?_
  refine And.intro (s_iconst dX5_seen_19 (by decide)) ?_
  refine And.intro (s_callS zf_X5_within zl_353 zl_352 ⟨rfl, rfl⟩ dX5_seen_20) ?_
  refine And.intro (s_if_ne dX5_seen_23 (by decide)) ?_
  refine And.intro (s_bipush dX5_seen_26 (by decide)) ?_
  refine And.intro (s_ireturn rfl (fun _ => rfl) dX5_seen_28) ?_
  refine And.intro (s_aload_n dX5_seen_29 rfl) ?_
  refine And.intro (s_getf (C := RX5) (T := TX5) (N := 16) rfl zin_X5 (by decide) zl_312 dX5_seen_30) ?_
  refine And.intro (s_bipush dX5_seen_33 (by decide)) ?_
  refine And.intro (s_icmp_lt dX5_seen_35 (by decide)) ?_
  refine And.intro (s_bipush dX5_seen_38 (by decide)) ?_
  refine And.intro (s_ireturn rfl (fun _ => rfl) dX5_seen_40) ?_
  refine And.intro (s_aload_n dX5_seen_41 rfl) ?_
  refine And.intro (s_getf (C := RX5) (T := TX5) (N := 16) rfl zin_X5 (by decide) zl_309 dX5_seen_42) ?_
  refine And.intro (s_aload_n dX5_seen_45 rfl) ?_
  refine And.intro (s_getf (C := RX5) (T := TX5) (N := 16) rfl zin_X5 (by decide) zl_312 dX5_seen_46) ?_
  refine And.intro (s_iload_n dX5_seen_49 rfl) ?_
  refine And.intro (s_iastore dX5_seen_50) ?_
  refine And.intro (s_aload_n dX5_seen_51 rfl) ?_
  refine And.intro (s_getf (C := RX5) (T := TX5) (N := 16) rfl zin_X5 (by decide) zl_310 dX5_seen_52) ?_
  refine And.intro (s_aload_n dX5_seen_55 rfl) ?_
  refine And.intro (s_getf (C := RX5) (T := TX5) (N := 16) rfl zin_X5 (by decide) zl_312 dX5_seen_56) ?_
  refine And.intro (s_iload_n dX5_seen_59 rfl) ?_
  refine And.intro (s_iastore dX5_seen_60) ?_
  refine And.intro (s_aload_n dX5_seen_61 rfl) ?_
  refine And.intro (s_getf (C := RX5) (T := TX5) (N := 16) rfl zin_X5 (by decide) zl_311 dX5_seen_62) ?_
  refine And.intro (s_aload_n dX5_seen_65 rfl) ?_
  refine And.intro (s_getf (C := RX5) (T := TX5) (N := 16) rfl zin_X5 (by decide) zl_312 dX5_seen_66) ?_
  refine And.intro (s_iload_n dX5_seen_69 rfl) ?_
  refine And.intro (s_iastore dX5_seen_70) ?_
  refine And.intro (s_aload_n dX5_seen_71 rfl) ?_
  refine And.intro (s_dup dX5_seen_72) ?_
  refine And.intro (s_getf (C := RX5) (T := TX5) (N := 16) rfl zin_X5 (by decide) zl_312 dX5_seen_73) ?_
  refine And.intro (s_iconst dX5_seen_76 (by decide)) ?_
  refine And.intro (s_iadd dX5_seen_77) ?_
  refine And.intro (s_putI (C := RX5) (T := TX5) (N := 16) rfl zin_X5 (by decide) tyX5 tyX5_ok nmX5 zl_312 rfl (by decide +kernel) dX5_seen_78) ?_
  refine And.intro (s_aload_n dX5_seen_81 rfl) ?_
  refine And.intro (s_getf (C := RX5) (T := TX5) (N := 16) rfl zin_X5 (by decide) zl_312 dX5_seen_82) ?_
  refine And.intro (s_ireturn rfl (fun _ => rfl) dX5_seen_85) ?_
  exact trivial
def zp_X5_set : List (Bool × Nat × zOp) := [
  (true, 0, o_il 1),
  (true, 1, o_in (fun x => x = 0) 33),
  (true, 4, o_il 2),
  (true, 5, o_ic 0),
  (true, 6, o_ic 60),
  (true, 8, o_cs zi_X5_within 3),
  (true, 11, o_if (fun x => x = 0) 33),
  (true, 14, o_al 0),
  (true, 15, o_gf 5 2),
  (true, 18, o_gf 4 3),
  (true, 21, o_is 3),
  (true, 22, o_al 0),
  (true, 23, o_gf 5 2),
  (true, 26, o_il 2),
  (true, 27, o_pi 4 3),
  (true, 30, o_go 104),
  (true, 33, o_il 1),
  (true, 34, o_ic 1),
  (true, 35, o_cn (fun x y => x = y) 67),
  (true, 38, o_il 2),
  (true, 39, o_ic 1),
  (true, 40, o_ic 99),
  (true, 42, o_cs zi_X5_within 3),
  (true, 45, o_if (fun x => x = 0) 67),
  (true, 48, o_al 0),
  (true, 49, o_gf 5 2),
  (true, 52, o_gf 4 4),
  (true, 55, o_is 3),
  (true, 56, o_al 0),
  (true, 57, o_gf 5 2),
  (true, 60, o_il 2),
  (true, 61, o_pi 4 4),
  (true, 64, o_go 104),
  (true, 67, o_il 1),
  (true, 68, o_ic 2),
  (true, 69, o_cn (fun x y => x = y) 101),
  (true, 72, o_il 2),
  (true, 73, o_ic 1),
  (true, 74, o_ic 9),
  (true, 76, o_cs zi_X5_within 3),
  (true, 79, o_if (fun x => x = 0) 101),
  (true, 82, o_al 0),
  (true, 83, o_gf 5 2),
  (true, 86, o_gf 4 5),
  (true, 89, o_is 3),
  (true, 90, o_al 0),
  (true, 91, o_gf 5 2),
  (true, 94, o_il 2),
  (true, 95, o_pi 4 5),
  (true, 98, o_go 104),
  (true, 101, o_ic (-2)),
  (true, 103, o_ir),
  (true, 104, o_al 0),
  (true, 105, o_cv zi_X5_changed 0 5),
  (true, 108, o_il 3),
  (true, 109, o_ir)]
set_option maxRecDepth 100000 in
set_option maxHeartbeats 4000000 in
theorem zk_X5_set (kc ks : Nat) : z_OK (zS RX5 cX5_set 4 "set" (some .int) 1 22 kc ks) zp_X5_set := by
  unfold zp_X5_set
  refine And.intro (s_iload_n dX5_set_0 rfl) ?_
  refine And.intro (s_if_ne dX5_set_1 (by decide)) ?_
  refine And.intro (s_iload_n dX5_set_4 rfl) ?_
  refine And.intro (s_iconst dX5_set_5 (by decide)) ?_
  refine And.intro (s_bipush dX5_set_6 (by decide)) ?_
  refine And.intro (s_callS zf_X5_within zl_353 zl_352 ⟨rfl, rfl⟩ dX5_set_8) ?_
  refine And.intro (s_if_eq dX5_set_11 (by decide)) ?_
  refine And.intro (s_aload_n dX5_set_14 rfl) ?_
  refine And.intro (s_getf (C := RX5) (T := TX5) (N := 16) rfl zin_X5 (by decide) zl_301 dX5_set_15) ?_
  refine And.intro (s_getfN (C := RX4) (T := TX4) (N := 16) rfl zin_X4 (by decide) zl_197 dX5_set_18) ?_
  refine And.intro (s_istore_n dX5_set_21 rfl) ?_
  refine And.intro (s_aload_n dX5_set_22 rfl) ?_
  refine And.intro (s_getf (C := RX5) (T := TX5) (N := 16) rfl zin_X5 (by decide) zl_301 dX5_set_23) ?_
  refine And.intro (s_iload_n dX5_set_26 rfl) ?_
  refine And.intro (s_putIN (C := RX4) (T := TX4) (N := 16) rfl zin_X4 (by decide) tyX4 tyX4_ok nmX4 zl_197 rfl (by decide +kernel) dX5_set_27) ?_
  refine And.intro (s_goto dX5_set_30 (by decide)) ?_
  refine And.intro (s_iload_n dX5_set_33 rfl) ?_
  refine And.intro (s_iconst dX5_set_34 (by decide)) ?_
  refine And.intro (s_icmp_ne dX5_set_35 (by decide)) ?_
  refine And.intro (s_iload_n dX5_set_38 rfl) ?_
  refine And.intro (s_iconst dX5_set_39 (by decide)) ?_
  refine And.intro (s_bipush dX5_set_40 (by decide)) ?_
  refine And.intro (s_callS zf_X5_within zl_353 zl_352 ⟨rfl, rfl⟩ dX5_set_42) ?_
  refine And.intro (s_if_eq dX5_set_45 (by decide)) ?_
  refine And.intro (s_aload_n dX5_set_48 rfl) ?_
  refine And.intro (s_getf (C := RX5) (T := TX5) (N := 16) rfl zin_X5 (by decide) zl_301 dX5_set_49) ?_
  refine And.intro (s_getfN (C := RX4) (T := TX4) (N := 16) rfl zin_X4 (by decide) zl_200 dX5_set_52) ?_
  refine And.intro (s_istore_n dX5_set_55 rfl) ?_
  refine And.intro (s_aload_n dX5_set_56 rfl) ?_
  refine And.intro (s_getf (C := RX5) (T := TX5) (N := 16) rfl zin_X5 (by decide) zl_301 dX5_set_57) ?_
  refine And.intro (s_iload_n dX5_set_60 rfl) ?_
  refine And.intro (s_putIN (C := RX4) (T := TX4) (N := 16) rfl zin_X4 (by decide) tyX4 tyX4_ok nmX4 zl_200 rfl (by decide +kernel) dX5_set_61) ?_
  refine And.intro (s_goto dX5_set_64 (by decide)) ?_
  refine And.intro (s_iload_n dX5_set_67 rfl) ?_
  refine And.intro (s_iconst dX5_set_68 (by decide)) ?_
  refine And.intro (s_icmp_ne dX5_set_69 (by decide)) ?_
  refine And.intro (s_iload_n dX5_set_72 rfl) ?_
  refine And.intro (s_iconst dX5_set_73 (by decide)) ?_
  refine And.intro (s_bipush dX5_set_74 (by decide)) ?_
  refine And.intro (s_callS zf_X5_within zl_353 zl_352 ⟨rfl, rfl⟩ dX5_set_76) ?_
  refine And.intro (s_if_eq dX5_set_79 (by decide)) ?_
  refine And.intro (s_aload_n dX5_set_82 rfl) ?_
  refine And.intro (s_getf (C := RX5) (T := TX5) (N := 16) rfl zin_X5 (by decide) zl_301 dX5_set_83) ?_
  refine And.intro (s_getfN (C := RX4) (T := TX4) (N := 16) rfl zin_X4 (by decide) zl_203 dX5_set_86) ?_
  refine And.intro (s_istore_n dX5_set_89 rfl) ?_
  refine And.intro (s_aload_n dX5_set_90 rfl) ?_
  refine And.intro (s_getf (C := RX5) (T := TX5) (N := 16) rfl zin_X5 (by decide) zl_301 dX5_set_91) ?_
  refine And.intro (s_iload_n dX5_set_94 rfl) ?_
  refine And.intro (s_putIN (C := RX4) (T := TX4) (N := 16) rfl zin_X4 (by decide) tyX4 tyX4_ok nmX4 zl_203 rfl (by decide +kernel) dX5_set_95) ?_
  refine And.intro (s_goto dX5_set_98 (by decide)) ?_
  refine And.intro (s_bipush dX5_set_101 (by decide)) ?_
  refine And.intro (s_ireturn rfl (fun _ => rfl) dX5_set_103) ?_
  refine And.intro (s_aload_n dX5_set_104 rfl) ?_
  refine And.intro (s_callV (C := RX5) (T := TX5) (N := 16) rfl zf_X5_changed zg_X5_changed zl_399 ⟨rfl, rfl⟩ dX5_set_105) ?_
  refine And.intro (s_iload_n dX5_set_108 rfl) ?_
  refine And.intro (s_ireturn rfl (fun _ => rfl) dX5_set_109) ?_
  exact trivial
def zp_X5_sheet : List (Bool × Nat × zOp) := [
  (true, 0, o_il 1),
  (true, 1, o_cs zi_X5_isSheet 1),
  (true, 4, o_if (fun x => x = 0) 20),
  (true, 7, o_il 2),
  (true, 8, o_cs zi_X5_isForm 1),
  (true, 11, o_if (fun x => x = 0) 20),
  (true, 14, o_il 3),
  (true, 15, o_ic 60),
  (true, 17, o_cmp (fun x y => x ≤ y) 23),
  (true, 20, o_ic (-2)),
  (true, 22, o_ir),
  (true, 23, o_il 3),
  (true, 24, o_if (fun x => 0 ≤ x) 33),
  (true, 27, o_al 0),
  (true, 28, o_ic 5),
  (true, 29, o_cv zi_X5_found 1 5),
  (true, 32, o_ir),
  (true, 33, o_al 0),
  (true, 34, o_gf 5 14),
  (true, 37, o_il 1),
  (true, 38, o_il 2),
  (true, 39, o_il 3),
  (true, 40, o_cv zi_X1_renew 3 1),
  (true, 43, o_il 3),
  (true, 44, o_ir)]
set_option maxRecDepth 100000 in
set_option maxHeartbeats 4000000 in
theorem zk_X5_sheet (kc ks : Nat) : z_OK (zS RX5 cX5_sheet 4 "sheet" (some .int) 2 42 kc ks) zp_X5_sheet := by
  unfold zp_X5_sheet
  refine And.intro (s_iload_n dX5_sheet_0 rfl) ?_
  refine And.intro (s_callS zf_X5_isSheet zl_466 zl_465 ⟨rfl, rfl⟩ dX5_sheet_1) ?_
  refine And.intro (s_if_eq dX5_sheet_4 (by decide)) ?_
  refine And.intro (s_iload_n dX5_sheet_7 rfl) ?_
  refine And.intro (s_callS zf_X5_isForm zl_695 zl_694 ⟨rfl, rfl⟩ dX5_sheet_8) ?_
  refine And.intro (s_if_eq dX5_sheet_11 (by decide)) ?_
  refine And.intro (s_iload_n dX5_sheet_14 rfl) ?_
  refine And.intro (s_bipush dX5_sheet_15 (by decide)) ?_
  refine And.intro (s_icmp_le dX5_sheet_17 (by decide)) ?_
  refine And.intro (s_bipush dX5_sheet_20 (by decide)) ?_
  refine And.intro (s_ireturn rfl (fun _ => rfl) dX5_sheet_22) ?_
  refine And.intro (s_iload_n dX5_sheet_23 rfl) ?_
  refine And.intro (s_if_ge dX5_sheet_24 (by decide)) ?_
  refine And.intro (s_aload_n dX5_sheet_27 rfl) ?_
  refine And.intro (s_iconst dX5_sheet_28 (by decide)) ?_
  refine And.intro (s_callV (C := RX5) (T := TX5) (N := 16) rfl zf_X5_found zg_X5_found zl_472 ⟨rfl, rfl⟩ dX5_sheet_29) ?_
  refine And.intro (s_ireturn rfl (fun _ => rfl) dX5_sheet_32) ?_
  refine And.intro (s_aload_n dX5_sheet_33 rfl) ?_
  refine And.intro (s_getf (C := RX5) (T := TX5) (N := 16) rfl zin_X5 (by decide) zl_313 dX5_sheet_34) ?_
  refine And.intro (s_iload_n dX5_sheet_37 rfl) ?_
  refine And.intro (s_iload_n dX5_sheet_38 rfl) ?_
  refine And.intro (s_iload_n dX5_sheet_39 rfl) ?_
  refine And.intro (s_callVN (C := RX1) (T := TX1) (N := 3) rfl zf_X1_renew zg_X1_renew zl_697 ⟨rfl, rfl⟩ dX5_sheet_40) ?_
  refine And.intro (s_iload_n dX5_sheet_43 rfl) ?_
  refine And.intro (s_ireturn rfl (fun _ => rfl) dX5_sheet_44) ?_
  exact trivial
def zp_X5_shut : List (Bool × Nat × zOp) := [
  (true, 0, o_al 0),
  (true, 1, o_il 1),
  (true, 2, o_cv zi_X5_isHouse 1 5),
  (true, 5, o_if (fun x => x = 0) 29),
  (true, 8, o_il 2),
  (true, 9, o_ic 0),
  (true, 10, o_ic 1),
  (true, 11, o_cs zi_X5_within 3),
  (true, 14, o_if (fun x => x = 0) 29),
  (true, 17, o_al 0),
  (true, 18, o_il 1),
  (true, 19, o_cv zi_X5_bestShut 1 5),
  (true, 22, o_il 2),
  (true, 23, o_cs zi_X5_partOf 2),
  (true, 26, o_go 31),
  (true, 29, o_ic (-2)),
  (true, 31, o_ir)]
set_option maxRecDepth 100000 in
set_option maxHeartbeats 4000000 in
theorem zk_X5_shut (kc ks : Nat) : z_OK (zS RX5 cX5_shut 3 "shut" (some .int) 3 78 kc ks) zp_X5_shut := by
  unfold zp_X5_shut
  refine And.intro (s_aload_n dX5_shut_0 rfl) ?_
  refine And.intro (s_iload_n dX5_shut_1 rfl) ?_
  refine And.intro (s_callV (C := RX5) (T := TX5) (N := 16) rfl zf_X5_isHouse zg_X5_isHouse zl_419 ⟨rfl, rfl⟩ dX5_shut_2) ?_
  refine And.intro (s_if_eq dX5_shut_5 (by decide)) ?_
  refine And.intro (s_iload_n dX5_shut_8 rfl) ?_
  refine And.intro (s_iconst dX5_shut_9 (by decide)) ?_
  refine And.intro (s_iconst dX5_shut_10 (by decide)) ?_
  refine And.intro (s_callS zf_X5_within zl_353 zl_352 ⟨rfl, rfl⟩ dX5_shut_11) ?_
  refine And.intro (s_if_eq dX5_shut_14 (by decide)) ?_
  refine And.intro (s_aload_n dX5_shut_17 rfl) ?_
  refine And.intro (s_iload_n dX5_shut_18 rfl) ?_
  refine And.intro (s_callV (C := RX5) (T := TX5) (N := 16) rfl zf_X5_bestShut zg_X5_bestShut zl_573 ⟨rfl, rfl⟩ dX5_shut_19) ?_
  refine And.intro (s_iload_n dX5_shut_22 rfl) ?_
  refine And.intro (s_callS zf_X5_partOf zl_567 zl_566 ⟨rfl, rfl⟩ dX5_shut_23) ?_
  refine And.intro (s_goto dX5_shut_26 (by decide)) ?_
  refine And.intro (s_bipush dX5_shut_29 (by decide)) ?_
  refine And.intro (s_ireturn rfl (fun _ => rfl) dX5_shut_31) ?_
  exact trivial
def zp_X5_starts : List (Bool × Nat × zOp) := [
  (true, 0, o_il 1),
  (true, 1, o_ic 0),
  (true, 2, o_ic 2),
  (true, 3, o_cs zi_X5_within 3),
  (true, 6, o_if (fun x => x = 0) 20),
  (true, 9, o_al 0),
  (true, 10, o_cv zi_X5_possibleStarts 0 5),
  (true, 13, o_il 1),
  (true, 14, o_cs zi_X5_startsPart 2),
  (true, 17, o_go 22),
  (true, 20, o_ic (-2)),
  (true, 22, o_ir)]
set_option maxRecDepth 100000 in
set_option maxHeartbeats 4000000 in
theorem zk_X5_starts (kc ks : Nat) : z_OK (zS RX5 cX5_starts 2 "starts" (some .int) 4 90 kc ks) zp_X5_starts := by
  unfold zp_X5_starts
  refine And.intro (s_iload_n dX5_starts_0 rfl) ?_
  refine And.intro (s_iconst dX5_starts_1 (by decide)) ?_
  refine And.intro (s_iconst dX5_starts_2 (by decide)) ?_
  refine And.intro (s_callS zf_X5_within zl_353 zl_352 ⟨rfl, rfl⟩ dX5_starts_3) ?_
  refine And.intro (s_if_eq dX5_starts_6 (by decide)) ?_
  refine And.intro (s_aload_n dX5_starts_9 rfl) ?_
  refine And.intro (s_callV (C := RX5) (T := TX5) (N := 16) rfl zf_X5_possibleStarts zg_X5_possibleStarts zl_617 ⟨rfl, rfl⟩ dX5_starts_10) ?_
  refine And.intro (s_iload_n dX5_starts_13 rfl) ?_
  refine And.intro (s_callS zf_X5_startsPart zl_622 zl_621 ⟨rfl, rfl⟩ dX5_starts_14) ?_
  refine And.intro (s_goto dX5_starts_17 (by decide)) ?_
  refine And.intro (s_bipush dX5_starts_20 (by decide)) ?_
  refine And.intro (s_ireturn rfl (fun _ => rfl) dX5_starts_22) ?_
  exact trivial
def zp_X5_readTexts : List (Bool × Nat × zOp) := [
  (true, 0, o_al 0),
  (true, 1, o_gf 5 0),
  (true, 4, o_al 0),
  (true, 5, o_gf 5 2),
  (true, 8, o_gf 4 0),
  (true, 11, o_al 0),
  (true, 12, o_gf 5 0),
  (true, 15, o_cv zi_X2_readFrom 1 2),
  (true, 18, o_pi 3 3),
  (true, 21, o_al 0),
  (true, 22, o_gf 5 1),
  (true, 25, o_al 0),
  (true, 26, o_gf 5 2),
  (true, 29, o_al 0),
  (true, 30, o_gf 5 1),
  (true, 33, o_cv zi_X4_readElbows 1 4),
  (true, 36, o_pi 3 3),
  (true, 39, o_al 0),
  (true, 40, o_cv zi_X5_changed 0 5),
  (true, 43, o_vr)]
set_option maxRecDepth 100000 in
set_option maxHeartbeats 4000000 in
theorem zk_X5_readTexts (kc ks : Nat) : z_OK (zS RX5 cX5_readTexts 1 "readTexts" none 4 94 kc ks) zp_X5_readTexts := by
  unfold zp_X5_readTexts
  refine And.intro (s_aload_n dX5_readTexts_0 rfl) ?_
  refine And.intro (s_getf (C := RX5) (T := TX5) (N := 16) rfl zin_X5 (by decide) zl_299 dX5_readTexts_1) ?_
  refine And.intro (s_aload_n dX5_readTexts_4 rfl) ?_
  refine And.intro (s_getf (C := RX5) (T := TX5) (N := 16) rfl zin_X5 (by decide) zl_301 dX5_readTexts_5) ?_
  refine And.intro (s_getfN (C := RX4) (T := TX4) (N := 16) rfl zin_X4 (by decide) zl_189 dX5_readTexts_8) ?_
  refine And.intro (s_aload_n dX5_readTexts_11 rfl) ?_
  refine And.intro (s_getf (C := RX5) (T := TX5) (N := 16) rfl zin_X5 (by decide) zl_299 dX5_readTexts_12) ?_
  refine And.intro (s_callVN (C := RX2) (T := TX2) (N := 7) rfl zf_X2_readFrom zg_X2_readFrom zl_372 ⟨rfl, rfl⟩ dX5_readTexts_15) ?_
  refine And.intro (s_putIN (C := RX3) (T := TX3) (N := 4) rfl zin_X3 (by decide) tyX3 tyX3_ok nmX3 zl_131 rfl (by decide +kernel) dX5_readTexts_18) ?_
  refine And.intro (s_aload_n dX5_readTexts_21 rfl) ?_
  refine And.intro (s_getf (C := RX5) (T := TX5) (N := 16) rfl zin_X5 (by decide) zl_300 dX5_readTexts_22) ?_
  refine And.intro (s_aload_n dX5_readTexts_25 rfl) ?_
  refine And.intro (s_getf (C := RX5) (T := TX5) (N := 16) rfl zin_X5 (by decide) zl_301 dX5_readTexts_26) ?_
  refine And.intro (s_aload_n dX5_readTexts_29 rfl) ?_
  refine And.intro (s_getf (C := RX5) (T := TX5) (N := 16) rfl zin_X5 (by decide) zl_300 dX5_readTexts_30) ?_
  refine And.intro (s_callVN (C := RX4) (T := TX4) (N := 16) rfl zf_X4_readElbows zg_X4_readElbows zl_393 ⟨rfl, rfl⟩ dX5_readTexts_33) ?_
  refine And.intro (s_putIN (C := RX3) (T := TX3) (N := 4) rfl zin_X3 (by decide) tyX3 tyX3_ok nmX3 zl_131 rfl (by decide +kernel) dX5_readTexts_36) ?_
  refine And.intro (s_aload_n dX5_readTexts_39 rfl) ?_
  refine And.intro (s_callV (C := RX5) (T := TX5) (N := 16) rfl zf_X5_changed zg_X5_changed zl_399 ⟨rfl, rfl⟩ dX5_readTexts_40) ?_
  refine And.intro (s_vreturn rfl dX5_readTexts_43) ?_
  exact trivial
def zp_X5_type : List (Bool × Nat × zOp) := [
  (true, 0, o_il 1),
  (true, 1, o_ic 0),
  (true, 2, o_ic 1),
  (true, 3, o_cs zi_X5_within 3),
  (true, 6, o_if (fun x => x = 0) 20),
  (true, 9, o_il 2),
  (true, 10, o_ic 0),
  (true, 11, o_ic 255),
  (true, 14, o_cs zi_X5_within 3),
  (true, 17, o_in (fun x => x = 0) 23),
  (true, 20, o_ic (-2)),
  (true, 22, o_ir),
  (true, 23, o_al 0),
  (true, 24, o_il 1),
  (true, 25, o_cv zi_X5_textOf 1 5),
  (true, 28, o_as 3),
  (true, 29, o_al 3),
  (true, 30, o_cv zi_X3_isFull 0 3),
  (true, 33, o_if (fun x => x = 0) 39),
  (true, 36, o_ic (-4)),
  (true, 38, o_ir),
  (true, 39, o_al 3),
  (true, 40, o_il 2),
  (true, 41, o_cv zi_X3_add 1 3),
  (true, 44, o_al 0),
  (true, 45, o_cv zi_X5_readTexts 0 5),
  (true, 48, o_al 3),
  (true, 49, o_gf 3 2),
  (true, 52, o_ir)]
set_option maxRecDepth 100000 in
set_option maxHeartbeats 4000000 in
theorem zk_X5_type (kc ks : Nat) : z_OK (zS RX5 cX5_type 4 "type" (some .int) 5 114 kc ks) zp_X5_type := by
  unfold zp_X5_type
  refine And.intro (s_iload_n dX5_type_0 rfl) ?_
  refine And.intro (s_iconst dX5_type_1 (by decide)) ?_
  refine And.intro (s_iconst dX5_type_2 (by decide)) ?_
  refine And.intro (s_callS zf_X5_within zl_353 zl_352 ⟨rfl, rfl⟩ dX5_type_3) ?_
  refine And.intro (s_if_eq dX5_type_6 (by decide)) ?_
  refine And.intro (s_iload_n dX5_type_9 rfl) ?_
  refine And.intro (s_iconst dX5_type_10 (by decide)) ?_
  refine And.intro (s_sipush dX5_type_11 (by decide)) ?_
  refine And.intro (s_callS zf_X5_within zl_353 zl_352 ⟨rfl, rfl⟩ dX5_type_14) ?_
  refine And.intro (s_if_ne dX5_type_17 (by decide)) ?_
  refine And.intro (s_bipush dX5_type_20 (by decide)) ?_
  refine And.intro (s_ireturn rfl (fun _ => rfl) dX5_type_22) ?_
  refine And.intro (s_aload_n dX5_type_23 rfl) ?_
  refine And.intro (s_iload_n dX5_type_24 rfl) ?_
  refine And.intro (s_callV (C := RX5) (T := TX5) (N := 16) rfl zf_X5_textOf zg_X5_textOf zl_355 ⟨rfl, rfl⟩ dX5_type_25) ?_
  refine And.intro (s_astore_n dX5_type_28 rfl) ?_
  refine And.intro (s_aload_n dX5_type_29 rfl) ?_
  refine And.intro (s_callVN (C := RX3) (T := TX3) (N := 4) rfl zf_X3_isFull zg_X3_isFull zl_359 ⟨rfl, rfl⟩ dX5_type_30) ?_
  refine And.intro (s_if_eq dX5_type_33 (by decide)) ?_
  refine And.intro (s_bipush dX5_type_36 (by decide)) ?_
  refine And.intro (s_ireturn rfl (fun _ => rfl) dX5_type_38) ?_
  refine And.intro (s_aload_n dX5_type_39 rfl) ?_
  refine And.intro (s_iload_n dX5_type_40 rfl) ?_
  refine And.intro (s_callVN (C := RX3) (T := TX3) (N := 4) rfl zf_X3_add zg_X3_add zl_363 ⟨rfl, rfl⟩ dX5_type_41) ?_
  refine And.intro (s_aload_n dX5_type_44 rfl) ?_
  refine And.intro (s_callV (C := RX5) (T := TX5) (N := 16) rfl zf_X5_readTexts zg_X5_readTexts zl_368 ⟨rfl, rfl⟩ dX5_type_45) ?_
  refine And.intro (s_aload_n dX5_type_48 rfl) ?_
  refine And.intro (s_getfN (C := RX3) (T := TX3) (N := 4) rfl zin_X3 (by decide) zl_129 dX5_type_49) ?_
  refine And.intro (s_ireturn rfl (fun _ => rfl) dX5_type_52) ?_
  exact trivial
def zp_X5_undo : List (Bool × Nat × zOp) := [
  (true, 0, o_il 1),
  (true, 1, o_ic 0),
  (true, 2, o_ic 1),
  (true, 3, o_cs zi_X5_within 3),
  (true, 6, o_in (fun x => x = 0) 12),
  (true, 9, o_ic (-2)),
  (true, 11, o_ir),
  (true, 12, o_al 0),
  (true, 13, o_il 1),
  (true, 14, o_cv zi_X5_textOf 1 5),
  (true, 17, o_as 2),
  (true, 18, o_al 2),
  (true, 19, o_gf 3 2),
  (true, 22, o_in (fun x => x = 0) 28),
  (true, 25, o_ic (-3)),
  (true, 27, o_ir),
  (true, 28, o_al 2),
  (true, 29, o_dup),
  (true, 30, o_gf 3 2),
  (true, 33, o_ic 1),
  (true, 34, o_ii (fun x y => x - y)),
  (true, 35, o_pi 3 2),
  (true, 38, o_al 0),
  (true, 39, o_cv zi_X5_readTexts 0 5),
  (true, 42, o_al 2),
  (true, 43, o_gf 3 2),
  (true, 46, o_ir)]
set_option maxRecDepth 100000 in
set_option maxHeartbeats 4000000 in
theorem zk_X5_undo (kc ks : Nat) : z_OK (zS RX5 cX5_undo 3 "undo" (some .int) 5 114 kc ks) zp_X5_undo := by
  unfold zp_X5_undo
  refine And.intro (s_iload_n dX5_undo_0 rfl) ?_
  refine And.intro (s_iconst dX5_undo_1 (by decide)) ?_
  refine And.intro (s_iconst dX5_undo_2 (by decide)) ?_
  refine And.intro (s_callS zf_X5_within zl_353 zl_352 ⟨rfl, rfl⟩ dX5_undo_3) ?_
  refine And.intro (s_if_ne dX5_undo_6 (by decide)) ?_
  refine And.intro (s_bipush dX5_undo_9 (by decide)) ?_
  refine And.intro (s_ireturn rfl (fun _ => rfl) dX5_undo_11) ?_
  refine And.intro (s_aload_n dX5_undo_12 rfl) ?_
  refine And.intro (s_iload_n dX5_undo_13 rfl) ?_
  refine And.intro (s_callV (C := RX5) (T := TX5) (N := 16) rfl zf_X5_textOf zg_X5_textOf zl_355 ⟨rfl, rfl⟩ dX5_undo_14) ?_
  refine And.intro (s_astore_n dX5_undo_17 rfl) ?_
  refine And.intro (s_aload_n dX5_undo_18 rfl) ?_
  refine And.intro (s_getfN (C := RX3) (T := TX3) (N := 4) rfl zin_X3 (by decide) zl_129 dX5_undo_19) ?_
  refine And.intro (s_if_ne dX5_undo_22 (by decide)) ?_
  refine And.intro (s_bipush dX5_undo_25 (by decide)) ?_
  refine And.intro (s_ireturn rfl (fun _ => rfl) dX5_undo_27) ?_
  refine And.intro (s_aload_n dX5_undo_28 rfl) ?_
  refine And.intro (s_dup dX5_undo_29) ?_
  refine And.intro (s_getfN (C := RX3) (T := TX3) (N := 4) rfl zin_X3 (by decide) zl_129 dX5_undo_30) ?_
  refine And.intro (s_iconst dX5_undo_33 (by decide)) ?_
  refine And.intro (s_isub dX5_undo_34) ?_
  refine And.intro (s_putIN (C := RX3) (T := TX3) (N := 4) rfl zin_X3 (by decide) tyX3 tyX3_ok nmX3 zl_129 rfl (by decide +kernel) dX5_undo_35) ?_
  refine And.intro (s_aload_n dX5_undo_38 rfl) ?_
  refine And.intro (s_callV (C := RX5) (T := TX5) (N := 16) rfl zf_X5_readTexts zg_X5_readTexts zl_368 ⟨rfl, rfl⟩ dX5_undo_39) ?_
  refine And.intro (s_aload_n dX5_undo_42 rfl) ?_
  refine And.intro (s_getfN (C := RX3) (T := TX3) (N := 4) rfl zin_X3 (by decide) zl_129 dX5_undo_43) ?_
  refine And.intro (s_ireturn rfl (fun _ => rfl) dX5_undo_46) ?_
  exact trivial
def zp_X5_wipe : List (Bool × Nat × zOp) := [
  (true, 0, o_il 1),
  (true, 1, o_ic 0),
  (true, 2, o_ic 1),
  (true, 3, o_cs zi_X5_within 3),
  (true, 6, o_in (fun x => x = 0) 12),
  (true, 9, o_ic (-2)),
  (true, 11, o_ir),
  (true, 12, o_al 0),
  (true, 13, o_il 1),
  (true, 14, o_cv zi_X5_textOf 1 5),
  (true, 17, o_as 2),
  (true, 18, o_al 2),
  (true, 19, o_gf 3 2),
  (true, 22, o_is 3),
  (true, 23, o_al 2),
  (true, 24, o_ic 0),
  (true, 25, o_pi 3 2),
  (true, 28, o_al 0),
  (true, 29, o_cv zi_X5_readTexts 0 5),
  (true, 32, o_il 3),
  (true, 33, o_ir)]
set_option maxRecDepth 100000 in
set_option maxHeartbeats 4000000 in
theorem zk_X5_wipe (kc ks : Nat) : z_OK (zS RX5 cX5_wipe 4 "wipe" (some .int) 5 114 kc ks) zp_X5_wipe := by
  unfold zp_X5_wipe
  refine And.intro (s_iload_n dX5_wipe_0 rfl) ?_
  refine And.intro (s_iconst dX5_wipe_1 (by decide)) ?_
  refine And.intro (s_iconst dX5_wipe_2 (by decide)) ?_
  refine And.intro (s_callS zf_X5_within zl_353 zl_352 ⟨rfl, rfl⟩ dX5_wipe_3) ?_
  refine And.intro (s_if_ne dX5_wipe_6 (by decide)) ?_
  refine And.intro (s_bipush dX5_wipe_9 (by decide)) ?_
  refine And.intro (s_ireturn rfl (fun _ => rfl) dX5_wipe_11) ?_
  refine And.intro (s_aload_n dX5_wipe_12 rfl) ?_
  refine And.intro (s_iload_n dX5_wipe_13 rfl) ?_
  refine And.intro (s_callV (C := RX5) (T := TX5) (N := 16) rfl zf_X5_textOf zg_X5_textOf zl_355 ⟨rfl, rfl⟩ dX5_wipe_14) ?_
  refine And.intro (s_astore_n dX5_wipe_17 rfl) ?_
  refine And.intro (s_aload_n dX5_wipe_18 rfl) ?_
  refine And.intro (s_getfN (C := RX3) (T := TX3) (N := 4) rfl zin_X3 (by decide) zl_129 dX5_wipe_19) ?_
  refine And.intro (s_istore_n dX5_wipe_22 rfl) ?_
  refine And.intro (s_aload_n dX5_wipe_23 rfl) ?_
  refine And.intro (s_iconst dX5_wipe_24 (by decide)) ?_
  refine And.intro (s_putIN (C := RX3) (T := TX3) (N := 4) rfl zin_X3 (by decide) tyX3 tyX3_ok nmX3 zl_129 rfl (by decide +kernel) dX5_wipe_25) ?_
  refine And.intro (s_aload_n dX5_wipe_28 rfl) ?_
  refine And.intro (s_callV (C := RX5) (T := TX5) (N := 16) rfl zf_X5_readTexts zg_X5_readTexts zl_368 ⟨rfl, rfl⟩ dX5_wipe_29) ?_
  refine And.intro (s_iload_n dX5_wipe_32 rfl) ?_
  refine And.intro (s_ireturn rfl (fun _ => rfl) dX5_wipe_33) ?_
  exact trivial
def zp_X5_write : List (Bool × Nat × zOp) := [
  (true, 0, o_al 0),
  (true, 1, o_il 1),
  (true, 2, o_cv zi_X5_isHouse 1 5),
  (true, 5, o_if (fun x => x = 0) 15),
  (true, 8, o_il 2),
  (true, 9, o_cs zi_X5_isSheet 1),
  (true, 12, o_in (fun x => x = 0) 18),
  (true, 15, o_ic (-2)),
  (true, 17, o_ir),
  (true, 18, o_al 0),
  (true, 19, o_gf 5 14),
  (true, 22, o_il 2),
  (true, 23, o_cv zi_X1_isLost 1 1),
  (true, 26, o_if (fun x => x = 0) 35),
  (true, 29, o_al 0),
  (true, 30, o_ic 1),
  (true, 31, o_cv zi_X5_found 1 5),
  (true, 34, o_ir),
  (true, 35, o_al 0),
  (true, 36, o_cv zi_X5_toldCourse 0 5),
  (true, 39, o_as 3),
  (true, 40, o_al 0),
  (true, 41, o_gf 5 14),
  (true, 44, o_gf 1 1),
  (true, 47, o_il 2),
  (true, 48, o_ia),
  (true, 49, o_ic 40),
  (true, 51, o_mi 75 (fun x y => if y < x then y else x)),
  (true, 54, o_is 4),
  (true, 56, o_ic 0),
  (true, 57, o_is 5),
  (false, 59, o_mark 59 []),
  (true, 59, o_il 5),
  (true, 61, o_il 4),
  (true, 63, o_cmp (fun x y => y ≤ x) 89),
  (true, 66, o_al 0),
  (true, 67, o_gf 5 14),
  (true, 70, o_il 2),
  (true, 71, o_il 5),
  (true, 73, o_al 3),
  (true, 74, o_il 5),
  (true, 76, o_il 1),
  (true, 77, o_cv zi_X0_gotBy 2 0),
  (true, 80, o_cv zi_X1_store 3 1),
  (true, 83, o_inc 5 1),
  (true, 86, o_gb 59 []),
  (true, 89, o_il 4),
  (true, 91, o_ir)]
set_option maxRecDepth 100000 in
set_option maxHeartbeats 4000000 in
theorem zk_X5_write (kc ks : Nat) : z_OK (zS RX5 cX5_write 6 "write" (some .int) 3 75 kc ks) zp_X5_write := by
  unfold zp_X5_write
  refine And.intro (s_aload_n dX5_write_0 rfl) ?_
  refine And.intro (s_iload_n dX5_write_1 rfl) ?_
  refine And.intro (s_callV (C := RX5) (T := TX5) (N := 16) rfl zf_X5_isHouse zg_X5_isHouse zl_419 ⟨rfl, rfl⟩ dX5_write_2) ?_
  refine And.intro (s_if_eq dX5_write_5 (by decide)) ?_
  refine And.intro (s_iload_n dX5_write_8 rfl) ?_
  refine And.intro (s_callS zf_X5_isSheet zl_466 zl_465 ⟨rfl, rfl⟩ dX5_write_9) ?_
  refine And.intro (s_if_ne dX5_write_12 (by decide)) ?_
  refine And.intro (s_bipush dX5_write_15 (by decide)) ?_
  refine And.intro (s_ireturn rfl (fun _ => rfl) dX5_write_17) ?_
  refine And.intro (s_aload_n dX5_write_18 rfl) ?_
  refine And.intro (s_getf (C := RX5) (T := TX5) (N := 16) rfl zin_X5 (by decide) zl_313 dX5_write_19) ?_
  refine And.intro (s_iload_n dX5_write_22 rfl) ?_
  refine And.intro (s_callVN (C := RX1) (T := TX1) (N := 3) rfl zf_X1_isLost zg_X1_isLost zl_468 ⟨rfl, rfl⟩ dX5_write_23) ?_
  refine And.intro (s_if_eq dX5_write_26 (by decide)) ?_
  refine And.intro (s_aload_n dX5_write_29 rfl) ?_
  refine And.intro (s_iconst dX5_write_30 (by decide)) ?_
  refine And.intro (s_callV (C := RX5) (T := TX5) (N := 16) rfl zf_X5_found zg_X5_found zl_472 ⟨rfl, rfl⟩ dX5_write_31) ?_
  refine And.intro (s_ireturn rfl (fun _ => rfl) dX5_write_34) ?_
  refine And.intro (s_aload_n dX5_write_35 rfl) ?_
  refine And.intro (s_callV (C := RX5) (T := TX5) (N := 16) rfl zf_X5_toldCourse zg_X5_toldCourse zl_488 ⟨rfl, rfl⟩ dX5_write_36) ?_
  refine And.intro (s_astore_n dX5_write_39 rfl) ?_
  refine And.intro (s_aload_n dX5_write_40 rfl) ?_
  refine And.intro (s_getf (C := RX5) (T := TX5) (N := 16) rfl zin_X5 (by decide) zl_313 dX5_write_41) ?_
  refine And.intro (s_getfN (C := RX1) (T := TX1) (N := 3) rfl zin_X1 (by decide) zl_290 dX5_write_44) ?_
  refine And.intro (s_iload_n dX5_write_47 rfl) ?_
  refine And.intro (s_iaload dX5_write_48) ?_
  refine And.intro (s_bipush dX5_write_49 (by decide)) ?_
  refine And.intro (s_mmin zl_565 zl_120 zl_96 zl_121 (by decide) dX5_write_51) ?_
  refine And.intro (s_istore dX5_write_54) ?_
  refine And.intro (s_iconst dX5_write_56 (by decide)) ?_
  refine And.intro (s_istore dX5_write_57) ?_
  refine And.intro (s_mark) ?_
  refine And.intro (s_iload dX5_write_59) ?_
  refine And.intro (s_iload dX5_write_61) ?_
  refine And.intro (s_icmp_ge dX5_write_63 (by decide)) ?_
  refine And.intro (s_aload_n dX5_write_66 rfl) ?_
  refine And.intro (s_getf (C := RX5) (T := TX5) (N := 16) rfl zin_X5 (by decide) zl_313 dX5_write_67) ?_
  refine And.intro (s_iload_n dX5_write_70 rfl) ?_
  refine And.intro (s_iload dX5_write_71) ?_
  refine And.intro (s_aload_n dX5_write_73 rfl) ?_
  refine And.intro (s_iload dX5_write_74) ?_
  refine And.intro (s_iload_n dX5_write_76 rfl) ?_
  refine And.intro (s_callVN (C := RX0) (T := TX0) (N := 6) rfl zf_X0_gotBy zg_X0_gotBy zl_516 ⟨rfl, rfl⟩ dX5_write_77) ?_
  refine And.intro (s_callVN (C := RX1) (T := TX1) (N := 3) rfl zf_X1_store zg_X1_store zl_718 ⟨rfl, rfl⟩ dX5_write_80) ?_
  refine And.intro (s_iinc dX5_write_83 (by decide)) ?_
  refine And.intro (s_gotob dX5_write_86 (by decide)) ?_
  refine And.intro (s_iload dX5_write_89) ?_
  refine And.intro (s_ireturn rfl (fun _ => rfl) dX5_write_91) ?_
  exact trivial
